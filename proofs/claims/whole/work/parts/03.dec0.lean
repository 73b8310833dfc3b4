theorem dX0_init_0 : decode cX0_init 0 = .ok (.aload_n 0, 1) := by decide +kernel
theorem dX0_init_1 : decode cX0_init 1 = .ok (.invokespecial 3, 3) := by decide +kernel
theorem dX0_init_4 : decode cX0_init 4 = .ok (.aload_n 0, 1) := by decide +kernel
theorem dX0_init_5 : decode cX0_init 5 = .ok (.bipush 8, 2) := by decide +kernel
theorem dX0_init_7 : decode cX0_init 7 = .ok (.anewarray 9, 3) := by decide +kernel
theorem dX0_init_10 : decode cX0_init 10 = .ok (.putfield 11, 3) := by decide +kernel
theorem dX0_init_13 : decode cX0_init 13 = .ok (.iconst 0, 1) := by decide +kernel
theorem dX0_init_14 : decode cX0_init 14 = .ok (.istore_n 1, 1) := by decide +kernel
theorem dX0_init_15 : decode cX0_init 15 = .ok (.iload_n 1, 1) := by decide +kernel
theorem dX0_init_16 : decode cX0_init 16 = .ok (.bipush 8, 2) := by decide +kernel
theorem dX0_init_18 : decode cX0_init 18 = .ok (.if_icmp .ge 22, 3) := by decide +kernel
theorem dX0_init_21 : decode cX0_init 21 = .ok (.aload_n 0, 1) := by decide +kernel
theorem dX0_init_22 : decode cX0_init 22 = .ok (.getfield 11, 3) := by decide +kernel
theorem dX0_init_25 : decode cX0_init 25 = .ok (.iload_n 1, 1) := by decide +kernel
theorem dX0_init_26 : decode cX0_init 26 = .ok (.new 9, 3) := by decide +kernel
theorem dX0_init_29 : decode cX0_init 29 = .ok (.dup, 1) := by decide +kernel
theorem dX0_init_30 : decode cX0_init 30 = .ok (.invokespecial 17, 3) := by decide +kernel
theorem dX0_init_33 : decode cX0_init 33 = .ok (.aastore, 1) := by decide +kernel
theorem dX0_init_34 : decode cX0_init 34 = .ok (.iinc 1 1, 3) := by decide +kernel
theorem dX0_init_37 : decode cX0_init 37 = .ok (.goto (-22), 3) := by decide +kernel
theorem dX0_init_40 : decode cX0_init 40 = .ok (.aload_n 0, 1) := by decide +kernel
theorem dX0_init_41 : decode cX0_init 41 = .ok (.bipush 6, 2) := by decide +kernel
theorem dX0_init_43 : decode cX0_init 43 = .ok (.newarray .int, 2) := by decide +kernel
theorem dX0_init_45 : decode cX0_init 45 = .ok (.putfield 18, 3) := by decide +kernel
theorem dX0_init_48 : decode cX0_init 48 = .ok (.iconst 0, 1) := by decide +kernel
theorem dX0_init_49 : decode cX0_init 49 = .ok (.istore_n 1, 1) := by decide +kernel
theorem dX0_init_50 : decode cX0_init 50 = .ok (.iload_n 1, 1) := by decide +kernel
theorem dX0_init_51 : decode cX0_init 51 = .ok (.bipush 6, 2) := by decide +kernel
theorem dX0_init_53 : decode cX0_init 53 = .ok (.if_icmp .ge 21, 3) := by decide +kernel
theorem dX0_init_56 : decode cX0_init 56 = .ok (.aload_n 0, 1) := by decide +kernel
theorem dX0_init_57 : decode cX0_init 57 = .ok (.getfield 18, 3) := by decide +kernel
theorem dX0_init_60 : decode cX0_init 60 = .ok (.iload_n 1, 1) := by decide +kernel
theorem dX0_init_61 : decode cX0_init 61 = .ok (.iload_n 1, 1) := by decide +kernel
theorem dX0_init_62 : decode cX0_init 62 = .ok (.iload_n 1, 1) := by decide +kernel
theorem dX0_init_63 : decode cX0_init 63 = .ok (.iconst 5, 1) := by decide +kernel
theorem dX0_init_64 : decode cX0_init 64 = .ok (.invokestatic 22, 3) := by decide +kernel
theorem dX0_init_67 : decode cX0_init 67 = .ok (.iastore, 1) := by decide +kernel
theorem dX0_init_68 : decode cX0_init 68 = .ok (.iinc 1 1, 3) := by decide +kernel
theorem dX0_init_71 : decode cX0_init 71 = .ok (.goto (-21), 3) := by decide +kernel
theorem dX0_init_74 : decode cX0_init 74 = .ok (.aload_n 0, 1) := by decide +kernel
theorem dX0_init_75 : decode cX0_init 75 = .ok (.bipush 10, 2) := by decide +kernel
theorem dX0_init_77 : decode cX0_init 77 = .ok (.newarray .int, 2) := by decide +kernel
theorem dX0_init_79 : decode cX0_init 79 = .ok (.putfield 26, 3) := by decide +kernel
theorem dX0_init_82 : decode cX0_init 82 = .ok (.iconst 0, 1) := by decide +kernel
theorem dX0_init_83 : decode cX0_init 83 = .ok (.istore_n 1, 1) := by decide +kernel
theorem dX0_init_84 : decode cX0_init 84 = .ok (.iload_n 1, 1) := by decide +kernel
theorem dX0_init_85 : decode cX0_init 85 = .ok (.bipush 10, 2) := by decide +kernel
theorem dX0_init_87 : decode cX0_init 87 = .ok (.if_icmp .ge 16, 3) := by decide +kernel
theorem dX0_init_90 : decode cX0_init 90 = .ok (.aload_n 0, 1) := by decide +kernel
theorem dX0_init_91 : decode cX0_init 91 = .ok (.getfield 26, 3) := by decide +kernel
theorem dX0_init_94 : decode cX0_init 94 = .ok (.iload_n 1, 1) := by decide +kernel
theorem dX0_init_95 : decode cX0_init 95 = .ok (.iconst (-1), 1) := by decide +kernel
theorem dX0_init_96 : decode cX0_init 96 = .ok (.iastore, 1) := by decide +kernel
theorem dX0_init_97 : decode cX0_init 97 = .ok (.iinc 1 1, 3) := by decide +kernel
theorem dX0_init_100 : decode cX0_init 100 = .ok (.goto (-16), 3) := by decide +kernel
theorem dX0_init_103 : decode cX0_init 103 = .ok (.aload_n 0, 1) := by decide +kernel
theorem dX0_init_104 : decode cX0_init 104 = .ok (.iconst 0, 1) := by decide +kernel
theorem dX0_init_105 : decode cX0_init 105 = .ok (.putfield 29, 3) := by decide +kernel
theorem dX0_init_108 : decode cX0_init 108 = .ok (.aload_n 0, 1) := by decide +kernel
theorem dX0_init_109 : decode cX0_init 109 = .ok (.iconst 0, 1) := by decide +kernel
theorem dX0_init_110 : decode cX0_init 110 = .ok (.putfield 33, 3) := by decide +kernel
theorem dX0_init_113 : decode cX0_init 113 = .ok (.aload_n 0, 1) := by decide +kernel
theorem dX0_init_114 : decode cX0_init 114 = .ok (.iconst 1, 1) := by decide +kernel
theorem dX0_init_115 : decode cX0_init 115 = .ok (.putfield 36, 3) := by decide +kernel
theorem dX0_init_118 : decode cX0_init 118 = .ok (.return_, 1) := by decide +kernel
theorem dX0_become_0 : decode cX0_become 0 = .ok (.iconst 0, 1) := by decide +kernel
theorem dX0_become_1 : decode cX0_become 1 = .ok (.istore_n 2, 1) := by decide +kernel
theorem dX0_become_2 : decode cX0_become 2 = .ok (.iload_n 2, 1) := by decide +kernel
theorem dX0_become_3 : decode cX0_become 3 = .ok (.aload_n 1, 1) := by decide +kernel
theorem dX0_become_4 : decode cX0_become 4 = .ok (.getfield 29, 3) := by decide +kernel
theorem dX0_become_7 : decode cX0_become 7 = .ok (.if_icmp .ge 24, 3) := by decide +kernel
theorem dX0_become_10 : decode cX0_become 10 = .ok (.aload_n 0, 1) := by decide +kernel
theorem dX0_become_11 : decode cX0_become 11 = .ok (.getfield 11, 3) := by decide +kernel
theorem dX0_become_14 : decode cX0_become 14 = .ok (.iload_n 2, 1) := by decide +kernel
theorem dX0_become_15 : decode cX0_become 15 = .ok (.aaload, 1) := by decide +kernel
theorem dX0_become_16 : decode cX0_become 16 = .ok (.aload_n 1, 1) := by decide +kernel
theorem dX0_become_17 : decode cX0_become 17 = .ok (.getfield 11, 3) := by decide +kernel
theorem dX0_become_20 : decode cX0_become 20 = .ok (.iload_n 2, 1) := by decide +kernel
theorem dX0_become_21 : decode cX0_become 21 = .ok (.aaload, 1) := by decide +kernel
theorem dX0_become_22 : decode cX0_become 22 = .ok (.invokevirtual 39, 3) := by decide +kernel
theorem dX0_become_25 : decode cX0_become 25 = .ok (.iinc 2 1, 3) := by decide +kernel
theorem dX0_become_28 : decode cX0_become 28 = .ok (.goto (-26), 3) := by decide +kernel
theorem dX0_become_31 : decode cX0_become 31 = .ok (.aload_n 1, 1) := by decide +kernel
theorem dX0_become_32 : decode cX0_become 32 = .ok (.getfield 18, 3) := by decide +kernel
theorem dX0_become_35 : decode cX0_become 35 = .ok (.iconst 0, 1) := by decide +kernel
theorem dX0_become_36 : decode cX0_become 36 = .ok (.aload_n 0, 1) := by decide +kernel
theorem dX0_become_37 : decode cX0_become 37 = .ok (.getfield 18, 3) := by decide +kernel
theorem dX0_become_40 : decode cX0_become 40 = .ok (.iconst 0, 1) := by decide +kernel
theorem dX0_become_41 : decode cX0_become 41 = .ok (.bipush 6, 2) := by decide +kernel
theorem dX0_become_43 : decode cX0_become 43 = .ok (.invokestatic 43, 3) := by decide +kernel
theorem dX0_become_46 : decode cX0_become 46 = .ok (.aload_n 1, 1) := by decide +kernel
theorem dX0_become_47 : decode cX0_become 47 = .ok (.getfield 26, 3) := by decide +kernel
theorem dX0_become_50 : decode cX0_become 50 = .ok (.iconst 0, 1) := by decide +kernel
theorem dX0_become_51 : decode cX0_become 51 = .ok (.aload_n 0, 1) := by decide +kernel
theorem dX0_become_52 : decode cX0_become 52 = .ok (.getfield 26, 3) := by decide +kernel
theorem dX0_become_55 : decode cX0_become 55 = .ok (.iconst 0, 1) := by decide +kernel
theorem dX0_become_56 : decode cX0_become 56 = .ok (.bipush 10, 2) := by decide +kernel
theorem dX0_become_58 : decode cX0_become 58 = .ok (.invokestatic 43, 3) := by decide +kernel
theorem dX0_become_61 : decode cX0_become 61 = .ok (.aload_n 0, 1) := by decide +kernel
theorem dX0_become_62 : decode cX0_become 62 = .ok (.aload_n 1, 1) := by decide +kernel
theorem dX0_become_63 : decode cX0_become 63 = .ok (.getfield 29, 3) := by decide +kernel
theorem dX0_become_66 : decode cX0_become 66 = .ok (.putfield 29, 3) := by decide +kernel
theorem dX0_become_69 : decode cX0_become 69 = .ok (.aload_n 0, 1) := by decide +kernel
theorem dX0_become_70 : decode cX0_become 70 = .ok (.aload_n 1, 1) := by decide +kernel
theorem dX0_become_71 : decode cX0_become 71 = .ok (.getfield 33, 3) := by decide +kernel
theorem dX0_become_74 : decode cX0_become 74 = .ok (.putfield 33, 3) := by decide +kernel
theorem dX0_become_77 : decode cX0_become 77 = .ok (.aload_n 0, 1) := by decide +kernel
theorem dX0_become_78 : decode cX0_become 78 = .ok (.aload_n 1, 1) := by decide +kernel
theorem dX0_become_79 : decode cX0_become 79 = .ok (.getfield 36, 3) := by decide +kernel
theorem dX0_become_82 : decode cX0_become 82 = .ok (.putfield 36, 3) := by decide +kernel
theorem dX0_become_85 : decode cX0_become 85 = .ok (.return_, 1) := by decide +kernel
theorem dX0_has_0 : decode cX0_has 0 = .ok (.iload_n 1, 1) := by decide +kernel
theorem dX0_has_1 : decode cX0_has 1 = .ok (.aload_n 0, 1) := by decide +kernel
theorem dX0_has_2 : decode cX0_has 2 = .ok (.getfield 29, 3) := by decide +kernel
theorem dX0_has_5 : decode cX0_has 5 = .ok (.iconst 1, 1) := by decide +kernel
theorem dX0_has_6 : decode cX0_has 6 = .ok (.isub, 1) := by decide +kernel
theorem dX0_has_7 : decode cX0_has 7 = .ok (.invokestatic 49, 3) := by decide +kernel
theorem dX0_has_10 : decode cX0_has 10 = .ok (.ireturn, 1) := by decide +kernel
theorem dX0_putDown_0 : decode cX0_putDown 0 = .ok (.aload_n 0, 1) := by decide +kernel
theorem dX0_putDown_1 : decode cX0_putDown 1 = .ok (.getfield 29, 3) := by decide +kernel
theorem dX0_putDown_4 : decode cX0_putDown 4 = .ok (.bipush 8, 2) := by decide +kernel
theorem dX0_putDown_6 : decode cX0_putDown 6 = .ok (.if_icmp .lt 5, 3) := by decide +kernel
theorem dX0_putDown_9 : decode cX0_putDown 9 = .ok (.iconst (-1), 1) := by decide +kernel
theorem dX0_putDown_10 : decode cX0_putDown 10 = .ok (.ireturn, 1) := by decide +kernel
theorem dX0_putDown_11 : decode cX0_putDown 11 = .ok (.aload_n 0, 1) := by decide +kernel
theorem dX0_putDown_12 : decode cX0_putDown 12 = .ok (.getfield 11, 3) := by decide +kernel
theorem dX0_putDown_15 : decode cX0_putDown 15 = .ok (.aload_n 0, 1) := by decide +kernel
theorem dX0_putDown_16 : decode cX0_putDown 16 = .ok (.getfield 29, 3) := by decide +kernel
theorem dX0_putDown_19 : decode cX0_putDown 19 = .ok (.aaload, 1) := by decide +kernel
theorem dX0_putDown_20 : decode cX0_putDown 20 = .ok (.iload_n 1, 1) := by decide +kernel
theorem dX0_putDown_21 : decode cX0_putDown 21 = .ok (.iload_n 2, 1) := by decide +kernel
theorem dX0_putDown_22 : decode cX0_putDown 22 = .ok (.invokevirtual 53, 3) := by decide +kernel
theorem dX0_putDown_25 : decode cX0_putDown 25 = .ok (.aload_n 0, 1) := by decide +kernel
theorem dX0_putDown_26 : decode cX0_putDown 26 = .ok (.dup, 1) := by decide +kernel
theorem dX0_putDown_27 : decode cX0_putDown 27 = .ok (.getfield 29, 3) := by decide +kernel
theorem dX0_putDown_30 : decode cX0_putDown 30 = .ok (.iconst 1, 1) := by decide +kernel
theorem dX0_putDown_31 : decode cX0_putDown 31 = .ok (.iadd, 1) := by decide +kernel
theorem dX0_putDown_32 : decode cX0_putDown 32 = .ok (.putfield 29, 3) := by decide +kernel
theorem dX0_putDown_35 : decode cX0_putDown 35 = .ok (.aload_n 0, 1) := by decide +kernel
theorem dX0_putDown_36 : decode cX0_putDown 36 = .ok (.getfield 29, 3) := by decide +kernel
theorem dX0_putDown_39 : decode cX0_putDown 39 = .ok (.iconst 1, 1) := by decide +kernel
theorem dX0_putDown_40 : decode cX0_putDown 40 = .ok (.isub, 1) := by decide +kernel
theorem dX0_putDown_41 : decode cX0_putDown 41 = .ok (.ireturn, 1) := by decide +kernel
theorem dX0_lyingIn_0 : decode cX0_lyingIn 0 = .ok (.iconst 0, 1) := by decide +kernel
theorem dX0_lyingIn_1 : decode cX0_lyingIn 1 = .ok (.istore_n 3, 1) := by decide +kernel
theorem dX0_lyingIn_2 : decode cX0_lyingIn 2 = .ok (.iconst 0, 1) := by decide +kernel
theorem dX0_lyingIn_3 : decode cX0_lyingIn 3 = .ok (.istore 4, 2) := by decide +kernel
theorem dX0_lyingIn_5 : decode cX0_lyingIn 5 = .ok (.iload 4, 2) := by decide +kernel
theorem dX0_lyingIn_7 : decode cX0_lyingIn 7 = .ok (.aload_n 0, 1) := by decide +kernel
theorem dX0_lyingIn_8 : decode cX0_lyingIn 8 = .ok (.getfield 29, 3) := by decide +kernel
theorem dX0_lyingIn_11 : decode cX0_lyingIn 11 = .ok (.if_icmp .ge 30, 3) := by decide +kernel
theorem dX0_lyingIn_14 : decode cX0_lyingIn 14 = .ok (.aload_n 0, 1) := by decide +kernel
theorem dX0_lyingIn_15 : decode cX0_lyingIn 15 = .ok (.getfield 11, 3) := by decide +kernel
theorem dX0_lyingIn_18 : decode cX0_lyingIn 18 = .ok (.iload 4, 2) := by decide +kernel
theorem dX0_lyingIn_20 : decode cX0_lyingIn 20 = .ok (.aaload, 1) := by decide +kernel
theorem dX0_lyingIn_21 : decode cX0_lyingIn 21 = .ok (.getfield 57, 3) := by decide +kernel
theorem dX0_lyingIn_24 : decode cX0_lyingIn 24 = .ok (.iload_n 1, 1) := by decide +kernel
theorem dX0_lyingIn_25 : decode cX0_lyingIn 25 = .ok (.if_icmp .ne 10, 3) := by decide +kernel
theorem dX0_lyingIn_28 : decode cX0_lyingIn 28 = .ok (.iload_n 3, 1) := by decide +kernel
theorem dX0_lyingIn_29 : decode cX0_lyingIn 29 = .ok (.iconst 1, 1) := by decide +kernel
theorem dX0_lyingIn_30 : decode cX0_lyingIn 30 = .ok (.iload 4, 2) := by decide +kernel
theorem dX0_lyingIn_32 : decode cX0_lyingIn 32 = .ok (.ishl, 1) := by decide +kernel
theorem dX0_lyingIn_33 : decode cX0_lyingIn 33 = .ok (.ior, 1) := by decide +kernel
theorem dX0_lyingIn_34 : decode cX0_lyingIn 34 = .ok (.istore_n 3, 1) := by decide +kernel
theorem dX0_lyingIn_35 : decode cX0_lyingIn 35 = .ok (.iinc 4 1, 3) := by decide +kernel
theorem dX0_lyingIn_38 : decode cX0_lyingIn 38 = .ok (.goto (-33), 3) := by decide +kernel
theorem dX0_lyingIn_41 : decode cX0_lyingIn 41 = .ok (.iload_n 3, 1) := by decide +kernel
theorem dX0_lyingIn_42 : decode cX0_lyingIn 42 = .ok (.iload_n 2, 1) := by decide +kernel
theorem dX0_lyingIn_43 : decode cX0_lyingIn 43 = .ok (.iconst (-1), 1) := by decide +kernel
theorem dX0_lyingIn_44 : decode cX0_lyingIn 44 = .ok (.ixor, 1) := by decide +kernel
theorem dX0_lyingIn_45 : decode cX0_lyingIn 45 = .ok (.iand, 1) := by decide +kernel
theorem dX0_lyingIn_46 : decode cX0_lyingIn 46 = .ok (.ireturn, 1) := by decide +kernel
theorem dX0_hushOf_0 : decode cX0_hushOf 0 = .ok (.iconst 0, 1) := by decide +kernel
theorem dX0_hushOf_1 : decode cX0_hushOf 1 = .ok (.istore_n 2, 1) := by decide +kernel
theorem dX0_hushOf_2 : decode cX0_hushOf 2 = .ok (.iconst 0, 1) := by decide +kernel
theorem dX0_hushOf_3 : decode cX0_hushOf 3 = .ok (.istore_n 3, 1) := by decide +kernel
theorem dX0_hushOf_4 : decode cX0_hushOf 4 = .ok (.iload_n 3, 1) := by decide +kernel
theorem dX0_hushOf_5 : decode cX0_hushOf 5 = .ok (.aload_n 0, 1) := by decide +kernel
theorem dX0_hushOf_6 : decode cX0_hushOf 6 = .ok (.getfield 29, 3) := by decide +kernel
theorem dX0_hushOf_9 : decode cX0_hushOf 9 = .ok (.if_icmp .ge 29, 3) := by decide +kernel
theorem dX0_hushOf_12 : decode cX0_hushOf 12 = .ok (.iload_n 3, 1) := by decide +kernel
theorem dX0_hushOf_13 : decode cX0_hushOf 13 = .ok (.iload_n 1, 1) := by decide +kernel
theorem dX0_hushOf_14 : decode cX0_hushOf 14 = .ok (.invokestatic 60, 3) := by decide +kernel
theorem dX0_hushOf_17 : decode cX0_hushOf 17 = .ok (.ifCond .eq 15, 3) := by decide +kernel
theorem dX0_hushOf_20 : decode cX0_hushOf 20 = .ok (.iload_n 2, 1) := by decide +kernel
theorem dX0_hushOf_21 : decode cX0_hushOf 21 = .ok (.aload_n 0, 1) := by decide +kernel
theorem dX0_hushOf_22 : decode cX0_hushOf 22 = .ok (.getfield 11, 3) := by decide +kernel
theorem dX0_hushOf_25 : decode cX0_hushOf 25 = .ok (.iload_n 3, 1) := by decide +kernel
theorem dX0_hushOf_26 : decode cX0_hushOf 26 = .ok (.aaload, 1) := by decide +kernel
theorem dX0_hushOf_27 : decode cX0_hushOf 27 = .ok (.invokevirtual 63, 3) := by decide +kernel
theorem dX0_hushOf_30 : decode cX0_hushOf 30 = .ok (.iadd, 1) := by decide +kernel
theorem dX0_hushOf_31 : decode cX0_hushOf 31 = .ok (.istore_n 2, 1) := by decide +kernel
theorem dX0_hushOf_32 : decode cX0_hushOf 32 = .ok (.iinc 3 1, 3) := by decide +kernel
theorem dX0_hushOf_35 : decode cX0_hushOf 35 = .ok (.goto (-31), 3) := by decide +kernel
theorem dX0_hushOf_38 : decode cX0_hushOf 38 = .ok (.iload_n 2, 1) := by decide +kernel
theorem dX0_hushOf_39 : decode cX0_hushOf 39 = .ok (.ireturn, 1) := by decide +kernel
theorem dX0_knownBy_0 : decode cX0_knownBy 0 = .ok (.iconst 0, 1) := by decide +kernel
theorem dX0_knownBy_1 : decode cX0_knownBy 1 = .ok (.istore_n 2, 1) := by decide +kernel
theorem dX0_knownBy_2 : decode cX0_knownBy 2 = .ok (.iconst 0, 1) := by decide +kernel
theorem dX0_knownBy_3 : decode cX0_knownBy 3 = .ok (.istore_n 3, 1) := by decide +kernel
theorem dX0_knownBy_4 : decode cX0_knownBy 4 = .ok (.iload_n 3, 1) := by decide +kernel
theorem dX0_knownBy_5 : decode cX0_knownBy 5 = .ok (.aload_n 0, 1) := by decide +kernel
theorem dX0_knownBy_6 : decode cX0_knownBy 6 = .ok (.getfield 29, 3) := by decide +kernel
theorem dX0_knownBy_9 : decode cX0_knownBy 9 = .ok (.if_icmp .ge 29, 3) := by decide +kernel
theorem dX0_knownBy_12 : decode cX0_knownBy 12 = .ok (.iload_n 3, 1) := by decide +kernel
theorem dX0_knownBy_13 : decode cX0_knownBy 13 = .ok (.iload_n 1, 1) := by decide +kernel
theorem dX0_knownBy_14 : decode cX0_knownBy 14 = .ok (.invokestatic 60, 3) := by decide +kernel
theorem dX0_knownBy_17 : decode cX0_knownBy 17 = .ok (.ifCond .eq 15, 3) := by decide +kernel
theorem dX0_knownBy_20 : decode cX0_knownBy 20 = .ok (.iload_n 2, 1) := by decide +kernel
theorem dX0_knownBy_21 : decode cX0_knownBy 21 = .ok (.aload_n 0, 1) := by decide +kernel
theorem dX0_knownBy_22 : decode cX0_knownBy 22 = .ok (.getfield 11, 3) := by decide +kernel
theorem dX0_knownBy_25 : decode cX0_knownBy 25 = .ok (.iload_n 3, 1) := by decide +kernel
theorem dX0_knownBy_26 : decode cX0_knownBy 26 = .ok (.aaload, 1) := by decide +kernel
theorem dX0_knownBy_27 : decode cX0_knownBy 27 = .ok (.getfield 67, 3) := by decide +kernel
theorem dX0_knownBy_30 : decode cX0_knownBy 30 = .ok (.ior, 1) := by decide +kernel
theorem dX0_knownBy_31 : decode cX0_knownBy 31 = .ok (.istore_n 2, 1) := by decide +kernel
theorem dX0_knownBy_32 : decode cX0_knownBy 32 = .ok (.iinc 3 1, 3) := by decide +kernel
theorem dX0_knownBy_35 : decode cX0_knownBy 35 = .ok (.goto (-31), 3) := by decide +kernel
theorem dX0_knownBy_38 : decode cX0_knownBy 38 = .ok (.iload_n 2, 1) := by decide +kernel
theorem dX0_knownBy_39 : decode cX0_knownBy 39 = .ok (.ireturn, 1) := by decide +kernel
theorem dX0_knownByHandsOf_0 : decode cX0_knownByHandsOf 0 = .ok (.iconst 0, 1) := by decide +kernel
theorem dX0_knownByHandsOf_1 : decode cX0_knownByHandsOf 1 = .ok (.istore_n 2, 1) := by decide +kernel
theorem dX0_knownByHandsOf_2 : decode cX0_knownByHandsOf 2 = .ok (.iconst 0, 1) := by decide +kernel
theorem dX0_knownByHandsOf_3 : decode cX0_knownByHandsOf 3 = .ok (.istore_n 3, 1) := by decide +kernel
theorem dX0_knownByHandsOf_4 : decode cX0_knownByHandsOf 4 = .ok (.iload_n 3, 1) := by decide +kernel
theorem dX0_knownByHandsOf_5 : decode cX0_knownByHandsOf 5 = .ok (.aload_n 0, 1) := by decide +kernel
theorem dX0_knownByHandsOf_6 : decode cX0_knownByHandsOf 6 = .ok (.getfield 29, 3) := by decide +kernel
theorem dX0_knownByHandsOf_9 : decode cX0_knownByHandsOf 9 = .ok (.if_icmp .ge 29, 3) := by decide +kernel
theorem dX0_knownByHandsOf_12 : decode cX0_knownByHandsOf 12 = .ok (.iload_n 3, 1) := by decide +kernel
theorem dX0_knownByHandsOf_13 : decode cX0_knownByHandsOf 13 = .ok (.iload_n 1, 1) := by decide +kernel
theorem dX0_knownByHandsOf_14 : decode cX0_knownByHandsOf 14 = .ok (.invokestatic 60, 3) := by decide +kernel
theorem dX0_knownByHandsOf_17 : decode cX0_knownByHandsOf 17 = .ok (.ifCond .eq 15, 3) := by decide +kernel
theorem dX0_knownByHandsOf_20 : decode cX0_knownByHandsOf 20 = .ok (.iload_n 2, 1) := by decide +kernel
theorem dX0_knownByHandsOf_21 : decode cX0_knownByHandsOf 21 = .ok (.aload_n 0, 1) := by decide +kernel
theorem dX0_knownByHandsOf_22 : decode cX0_knownByHandsOf 22 = .ok (.getfield 11, 3) := by decide +kernel
theorem dX0_knownByHandsOf_25 : decode cX0_knownByHandsOf 25 = .ok (.iload_n 3, 1) := by decide +kernel
theorem dX0_knownByHandsOf_26 : decode cX0_knownByHandsOf 26 = .ok (.aaload, 1) := by decide +kernel
theorem dX0_knownByHandsOf_27 : decode cX0_knownByHandsOf 27 = .ok (.getfield 70, 3) := by decide +kernel
theorem dX0_knownByHandsOf_30 : decode cX0_knownByHandsOf 30 = .ok (.ior, 1) := by decide +kernel
theorem dX0_knownByHandsOf_31 : decode cX0_knownByHandsOf 31 = .ok (.istore_n 2, 1) := by decide +kernel
theorem dX0_knownByHandsOf_32 : decode cX0_knownByHandsOf 32 = .ok (.iinc 3 1, 3) := by decide +kernel
theorem dX0_knownByHandsOf_35 : decode cX0_knownByHandsOf 35 = .ok (.goto (-31), 3) := by decide +kernel
theorem dX0_knownByHandsOf_38 : decode cX0_knownByHandsOf 38 = .ok (.iload_n 2, 1) := by decide +kernel
theorem dX0_knownByHandsOf_39 : decode cX0_knownByHandsOf 39 = .ok (.ireturn, 1) := by decide +kernel
theorem dX0_knownByGloves_0 : decode cX0_knownByGloves 0 = .ok (.aload_n 0, 1) := by decide +kernel
theorem dX0_knownByGloves_1 : decode cX0_knownByGloves 1 = .ok (.aload_n 0, 1) := by decide +kernel
theorem dX0_knownByGloves_2 : decode cX0_knownByGloves 2 = .ok (.invokevirtual 73, 3) := by decide +kernel
theorem dX0_knownByGloves_5 : decode cX0_knownByGloves 5 = .ok (.invokevirtual 76, 3) := by decide +kernel
theorem dX0_knownByGloves_8 : decode cX0_knownByGloves 8 = .ok (.ireturn, 1) := by decide +kernel
theorem dX0_knownByHands_0 : decode cX0_knownByHands 0 = .ok (.aload_n 0, 1) := by decide +kernel
theorem dX0_knownByHands_1 : decode cX0_knownByHands 1 = .ok (.aload_n 0, 1) := by decide +kernel
theorem dX0_knownByHands_2 : decode cX0_knownByHands 2 = .ok (.invokevirtual 73, 3) := by decide +kernel
theorem dX0_knownByHands_5 : decode cX0_knownByHands 5 = .ok (.invokevirtual 80, 3) := by decide +kernel
theorem dX0_knownByHands_8 : decode cX0_knownByHands 8 = .ok (.ireturn, 1) := by decide +kernel
theorem dX0_knownToAnyone_0 : decode cX0_knownToAnyone 0 = .ok (.aload_n 0, 1) := by decide +kernel
theorem dX0_knownToAnyone_1 : decode cX0_knownToAnyone 1 = .ok (.invokevirtual 83, 3) := by decide +kernel
theorem dX0_knownToAnyone_4 : decode cX0_knownToAnyone 4 = .ok (.aload_n 0, 1) := by decide +kernel
theorem dX0_knownToAnyone_5 : decode cX0_knownToAnyone 5 = .ok (.invokevirtual 86, 3) := by decide +kernel
theorem dX0_knownToAnyone_8 : decode cX0_knownToAnyone 8 = .ok (.ior, 1) := by decide +kernel
theorem dX0_knownToAnyone_9 : decode cX0_knownToAnyone 9 = .ok (.ireturn, 1) := by decide +kernel
theorem dX0_everyone_0 : decode cX0_everyone 0 = .ok (.iconst 1, 1) := by decide +kernel
theorem dX0_everyone_1 : decode cX0_everyone 1 = .ok (.aload_n 0, 1) := by decide +kernel
theorem dX0_everyone_2 : decode cX0_everyone 2 = .ok (.getfield 29, 3) := by decide +kernel
theorem dX0_everyone_5 : decode cX0_everyone 5 = .ok (.ishl, 1) := by decide +kernel
theorem dX0_everyone_6 : decode cX0_everyone 6 = .ok (.iconst 1, 1) := by decide +kernel
theorem dX0_everyone_7 : decode cX0_everyone 7 = .ok (.isub, 1) := by decide +kernel
theorem dX0_everyone_8 : decode cX0_everyone 8 = .ok (.ireturn, 1) := by decide +kernel
theorem dX0_whoKnows_0 : decode cX0_whoKnows 0 = .ok (.iconst 0, 1) := by decide +kernel
theorem dX0_whoKnows_1 : decode cX0_whoKnows 1 = .ok (.istore_n 3, 1) := by decide +kernel
theorem dX0_whoKnows_2 : decode cX0_whoKnows 2 = .ok (.iconst 0, 1) := by decide +kernel
theorem dX0_whoKnows_3 : decode cX0_whoKnows 3 = .ok (.istore 4, 2) := by decide +kernel
theorem dX0_whoKnows_5 : decode cX0_whoKnows 5 = .ok (.iload 4, 2) := by decide +kernel
theorem dX0_whoKnows_7 : decode cX0_whoKnows 7 = .ok (.aload_n 0, 1) := by decide +kernel
theorem dX0_whoKnows_8 : decode cX0_whoKnows 8 = .ok (.getfield 29, 3) := by decide +kernel
theorem dX0_whoKnows_11 : decode cX0_whoKnows 11 = .ok (.if_icmp .ge 50, 3) := by decide +kernel
theorem dX0_whoKnows_14 : decode cX0_whoKnows 14 = .ok (.iload_n 1, 1) := by decide +kernel
theorem dX0_whoKnows_15 : decode cX0_whoKnows 15 = .ok (.iload_n 2, 1) := by decide +kernel
theorem dX0_whoKnows_16 : decode cX0_whoKnows 16 = .ok (.ifCond .eq 16, 3) := by decide +kernel
theorem dX0_whoKnows_19 : decode cX0_whoKnows 19 = .ok (.aload_n 0, 1) := by decide +kernel
theorem dX0_whoKnows_20 : decode cX0_whoKnows 20 = .ok (.getfield 11, 3) := by decide +kernel
theorem dX0_whoKnows_23 : decode cX0_whoKnows 23 = .ok (.iload 4, 2) := by decide +kernel
theorem dX0_whoKnows_25 : decode cX0_whoKnows 25 = .ok (.aaload, 1) := by decide +kernel
theorem dX0_whoKnows_26 : decode cX0_whoKnows 26 = .ok (.getfield 70, 3) := by decide +kernel
theorem dX0_whoKnows_29 : decode cX0_whoKnows 29 = .ok (.goto 13, 3) := by decide +kernel
theorem dX0_whoKnows_32 : decode cX0_whoKnows 32 = .ok (.aload_n 0, 1) := by decide +kernel
theorem dX0_whoKnows_33 : decode cX0_whoKnows 33 = .ok (.getfield 11, 3) := by decide +kernel
theorem dX0_whoKnows_36 : decode cX0_whoKnows 36 = .ok (.iload 4, 2) := by decide +kernel
theorem dX0_whoKnows_38 : decode cX0_whoKnows 38 = .ok (.aaload, 1) := by decide +kernel
theorem dX0_whoKnows_39 : decode cX0_whoKnows 39 = .ok (.getfield 67, 3) := by decide +kernel
theorem dX0_whoKnows_42 : decode cX0_whoKnows 42 = .ok (.invokestatic 60, 3) := by decide +kernel
theorem dX0_whoKnows_45 : decode cX0_whoKnows 45 = .ok (.ifCond .eq 10, 3) := by decide +kernel
theorem dX0_whoKnows_48 : decode cX0_whoKnows 48 = .ok (.iload_n 3, 1) := by decide +kernel
theorem dX0_whoKnows_49 : decode cX0_whoKnows 49 = .ok (.iconst 1, 1) := by decide +kernel
theorem dX0_whoKnows_50 : decode cX0_whoKnows 50 = .ok (.iload 4, 2) := by decide +kernel
theorem dX0_whoKnows_52 : decode cX0_whoKnows 52 = .ok (.ishl, 1) := by decide +kernel
theorem dX0_whoKnows_53 : decode cX0_whoKnows 53 = .ok (.ior, 1) := by decide +kernel
theorem dX0_whoKnows_54 : decode cX0_whoKnows 54 = .ok (.istore_n 3, 1) := by decide +kernel
theorem dX0_whoKnows_55 : decode cX0_whoKnows 55 = .ok (.iinc 4 1, 3) := by decide +kernel
theorem dX0_whoKnows_58 : decode cX0_whoKnows 58 = .ok (.goto (-53), 3) := by decide +kernel
theorem dX0_whoKnows_61 : decode cX0_whoKnows 61 = .ok (.iload_n 3, 1) := by decide +kernel
theorem dX0_whoKnows_62 : decode cX0_whoKnows 62 = .ok (.ireturn, 1) := by decide +kernel
theorem dX0_saidIn_0 : decode cX0_saidIn 0 = .ok (.iconst 0, 1) := by decide +kernel
theorem dX0_saidIn_1 : decode cX0_saidIn 1 = .ok (.istore_n 2, 1) := by decide +kernel
theorem dX0_saidIn_2 : decode cX0_saidIn 2 = .ok (.iconst 0, 1) := by decide +kernel
theorem dX0_saidIn_3 : decode cX0_saidIn 3 = .ok (.istore_n 3, 1) := by decide +kernel
theorem dX0_saidIn_4 : decode cX0_saidIn 4 = .ok (.iload_n 3, 1) := by decide +kernel
theorem dX0_saidIn_5 : decode cX0_saidIn 5 = .ok (.bipush 6, 2) := by decide +kernel
theorem dX0_saidIn_7 : decode cX0_saidIn 7 = .ok (.if_icmp .ge 36, 3) := by decide +kernel
theorem dX0_saidIn_10 : decode cX0_saidIn 10 = .ok (.aload_n 0, 1) := by decide +kernel
theorem dX0_saidIn_11 : decode cX0_saidIn 11 = .ok (.getfield 18, 3) := by decide +kernel
theorem dX0_saidIn_14 : decode cX0_saidIn 14 = .ok (.iload_n 3, 1) := by decide +kernel
theorem dX0_saidIn_15 : decode cX0_saidIn 15 = .ok (.iaload, 1) := by decide +kernel
theorem dX0_saidIn_16 : decode cX0_saidIn 16 = .ok (.invokestatic 89, 3) := by decide +kernel
theorem dX0_saidIn_19 : decode cX0_saidIn 19 = .ok (.iload_n 1, 1) := by decide +kernel
theorem dX0_saidIn_20 : decode cX0_saidIn 20 = .ok (.if_icmp .ne 17, 3) := by decide +kernel
theorem dX0_saidIn_23 : decode cX0_saidIn 23 = .ok (.iload_n 2, 1) := by decide +kernel
theorem dX0_saidIn_24 : decode cX0_saidIn 24 = .ok (.iconst 1, 1) := by decide +kernel
theorem dX0_saidIn_25 : decode cX0_saidIn 25 = .ok (.aload_n 0, 1) := by decide +kernel
theorem dX0_saidIn_26 : decode cX0_saidIn 26 = .ok (.getfield 18, 3) := by decide +kernel
theorem dX0_saidIn_29 : decode cX0_saidIn 29 = .ok (.iload_n 3, 1) := by decide +kernel
theorem dX0_saidIn_30 : decode cX0_saidIn 30 = .ok (.iaload, 1) := by decide +kernel
theorem dX0_saidIn_31 : decode cX0_saidIn 31 = .ok (.invokestatic 92, 3) := by decide +kernel
theorem dX0_saidIn_34 : decode cX0_saidIn 34 = .ok (.ishl, 1) := by decide +kernel
theorem dX0_saidIn_35 : decode cX0_saidIn 35 = .ok (.ior, 1) := by decide +kernel
theorem dX0_saidIn_36 : decode cX0_saidIn 36 = .ok (.istore_n 2, 1) := by decide +kernel
theorem dX0_saidIn_37 : decode cX0_saidIn 37 = .ok (.iinc 3 1, 3) := by decide +kernel
theorem dX0_saidIn_40 : decode cX0_saidIn 40 = .ok (.goto (-36), 3) := by decide +kernel
theorem dX0_saidIn_43 : decode cX0_saidIn 43 = .ok (.iload_n 2, 1) := by decide +kernel
theorem dX0_saidIn_44 : decode cX0_saidIn 44 = .ok (.ireturn, 1) := by decide +kernel
theorem dX0_drawnInAll_0 : decode cX0_drawnInAll 0 = .ok (.iconst 0, 1) := by decide +kernel
theorem dX0_drawnInAll_1 : decode cX0_drawnInAll 1 = .ok (.istore_n 1, 1) := by decide +kernel
theorem dX0_drawnInAll_2 : decode cX0_drawnInAll 2 = .ok (.iconst 0, 1) := by decide +kernel
theorem dX0_drawnInAll_3 : decode cX0_drawnInAll 3 = .ok (.istore_n 2, 1) := by decide +kernel
theorem dX0_drawnInAll_4 : decode cX0_drawnInAll 4 = .ok (.iload_n 2, 1) := by decide +kernel
theorem dX0_drawnInAll_5 : decode cX0_drawnInAll 5 = .ok (.aload_n 0, 1) := by decide +kernel
theorem dX0_drawnInAll_6 : decode cX0_drawnInAll 6 = .ok (.getfield 29, 3) := by decide +kernel
theorem dX0_drawnInAll_9 : decode cX0_drawnInAll 9 = .ok (.if_icmp .ge 21, 3) := by decide +kernel
theorem dX0_drawnInAll_12 : decode cX0_drawnInAll 12 = .ok (.iload_n 1, 1) := by decide +kernel
theorem dX0_drawnInAll_13 : decode cX0_drawnInAll 13 = .ok (.aload_n 0, 1) := by decide +kernel
theorem dX0_drawnInAll_14 : decode cX0_drawnInAll 14 = .ok (.getfield 11, 3) := by decide +kernel
theorem dX0_drawnInAll_17 : decode cX0_drawnInAll 17 = .ok (.iload_n 2, 1) := by decide +kernel
theorem dX0_drawnInAll_18 : decode cX0_drawnInAll 18 = .ok (.aaload, 1) := by decide +kernel
theorem dX0_drawnInAll_19 : decode cX0_drawnInAll 19 = .ok (.getfield 95, 3) := by decide +kernel
theorem dX0_drawnInAll_22 : decode cX0_drawnInAll 22 = .ok (.iadd, 1) := by decide +kernel
theorem dX0_drawnInAll_23 : decode cX0_drawnInAll 23 = .ok (.istore_n 1, 1) := by decide +kernel
theorem dX0_drawnInAll_24 : decode cX0_drawnInAll 24 = .ok (.iinc 2 1, 3) := by decide +kernel
theorem dX0_drawnInAll_27 : decode cX0_drawnInAll 27 = .ok (.goto (-23), 3) := by decide +kernel
theorem dX0_drawnInAll_30 : decode cX0_drawnInAll 30 = .ok (.iload_n 1, 1) := by decide +kernel
theorem dX0_drawnInAll_31 : decode cX0_drawnInAll 31 = .ok (.ireturn, 1) := by decide +kernel
theorem dX0_topicsInHand_0 : decode cX0_topicsInHand 0 = .ok (.aload_n 0, 1) := by decide +kernel
theorem dX0_topicsInHand_1 : decode cX0_topicsInHand 1 = .ok (.getfield 11, 3) := by decide +kernel
theorem dX0_topicsInHand_4 : decode cX0_topicsInHand 4 = .ok (.iload_n 1, 1) := by decide +kernel
theorem dX0_topicsInHand_5 : decode cX0_topicsInHand 5 = .ok (.aaload, 1) := by decide +kernel
theorem dX0_topicsInHand_6 : decode cX0_topicsInHand 6 = .ok (.getfield 70, 3) := by decide +kernel
theorem dX0_topicsInHand_9 : decode cX0_topicsInHand 9 = .ok (.invokestatic 98, 3) := by decide +kernel
theorem dX0_topicsInHand_12 : decode cX0_topicsInHand 12 = .ok (.ireturn, 1) := by decide +kernel
theorem dX0_wisest_0 : decode cX0_wisest 0 = .ok (.iconst (-1), 1) := by decide +kernel
theorem dX0_wisest_1 : decode cX0_wisest 1 = .ok (.istore_n 1, 1) := by decide +kernel
theorem dX0_wisest_2 : decode cX0_wisest 2 = .ok (.iconst (-1), 1) := by decide +kernel
theorem dX0_wisest_3 : decode cX0_wisest 3 = .ok (.istore_n 2, 1) := by decide +kernel
theorem dX0_wisest_4 : decode cX0_wisest 4 = .ok (.iconst 0, 1) := by decide +kernel
theorem dX0_wisest_5 : decode cX0_wisest 5 = .ok (.istore_n 3, 1) := by decide +kernel
theorem dX0_wisest_6 : decode cX0_wisest 6 = .ok (.iload_n 3, 1) := by decide +kernel
theorem dX0_wisest_7 : decode cX0_wisest 7 = .ok (.aload_n 0, 1) := by decide +kernel
theorem dX0_wisest_8 : decode cX0_wisest 8 = .ok (.getfield 29, 3) := by decide +kernel
theorem dX0_wisest_11 : decode cX0_wisest 11 = .ok (.if_icmp .ge 27, 3) := by decide +kernel
theorem dX0_wisest_14 : decode cX0_wisest 14 = .ok (.aload_n 0, 1) := by decide +kernel
theorem dX0_wisest_15 : decode cX0_wisest 15 = .ok (.iload_n 3, 1) := by decide +kernel
theorem dX0_wisest_16 : decode cX0_wisest 16 = .ok (.invokevirtual 103, 3) := by decide +kernel
theorem dX0_wisest_19 : decode cX0_wisest 19 = .ok (.istore 4, 2) := by decide +kernel
theorem dX0_wisest_21 : decode cX0_wisest 21 = .ok (.iload 4, 2) := by decide +kernel
theorem dX0_wisest_23 : decode cX0_wisest 23 = .ok (.iload_n 2, 1) := by decide +kernel
theorem dX0_wisest_24 : decode cX0_wisest 24 = .ok (.if_icmp .le 8, 3) := by decide +kernel
theorem dX0_wisest_27 : decode cX0_wisest 27 = .ok (.iload_n 3, 1) := by decide +kernel
theorem dX0_wisest_28 : decode cX0_wisest 28 = .ok (.istore_n 1, 1) := by decide +kernel
theorem dX0_wisest_29 : decode cX0_wisest 29 = .ok (.iload 4, 2) := by decide +kernel
theorem dX0_wisest_31 : decode cX0_wisest 31 = .ok (.istore_n 2, 1) := by decide +kernel
theorem dX0_wisest_32 : decode cX0_wisest 32 = .ok (.iinc 3 1, 3) := by decide +kernel
theorem dX0_wisest_35 : decode cX0_wisest 35 = .ok (.goto (-29), 3) := by decide +kernel
theorem dX0_wisest_38 : decode cX0_wisest 38 = .ok (.iload_n 1, 1) := by decide +kernel
theorem dX0_wisest_39 : decode cX0_wisest 39 = .ok (.ireturn, 1) := by decide +kernel
theorem dX0_spotsThatHold_0 : decode cX0_spotsThatHold 0 = .ok (.iconst 0, 1) := by decide +kernel
theorem dX0_spotsThatHold_1 : decode cX0_spotsThatHold 1 = .ok (.istore_n 1, 1) := by decide +kernel
theorem dX0_spotsThatHold_2 : decode cX0_spotsThatHold 2 = .ok (.iconst 0, 1) := by decide +kernel
theorem dX0_spotsThatHold_3 : decode cX0_spotsThatHold 3 = .ok (.istore_n 2, 1) := by decide +kernel
theorem dX0_spotsThatHold_4 : decode cX0_spotsThatHold 4 = .ok (.iload_n 2, 1) := by decide +kernel
theorem dX0_spotsThatHold_5 : decode cX0_spotsThatHold 5 = .ok (.bipush 10, 2) := by decide +kernel
theorem dX0_spotsThatHold_7 : decode cX0_spotsThatHold 7 = .ok (.if_icmp .ge 22, 3) := by decide +kernel
theorem dX0_spotsThatHold_10 : decode cX0_spotsThatHold 10 = .ok (.aload_n 0, 1) := by decide +kernel
theorem dX0_spotsThatHold_11 : decode cX0_spotsThatHold 11 = .ok (.getfield 26, 3) := by decide +kernel
theorem dX0_spotsThatHold_14 : decode cX0_spotsThatHold 14 = .ok (.iload_n 2, 1) := by decide +kernel
theorem dX0_spotsThatHold_15 : decode cX0_spotsThatHold 15 = .ok (.iaload, 1) := by decide +kernel
theorem dX0_spotsThatHold_16 : decode cX0_spotsThatHold 16 = .ok (.iconst (-1), 1) := by decide +kernel
theorem dX0_spotsThatHold_17 : decode cX0_spotsThatHold 17 = .ok (.if_icmp .eq 6, 3) := by decide +kernel
theorem dX0_spotsThatHold_20 : decode cX0_spotsThatHold 20 = .ok (.iinc 1 1, 3) := by decide +kernel
theorem dX0_spotsThatHold_23 : decode cX0_spotsThatHold 23 = .ok (.iinc 2 1, 3) := by decide +kernel
theorem dX0_spotsThatHold_26 : decode cX0_spotsThatHold 26 = .ok (.goto (-22), 3) := by decide +kernel
theorem dX0_spotsThatHold_29 : decode cX0_spotsThatHold 29 = .ok (.iload_n 1, 1) := by decide +kernel
theorem dX0_spotsThatHold_30 : decode cX0_spotsThatHold 30 = .ok (.ireturn, 1) := by decide +kernel
theorem dX0_needOf_0 : decode cX0_needOf 0 = .ok (.aload_n 0, 1) := by decide +kernel
theorem dX0_needOf_1 : decode cX0_needOf 1 = .ok (.aload_n 0, 1) := by decide +kernel
theorem dX0_needOf_2 : decode cX0_needOf 2 = .ok (.getfield 11, 3) := by decide +kernel
theorem dX0_needOf_5 : decode cX0_needOf 5 = .ok (.iload_n 1, 1) := by decide +kernel
theorem dX0_needOf_6 : decode cX0_needOf 6 = .ok (.aaload, 1) := by decide +kernel
theorem dX0_needOf_7 : decode cX0_needOf 7 = .ok (.getfield 57, 3) := by decide +kernel
theorem dX0_needOf_10 : decode cX0_needOf 10 = .ok (.iconst 0, 1) := by decide +kernel
theorem dX0_needOf_11 : decode cX0_needOf 11 = .ok (.invokevirtual 106, 3) := by decide +kernel
theorem dX0_needOf_14 : decode cX0_needOf 14 = .ok (.iconst 1, 1) := by decide +kernel
theorem dX0_needOf_15 : decode cX0_needOf 15 = .ok (.iload_n 1, 1) := by decide +kernel
theorem dX0_needOf_16 : decode cX0_needOf 16 = .ok (.ishl, 1) := by decide +kernel
theorem dX0_needOf_17 : decode cX0_needOf 17 = .ok (.iconst (-1), 1) := by decide +kernel
theorem dX0_needOf_18 : decode cX0_needOf 18 = .ok (.ixor, 1) := by decide +kernel
theorem dX0_needOf_19 : decode cX0_needOf 19 = .ok (.iand, 1) := by decide +kernel
theorem dX0_needOf_20 : decode cX0_needOf 20 = .ok (.istore_n 2, 1) := by decide +kernel
theorem dX0_needOf_21 : decode cX0_needOf 21 = .ok (.aload_n 0, 1) := by decide +kernel
theorem dX0_needOf_22 : decode cX0_needOf 22 = .ok (.getfield 11, 3) := by decide +kernel
theorem dX0_needOf_25 : decode cX0_needOf 25 = .ok (.iload_n 1, 1) := by decide +kernel
theorem dX0_needOf_26 : decode cX0_needOf 26 = .ok (.aaload, 1) := by decide +kernel
theorem dX0_needOf_27 : decode cX0_needOf 27 = .ok (.iload_n 2, 1) := by decide +kernel
theorem dX0_needOf_28 : decode cX0_needOf 28 = .ok (.ifCond .eq 7, 3) := by decide +kernel
theorem dX0_needOf_31 : decode cX0_needOf 31 = .ok (.iconst 1, 1) := by decide +kernel
theorem dX0_needOf_32 : decode cX0_needOf 32 = .ok (.goto 4, 3) := by decide +kernel
theorem dX0_needOf_35 : decode cX0_needOf 35 = .ok (.iconst 0, 1) := by decide +kernel
theorem dX0_needOf_36 : decode cX0_needOf 36 = .ok (.invokevirtual 110, 3) := by decide +kernel
theorem dX0_needOf_39 : decode cX0_needOf 39 = .ok (.ireturn, 1) := by decide +kernel
theorem dX0_hearersOf_0 : decode cX0_hearersOf 0 = .ok (.aload_n 0, 1) := by decide +kernel
theorem dX0_hearersOf_1 : decode cX0_hearersOf 1 = .ok (.iload_n 1, 1) := by decide +kernel
theorem dX0_hearersOf_2 : decode cX0_hearersOf 2 = .ok (.invokestatic 89, 3) := by decide +kernel
theorem dX0_hearersOf_5 : decode cX0_hearersOf 5 = .ok (.iload_n 2, 1) := by decide +kernel
theorem dX0_hearersOf_6 : decode cX0_hearersOf 6 = .ok (.invokevirtual 106, 3) := by decide +kernel
theorem dX0_hearersOf_9 : decode cX0_hearersOf 9 = .ok (.istore_n 3, 1) := by decide +kernel
theorem dX0_hearersOf_10 : decode cX0_hearersOf 10 = .ok (.iconst 0, 1) := by decide +kernel
theorem dX0_hearersOf_11 : decode cX0_hearersOf 11 = .ok (.iload_n 1, 1) := by decide +kernel
theorem dX0_hearersOf_12 : decode cX0_hearersOf 12 = .ok (.invokestatic 114, 3) := by decide +kernel
theorem dX0_hearersOf_15 : decode cX0_hearersOf 15 = .ok (.aload_n 0, 1) := by decide +kernel
theorem dX0_hearersOf_16 : decode cX0_hearersOf 16 = .ok (.iload_n 3, 1) := by decide +kernel
theorem dX0_hearersOf_17 : decode cX0_hearersOf 17 = .ok (.invokevirtual 117, 3) := by decide +kernel
theorem dX0_hearersOf_20 : decode cX0_hearersOf 20 = .ok (.isub, 1) := by decide +kernel
theorem dX0_hearersOf_21 : decode cX0_hearersOf 21 = .ok (.invokestatic 120, 3) := by decide +kernel
theorem dX0_hearersOf_24 : decode cX0_hearersOf 24 = .ok (.istore 4, 2) := by decide +kernel
theorem dX0_hearersOf_26 : decode cX0_hearersOf 26 = .ok (.iconst 0, 1) := by decide +kernel
theorem dX0_hearersOf_27 : decode cX0_hearersOf 27 = .ok (.istore 5, 2) := by decide +kernel
theorem dX0_hearersOf_29 : decode cX0_hearersOf 29 = .ok (.iconst 0, 1) := by decide +kernel
theorem dX0_hearersOf_30 : decode cX0_hearersOf 30 = .ok (.istore 6, 2) := by decide +kernel
theorem dX0_hearersOf_32 : decode cX0_hearersOf 32 = .ok (.iload 6, 2) := by decide +kernel
theorem dX0_hearersOf_34 : decode cX0_hearersOf 34 = .ok (.aload_n 0, 1) := by decide +kernel
theorem dX0_hearersOf_35 : decode cX0_hearersOf 35 = .ok (.getfield 29, 3) := by decide +kernel
theorem dX0_hearersOf_38 : decode cX0_hearersOf 38 = .ok (.if_icmp .ge 60, 3) := by decide +kernel
theorem dX0_hearersOf_41 : decode cX0_hearersOf 41 = .ok (.iconst 1, 1) := by decide +kernel
theorem dX0_hearersOf_42 : decode cX0_hearersOf 42 = .ok (.iload 6, 2) := by decide +kernel
theorem dX0_hearersOf_44 : decode cX0_hearersOf 44 = .ok (.ishl, 1) := by decide +kernel
theorem dX0_hearersOf_45 : decode cX0_hearersOf 45 = .ok (.istore 7, 2) := by decide +kernel
theorem dX0_hearersOf_47 : decode cX0_hearersOf 47 = .ok (.iload 6, 2) := by decide +kernel
theorem dX0_hearersOf_49 : decode cX0_hearersOf 49 = .ok (.iload_n 3, 1) := by decide +kernel
theorem dX0_hearersOf_50 : decode cX0_hearersOf 50 = .ok (.invokestatic 60, 3) := by decide +kernel
theorem dX0_hearersOf_53 : decode cX0_hearersOf 53 = .ok (.ifCond .eq 39, 3) := by decide +kernel
theorem dX0_hearersOf_56 : decode cX0_hearersOf 56 = .ok (.aload_n 0, 1) := by decide +kernel
theorem dX0_hearersOf_57 : decode cX0_hearersOf 57 = .ok (.getfield 11, 3) := by decide +kernel
theorem dX0_hearersOf_60 : decode cX0_hearersOf 60 = .ok (.iload 6, 2) := by decide +kernel
theorem dX0_hearersOf_62 : decode cX0_hearersOf 62 = .ok (.aaload, 1) := by decide +kernel
theorem dX0_hearersOf_63 : decode cX0_hearersOf 63 = .ok (.iload_n 3, 1) := by decide +kernel
theorem dX0_hearersOf_64 : decode cX0_hearersOf 64 = .ok (.iload 7, 2) := by decide +kernel
theorem dX0_hearersOf_66 : decode cX0_hearersOf 66 = .ok (.iconst (-1), 1) := by decide +kernel
theorem dX0_hearersOf_67 : decode cX0_hearersOf 67 = .ok (.ixor, 1) := by decide +kernel
theorem dX0_hearersOf_68 : decode cX0_hearersOf 68 = .ok (.iand, 1) := by decide +kernel
theorem dX0_hearersOf_69 : decode cX0_hearersOf 69 = .ok (.ifCond .eq 7, 3) := by decide +kernel
theorem dX0_hearersOf_72 : decode cX0_hearersOf 72 = .ok (.iconst 1, 1) := by decide +kernel
theorem dX0_hearersOf_73 : decode cX0_hearersOf 73 = .ok (.goto 4, 3) := by decide +kernel
theorem dX0_hearersOf_76 : decode cX0_hearersOf 76 = .ok (.iconst 0, 1) := by decide +kernel
theorem dX0_hearersOf_77 : decode cX0_hearersOf 77 = .ok (.invokevirtual 110, 3) := by decide +kernel
theorem dX0_hearersOf_80 : decode cX0_hearersOf 80 = .ok (.iload 4, 2) := by decide +kernel
theorem dX0_hearersOf_82 : decode cX0_hearersOf 82 = .ok (.if_icmp .gt 10, 3) := by decide +kernel
theorem dX0_hearersOf_85 : decode cX0_hearersOf 85 = .ok (.iload 5, 2) := by decide +kernel
theorem dX0_hearersOf_87 : decode cX0_hearersOf 87 = .ok (.iload 7, 2) := by decide +kernel
theorem dX0_hearersOf_89 : decode cX0_hearersOf 89 = .ok (.ior, 1) := by decide +kernel
theorem dX0_hearersOf_90 : decode cX0_hearersOf 90 = .ok (.istore 5, 2) := by decide +kernel
theorem dX0_hearersOf_92 : decode cX0_hearersOf 92 = .ok (.iinc 6 1, 3) := by decide +kernel
theorem dX0_hearersOf_95 : decode cX0_hearersOf 95 = .ok (.goto (-63), 3) := by decide +kernel
theorem dX0_hearersOf_98 : decode cX0_hearersOf 98 = .ok (.iload 5, 2) := by decide +kernel
theorem dX0_hearersOf_100 : decode cX0_hearersOf 100 = .ok (.ireturn, 1) := by decide +kernel
theorem dX0_placeOfToday_0 : decode cX0_placeOfToday 0 = .ok (.aload_n 0, 1) := by decide +kernel
theorem dX0_placeOfToday_1 : decode cX0_placeOfToday 1 = .ok (.getfield 33, 3) := by decide +kernel
theorem dX0_placeOfToday_4 : decode cX0_placeOfToday 4 = .ok (.bipush 6, 2) := by decide +kernel
theorem dX0_placeOfToday_6 : decode cX0_placeOfToday 6 = .ok (.invokestatic 125, 3) := by decide +kernel
theorem dX0_placeOfToday_9 : decode cX0_placeOfToday 9 = .ok (.ireturn, 1) := by decide +kernel
theorem dX0_passDays_0 : decode cX0_passDays 0 = .ok (.iconst 0, 1) := by decide +kernel
theorem dX0_passDays_1 : decode cX0_passDays 1 = .ok (.istore_n 3, 1) := by decide +kernel
theorem dX0_passDays_2 : decode cX0_passDays 2 = .ok (.iload_n 3, 1) := by decide +kernel
theorem dX0_passDays_3 : decode cX0_passDays 3 = .ok (.iload_n 1, 1) := by decide +kernel
theorem dX0_passDays_4 : decode cX0_passDays 4 = .ok (.if_icmp .ge 14, 3) := by decide +kernel
theorem dX0_passDays_7 : decode cX0_passDays 7 = .ok (.aload_n 0, 1) := by decide +kernel
theorem dX0_passDays_8 : decode cX0_passDays 8 = .ok (.iload_n 2, 1) := by decide +kernel
theorem dX0_passDays_9 : decode cX0_passDays 9 = .ok (.invokevirtual 128, 3) := by decide +kernel
theorem dX0_passDays_12 : decode cX0_passDays 12 = .ok (.iinc 3 1, 3) := by decide +kernel
theorem dX0_passDays_15 : decode cX0_passDays 15 = .ok (.goto (-13), 3) := by decide +kernel
theorem dX0_passDays_18 : decode cX0_passDays 18 = .ok (.return_, 1) := by decide +kernel
theorem dX0_passDay_0 : decode cX0_passDay 0 = .ok (.aload_n 0, 1) := by decide +kernel
theorem dX0_passDay_1 : decode cX0_passDay 1 = .ok (.getfield 18, 3) := by decide +kernel
theorem dX0_passDay_4 : decode cX0_passDay 4 = .ok (.aload_n 0, 1) := by decide +kernel
theorem dX0_passDay_5 : decode cX0_passDay 5 = .ok (.invokevirtual 132, 3) := by decide +kernel
theorem dX0_passDay_8 : decode cX0_passDay 8 = .ok (.iaload, 1) := by decide +kernel
theorem dX0_passDay_9 : decode cX0_passDay 9 = .ok (.istore_n 2, 1) := by decide +kernel
theorem dX0_passDay_10 : decode cX0_passDay 10 = .ok (.aload_n 0, 1) := by decide +kernel
theorem dX0_passDay_11 : decode cX0_passDay 11 = .ok (.iload_n 2, 1) := by decide +kernel
theorem dX0_passDay_12 : decode cX0_passDay 12 = .ok (.iload_n 1, 1) := by decide +kernel
theorem dX0_passDay_13 : decode cX0_passDay 13 = .ok (.invokevirtual 135, 3) := by decide +kernel
theorem dX0_passDay_16 : decode cX0_passDay 16 = .ok (.istore_n 3, 1) := by decide +kernel
theorem dX0_passDay_17 : decode cX0_passDay 17 = .ok (.iconst 0, 1) := by decide +kernel
theorem dX0_passDay_18 : decode cX0_passDay 18 = .ok (.istore 4, 2) := by decide +kernel
theorem dX0_passDay_20 : decode cX0_passDay 20 = .ok (.iload 4, 2) := by decide +kernel
theorem dX0_passDay_22 : decode cX0_passDay 22 = .ok (.aload_n 0, 1) := by decide +kernel
theorem dX0_passDay_23 : decode cX0_passDay 23 = .ok (.getfield 29, 3) := by decide +kernel
theorem dX0_passDay_26 : decode cX0_passDay 26 = .ok (.if_icmp .ge 51, 3) := by decide +kernel
theorem dX0_passDay_29 : decode cX0_passDay 29 = .ok (.iload 4, 2) := by decide +kernel
theorem dX0_passDay_31 : decode cX0_passDay 31 = .ok (.iload_n 3, 1) := by decide +kernel
theorem dX0_passDay_32 : decode cX0_passDay 32 = .ok (.invokestatic 60, 3) := by decide +kernel
theorem dX0_passDay_35 : decode cX0_passDay 35 = .ok (.ifCond .eq 17, 3) := by decide +kernel
theorem dX0_passDay_38 : decode cX0_passDay 38 = .ok (.aload_n 0, 1) := by decide +kernel
theorem dX0_passDay_39 : decode cX0_passDay 39 = .ok (.getfield 11, 3) := by decide +kernel
theorem dX0_passDay_42 : decode cX0_passDay 42 = .ok (.iload 4, 2) := by decide +kernel
theorem dX0_passDay_44 : decode cX0_passDay 44 = .ok (.aaload, 1) := by decide +kernel
theorem dX0_passDay_45 : decode cX0_passDay 45 = .ok (.iload_n 2, 1) := by decide +kernel
theorem dX0_passDay_46 : decode cX0_passDay 46 = .ok (.invokestatic 92, 3) := by decide +kernel
theorem dX0_passDay_49 : decode cX0_passDay 49 = .ok (.invokevirtual 138, 3) := by decide +kernel
theorem dX0_passDay_52 : decode cX0_passDay 52 = .ok (.iload 4, 2) := by decide +kernel
theorem dX0_passDay_54 : decode cX0_passDay 54 = .ok (.iload_n 1, 1) := by decide +kernel
theorem dX0_passDay_55 : decode cX0_passDay 55 = .ok (.invokestatic 60, 3) := by decide +kernel
theorem dX0_passDay_58 : decode cX0_passDay 58 = .ok (.ifCond .ne 13, 3) := by decide +kernel
theorem dX0_passDay_61 : decode cX0_passDay 61 = .ok (.aload_n 0, 1) := by decide +kernel
theorem dX0_passDay_62 : decode cX0_passDay 62 = .ok (.getfield 11, 3) := by decide +kernel
theorem dX0_passDay_65 : decode cX0_passDay 65 = .ok (.iload 4, 2) := by decide +kernel
theorem dX0_passDay_67 : decode cX0_passDay 67 = .ok (.aaload, 1) := by decide +kernel
theorem dX0_passDay_68 : decode cX0_passDay 68 = .ok (.invokevirtual 141, 3) := by decide +kernel
theorem dX0_passDay_71 : decode cX0_passDay 71 = .ok (.iinc 4 1, 3) := by decide +kernel
theorem dX0_passDay_74 : decode cX0_passDay 74 = .ok (.goto (-54), 3) := by decide +kernel
theorem dX0_passDay_77 : decode cX0_passDay 77 = .ok (.aload_n 0, 1) := by decide +kernel
theorem dX0_passDay_78 : decode cX0_passDay 78 = .ok (.ldc 144, 2) := by decide +kernel
theorem dX0_passDay_80 : decode cX0_passDay 80 = .ok (.aload_n 0, 1) := by decide +kernel
theorem dX0_passDay_81 : decode cX0_passDay 81 = .ok (.getfield 33, 3) := by decide +kernel
theorem dX0_passDay_84 : decode cX0_passDay 84 = .ok (.iconst 1, 1) := by decide +kernel
theorem dX0_passDay_85 : decode cX0_passDay 85 = .ok (.iadd, 1) := by decide +kernel
theorem dX0_passDay_86 : decode cX0_passDay 86 = .ok (.invokestatic 145, 3) := by decide +kernel
theorem dX0_passDay_89 : decode cX0_passDay 89 = .ok (.putfield 33, 3) := by decide +kernel
theorem dX0_passDay_92 : decode cX0_passDay 92 = .ok (.return_, 1) := by decide +kernel
theorem dX0_drawSaying_0 : decode cX0_drawSaying 0 = .ok (.aload_n 0, 1) := by decide +kernel
theorem dX0_drawSaying_1 : decode cX0_drawSaying 1 = .ok (.invokevirtual 148, 3) := by decide +kernel
theorem dX0_drawSaying_4 : decode cX0_drawSaying 4 = .ok (.bipush 6, 2) := by decide +kernel
theorem dX0_drawSaying_6 : decode cX0_drawSaying 6 = .ok (.irem, 1) := by decide +kernel
theorem dX0_drawSaying_7 : decode cX0_drawSaying 7 = .ok (.istore_n 1, 1) := by decide +kernel
theorem dX0_drawSaying_8 : decode cX0_drawSaying 8 = .ok (.aload_n 0, 1) := by decide +kernel
theorem dX0_drawSaying_9 : decode cX0_drawSaying 9 = .ok (.invokevirtual 148, 3) := by decide +kernel
theorem dX0_drawSaying_12 : decode cX0_drawSaying 12 = .ok (.bipush 16, 2) := by decide +kernel
theorem dX0_drawSaying_14 : decode cX0_drawSaying 14 = .ok (.irem, 1) := by decide +kernel
theorem dX0_drawSaying_15 : decode cX0_drawSaying 15 = .ok (.istore_n 2, 1) := by decide +kernel
theorem dX0_drawSaying_16 : decode cX0_drawSaying 16 = .ok (.aload_n 0, 1) := by decide +kernel
theorem dX0_drawSaying_17 : decode cX0_drawSaying 17 = .ok (.invokevirtual 148, 3) := by decide +kernel
theorem dX0_drawSaying_20 : decode cX0_drawSaying 20 = .ok (.bipush 10, 2) := by decide +kernel
theorem dX0_drawSaying_22 : decode cX0_drawSaying 22 = .ok (.irem, 1) := by decide +kernel
theorem dX0_drawSaying_23 : decode cX0_drawSaying 23 = .ok (.istore_n 3, 1) := by decide +kernel
theorem dX0_drawSaying_24 : decode cX0_drawSaying 24 = .ok (.aload_n 0, 1) := by decide +kernel
theorem dX0_drawSaying_25 : decode cX0_drawSaying 25 = .ok (.getfield 18, 3) := by decide +kernel
theorem dX0_drawSaying_28 : decode cX0_drawSaying 28 = .ok (.aload_n 0, 1) := by decide +kernel
theorem dX0_drawSaying_29 : decode cX0_drawSaying 29 = .ok (.invokevirtual 132, 3) := by decide +kernel
theorem dX0_drawSaying_32 : decode cX0_drawSaying 32 = .ok (.iload_n 1, 1) := by decide +kernel
theorem dX0_drawSaying_33 : decode cX0_drawSaying 33 = .ok (.iload_n 2, 1) := by decide +kernel
theorem dX0_drawSaying_34 : decode cX0_drawSaying 34 = .ok (.iload_n 3, 1) := by decide +kernel
theorem dX0_drawSaying_35 : decode cX0_drawSaying 35 = .ok (.invokestatic 22, 3) := by decide +kernel
theorem dX0_drawSaying_38 : decode cX0_drawSaying 38 = .ok (.iastore, 1) := by decide +kernel
theorem dX0_drawSaying_39 : decode cX0_drawSaying 39 = .ok (.return_, 1) := by decide +kernel
theorem dX0_nextDraw_0 : decode cX0_nextDraw 0 = .ok (.aload_n 0, 1) := by decide +kernel
theorem dX0_nextDraw_1 : decode cX0_nextDraw 1 = .ok (.aload_n 0, 1) := by decide +kernel
theorem dX0_nextDraw_2 : decode cX0_nextDraw 2 = .ok (.getfield 36, 3) := by decide +kernel
theorem dX0_nextDraw_5 : decode cX0_nextDraw 5 = .ok (.ldc 151, 2) := by decide +kernel
theorem dX0_nextDraw_7 : decode cX0_nextDraw 7 = .ok (.imul, 1) := by decide +kernel
theorem dX0_nextDraw_8 : decode cX0_nextDraw 8 = .ok (.sipush 12345, 3) := by decide +kernel
theorem dX0_nextDraw_11 : decode cX0_nextDraw 11 = .ok (.iadd, 1) := by decide +kernel
theorem dX0_nextDraw_12 : decode cX0_nextDraw 12 = .ok (.putfield 36, 3) := by decide +kernel
theorem dX0_nextDraw_15 : decode cX0_nextDraw 15 = .ok (.aload_n 0, 1) := by decide +kernel
theorem dX0_nextDraw_16 : decode cX0_nextDraw 16 = .ok (.getfield 36, 3) := by decide +kernel
theorem dX0_nextDraw_19 : decode cX0_nextDraw 19 = .ok (.bipush 8, 2) := by decide +kernel
theorem dX0_nextDraw_21 : decode cX0_nextDraw 21 = .ok (.iushr, 1) := by decide +kernel
theorem dX0_nextDraw_22 : decode cX0_nextDraw 22 = .ok (.ireturn, 1) := by decide +kernel
theorem dX1_init_0 : decode cX1_init 0 = .ok (.aload_n 0, 1) := by decide +kernel
theorem dX1_init_1 : decode cX1_init 1 = .ok (.invokespecial 3, 3) := by decide +kernel
theorem dX1_init_4 : decode cX1_init 4 = .ok (.return_, 1) := by decide +kernel
theorem dX1_mostOf_0 : decode cX1_mostOf 0 = .ok (.iload_n 0, 1) := by decide +kernel
theorem dX1_mostOf_1 : decode cX1_mostOf 1 = .ok (.bipush 6, 2) := by decide +kernel
theorem dX1_mostOf_3 : decode cX1_mostOf 3 = .ok (.invokestatic 11, 3) := by decide +kernel
theorem dX1_mostOf_6 : decode cX1_mostOf 6 = .ok (.ifCond .eq 11, 3) := by decide +kernel
theorem dX1_mostOf_9 : decode cX1_mostOf 9 = .ok (.getstatic 15, 3) := by decide +kernel
theorem dX1_mostOf_12 : decode cX1_mostOf 12 = .ok (.iload_n 0, 1) := by decide +kernel
theorem dX1_mostOf_13 : decode cX1_mostOf 13 = .ok (.iaload, 1) := by decide +kernel
theorem dX1_mostOf_14 : decode cX1_mostOf 14 = .ok (.goto 4, 3) := by decide +kernel
theorem dX1_mostOf_17 : decode cX1_mostOf 17 = .ok (.iconst (-1), 1) := by decide +kernel
theorem dX1_mostOf_18 : decode cX1_mostOf 18 = .ok (.ireturn, 1) := by decide +kernel
theorem dX1_beNew_0 : decode cX1_beNew 0 = .ok (.aload_n 0, 1) := by decide +kernel
theorem dX1_beNew_1 : decode cX1_beNew 1 = .ok (.iload_n 1, 1) := by decide +kernel
theorem dX1_beNew_2 : decode cX1_beNew 2 = .ok (.putfield 19, 3) := by decide +kernel
theorem dX1_beNew_5 : decode cX1_beNew 5 = .ok (.aload_n 0, 1) := by decide +kernel
theorem dX1_beNew_6 : decode cX1_beNew 6 = .ok (.iload_n 2, 1) := by decide +kernel
theorem dX1_beNew_7 : decode cX1_beNew 7 = .ok (.putfield 23, 3) := by decide +kernel
theorem dX1_beNew_10 : decode cX1_beNew 10 = .ok (.aload_n 0, 1) := by decide +kernel
theorem dX1_beNew_11 : decode cX1_beNew 11 = .ok (.iconst 5, 1) := by decide +kernel
theorem dX1_beNew_12 : decode cX1_beNew 12 = .ok (.putfield 26, 3) := by decide +kernel
theorem dX1_beNew_15 : decode cX1_beNew 15 = .ok (.aload_n 0, 1) := by decide +kernel
theorem dX1_beNew_16 : decode cX1_beNew 16 = .ok (.iconst 0, 1) := by decide +kernel
theorem dX1_beNew_17 : decode cX1_beNew 17 = .ok (.putfield 29, 3) := by decide +kernel
theorem dX1_beNew_20 : decode cX1_beNew 20 = .ok (.aload_n 0, 1) := by decide +kernel
theorem dX1_beNew_21 : decode cX1_beNew 21 = .ok (.iconst 0, 1) := by decide +kernel
theorem dX1_beNew_22 : decode cX1_beNew 22 = .ok (.putfield 32, 3) := by decide +kernel
theorem dX1_beNew_25 : decode cX1_beNew 25 = .ok (.aload_n 0, 1) := by decide +kernel
theorem dX1_beNew_26 : decode cX1_beNew 26 = .ok (.iconst 0, 1) := by decide +kernel
theorem dX1_beNew_27 : decode cX1_beNew 27 = .ok (.putfield 35, 3) := by decide +kernel
theorem dX1_beNew_30 : decode cX1_beNew 30 = .ok (.aload_n 0, 1) := by decide +kernel
theorem dX1_beNew_31 : decode cX1_beNew 31 = .ok (.iconst 0, 1) := by decide +kernel
theorem dX1_beNew_32 : decode cX1_beNew 32 = .ok (.putfield 38, 3) := by decide +kernel
theorem dX1_beNew_35 : decode cX1_beNew 35 = .ok (.return_, 1) := by decide +kernel
theorem dX1_become_0 : decode cX1_become 0 = .ok (.aload_n 0, 1) := by decide +kernel
theorem dX1_become_1 : decode cX1_become 1 = .ok (.aload_n 1, 1) := by decide +kernel
theorem dX1_become_2 : decode cX1_become 2 = .ok (.getfield 19, 3) := by decide +kernel
theorem dX1_become_5 : decode cX1_become 5 = .ok (.putfield 19, 3) := by decide +kernel
theorem dX1_become_8 : decode cX1_become 8 = .ok (.aload_n 0, 1) := by decide +kernel
theorem dX1_become_9 : decode cX1_become 9 = .ok (.aload_n 1, 1) := by decide +kernel
theorem dX1_become_10 : decode cX1_become 10 = .ok (.getfield 23, 3) := by decide +kernel
theorem dX1_become_13 : decode cX1_become 13 = .ok (.putfield 23, 3) := by decide +kernel
theorem dX1_become_16 : decode cX1_become 16 = .ok (.aload_n 0, 1) := by decide +kernel
theorem dX1_become_17 : decode cX1_become 17 = .ok (.aload_n 1, 1) := by decide +kernel
theorem dX1_become_18 : decode cX1_become 18 = .ok (.getfield 26, 3) := by decide +kernel
theorem dX1_become_21 : decode cX1_become 21 = .ok (.putfield 26, 3) := by decide +kernel
theorem dX1_become_24 : decode cX1_become 24 = .ok (.aload_n 0, 1) := by decide +kernel
theorem dX1_become_25 : decode cX1_become 25 = .ok (.aload_n 1, 1) := by decide +kernel
theorem dX1_become_26 : decode cX1_become 26 = .ok (.getfield 29, 3) := by decide +kernel
theorem dX1_become_29 : decode cX1_become 29 = .ok (.putfield 29, 3) := by decide +kernel
theorem dX1_become_32 : decode cX1_become 32 = .ok (.aload_n 0, 1) := by decide +kernel
theorem dX1_become_33 : decode cX1_become 33 = .ok (.aload_n 1, 1) := by decide +kernel
theorem dX1_become_34 : decode cX1_become 34 = .ok (.getfield 32, 3) := by decide +kernel
theorem dX1_become_37 : decode cX1_become 37 = .ok (.putfield 32, 3) := by decide +kernel
theorem dX1_become_40 : decode cX1_become 40 = .ok (.aload_n 0, 1) := by decide +kernel
theorem dX1_become_41 : decode cX1_become 41 = .ok (.aload_n 1, 1) := by decide +kernel
theorem dX1_become_42 : decode cX1_become 42 = .ok (.getfield 35, 3) := by decide +kernel
theorem dX1_become_45 : decode cX1_become 45 = .ok (.putfield 35, 3) := by decide +kernel
theorem dX1_become_48 : decode cX1_become 48 = .ok (.aload_n 0, 1) := by decide +kernel
theorem dX1_become_49 : decode cX1_become 49 = .ok (.aload_n 1, 1) := by decide +kernel
theorem dX1_become_50 : decode cX1_become 50 = .ok (.getfield 38, 3) := by decide +kernel
theorem dX1_become_53 : decode cX1_become 53 = .ok (.putfield 38, 3) := by decide +kernel
theorem dX1_become_56 : decode cX1_become 56 = .ok (.return_, 1) := by decide +kernel
theorem dX1_trait_0 : decode cX1_trait 0 = .ok (.iload_n 1, 1) := by decide +kernel
theorem dX1_trait_1 : decode cX1_trait 1 = .ok (.tableswitch 100 0 9 #[55, 60, 65, 70, 75, 80, 85, 100, 90, 95], 55) := by decide +kernel
theorem dX1_trait_56 : decode cX1_trait 56 = .ok (.aload_n 0, 1) := by decide +kernel
theorem dX1_trait_57 : decode cX1_trait 57 = .ok (.getfield 19, 3) := by decide +kernel
theorem dX1_trait_60 : decode cX1_trait 60 = .ok (.ireturn, 1) := by decide +kernel
theorem dX1_trait_61 : decode cX1_trait 61 = .ok (.aload_n 0, 1) := by decide +kernel
theorem dX1_trait_62 : decode cX1_trait 62 = .ok (.getfield 23, 3) := by decide +kernel
theorem dX1_trait_65 : decode cX1_trait 65 = .ok (.ireturn, 1) := by decide +kernel
theorem dX1_trait_66 : decode cX1_trait 66 = .ok (.aload_n 0, 1) := by decide +kernel
theorem dX1_trait_67 : decode cX1_trait 67 = .ok (.getfield 26, 3) := by decide +kernel
theorem dX1_trait_70 : decode cX1_trait 70 = .ok (.ireturn, 1) := by decide +kernel
theorem dX1_trait_71 : decode cX1_trait 71 = .ok (.aload_n 0, 1) := by decide +kernel
theorem dX1_trait_72 : decode cX1_trait 72 = .ok (.getfield 29, 3) := by decide +kernel
theorem dX1_trait_75 : decode cX1_trait 75 = .ok (.ireturn, 1) := by decide +kernel
theorem dX1_trait_76 : decode cX1_trait 76 = .ok (.aload_n 0, 1) := by decide +kernel
theorem dX1_trait_77 : decode cX1_trait 77 = .ok (.getfield 32, 3) := by decide +kernel
theorem dX1_trait_80 : decode cX1_trait 80 = .ok (.ireturn, 1) := by decide +kernel
theorem dX1_trait_81 : decode cX1_trait 81 = .ok (.aload_n 0, 1) := by decide +kernel
theorem dX1_trait_82 : decode cX1_trait 82 = .ok (.getfield 35, 3) := by decide +kernel
theorem dX1_trait_85 : decode cX1_trait 85 = .ok (.ireturn, 1) := by decide +kernel
theorem dX1_trait_86 : decode cX1_trait 86 = .ok (.aload_n 0, 1) := by decide +kernel
theorem dX1_trait_87 : decode cX1_trait 87 = .ok (.getfield 38, 3) := by decide +kernel
theorem dX1_trait_90 : decode cX1_trait 90 = .ok (.ireturn, 1) := by decide +kernel
theorem dX1_trait_91 : decode cX1_trait 91 = .ok (.aload_n 0, 1) := by decide +kernel
theorem dX1_trait_92 : decode cX1_trait 92 = .ok (.invokevirtual 41, 3) := by decide +kernel
theorem dX1_trait_95 : decode cX1_trait 95 = .ok (.ireturn, 1) := by decide +kernel
theorem dX1_trait_96 : decode cX1_trait 96 = .ok (.aload_n 0, 1) := by decide +kernel
theorem dX1_trait_97 : decode cX1_trait 97 = .ok (.invokevirtual 45, 3) := by decide +kernel
theorem dX1_trait_100 : decode cX1_trait 100 = .ok (.ireturn, 1) := by decide +kernel
theorem dX1_trait_101 : decode cX1_trait 101 = .ok (.aload_n 0, 1) := by decide +kernel
theorem dX1_trait_102 : decode cX1_trait 102 = .ok (.invokevirtual 48, 3) := by decide +kernel
theorem dX1_trait_105 : decode cX1_trait 105 = .ok (.ireturn, 1) := by decide +kernel
theorem dX1_setTrait_0 : decode cX1_setTrait 0 = .ok (.iload_n 1, 1) := by decide +kernel
theorem dX1_setTrait_1 : decode cX1_setTrait 1 = .ok (.tableswitch 87 0 5 #[39, 47, 55, 63, 71, 79], 39) := by decide +kernel
theorem dX1_setTrait_40 : decode cX1_setTrait 40 = .ok (.aload_n 0, 1) := by decide +kernel
theorem dX1_setTrait_41 : decode cX1_setTrait 41 = .ok (.iload_n 2, 1) := by decide +kernel
theorem dX1_setTrait_42 : decode cX1_setTrait 42 = .ok (.putfield 19, 3) := by decide +kernel
theorem dX1_setTrait_45 : decode cX1_setTrait 45 = .ok (.goto 48, 3) := by decide +kernel
theorem dX1_setTrait_48 : decode cX1_setTrait 48 = .ok (.aload_n 0, 1) := by decide +kernel
theorem dX1_setTrait_49 : decode cX1_setTrait 49 = .ok (.iload_n 2, 1) := by decide +kernel
theorem dX1_setTrait_50 : decode cX1_setTrait 50 = .ok (.putfield 23, 3) := by decide +kernel
theorem dX1_setTrait_53 : decode cX1_setTrait 53 = .ok (.goto 40, 3) := by decide +kernel
theorem dX1_setTrait_56 : decode cX1_setTrait 56 = .ok (.aload_n 0, 1) := by decide +kernel
theorem dX1_setTrait_57 : decode cX1_setTrait 57 = .ok (.iload_n 2, 1) := by decide +kernel
theorem dX1_setTrait_58 : decode cX1_setTrait 58 = .ok (.putfield 26, 3) := by decide +kernel
theorem dX1_setTrait_61 : decode cX1_setTrait 61 = .ok (.goto 32, 3) := by decide +kernel
theorem dX1_setTrait_64 : decode cX1_setTrait 64 = .ok (.aload_n 0, 1) := by decide +kernel
theorem dX1_setTrait_65 : decode cX1_setTrait 65 = .ok (.iload_n 2, 1) := by decide +kernel
theorem dX1_setTrait_66 : decode cX1_setTrait 66 = .ok (.putfield 29, 3) := by decide +kernel
theorem dX1_setTrait_69 : decode cX1_setTrait 69 = .ok (.goto 24, 3) := by decide +kernel
theorem dX1_setTrait_72 : decode cX1_setTrait 72 = .ok (.aload_n 0, 1) := by decide +kernel
theorem dX1_setTrait_73 : decode cX1_setTrait 73 = .ok (.iload_n 2, 1) := by decide +kernel
theorem dX1_setTrait_74 : decode cX1_setTrait 74 = .ok (.putfield 32, 3) := by decide +kernel
theorem dX1_setTrait_77 : decode cX1_setTrait 77 = .ok (.goto 16, 3) := by decide +kernel
theorem dX1_setTrait_80 : decode cX1_setTrait 80 = .ok (.aload_n 0, 1) := by decide +kernel
theorem dX1_setTrait_81 : decode cX1_setTrait 81 = .ok (.iload_n 2, 1) := by decide +kernel
theorem dX1_setTrait_82 : decode cX1_setTrait 82 = .ok (.putfield 35, 3) := by decide +kernel
theorem dX1_setTrait_85 : decode cX1_setTrait 85 = .ok (.goto 8, 3) := by decide +kernel
theorem dX1_setTrait_88 : decode cX1_setTrait 88 = .ok (.aload_n 0, 1) := by decide +kernel
theorem dX1_setTrait_89 : decode cX1_setTrait 89 = .ok (.iload_n 2, 1) := by decide +kernel
theorem dX1_setTrait_90 : decode cX1_setTrait 90 = .ok (.putfield 38, 3) := by decide +kernel
theorem dX1_setTrait_93 : decode cX1_setTrait 93 = .ok (.return_, 1) := by decide +kernel
theorem dX1_needs_0 : decode cX1_needs 0 = .ok (.bipush 10, 2) := by decide +kernel
theorem dX1_needs_2 : decode cX1_needs 2 = .ok (.aload_n 0, 1) := by decide +kernel
theorem dX1_needs_3 : decode cX1_needs 3 = .ok (.getfield 26, 3) := by decide +kernel
theorem dX1_needs_6 : decode cX1_needs 6 = .ok (.isub, 1) := by decide +kernel
theorem dX1_needs_7 : decode cX1_needs 7 = .ok (.istore_n 2, 1) := by decide +kernel
theorem dX1_needs_8 : decode cX1_needs 8 = .ok (.iconst 0, 1) := by decide +kernel
theorem dX1_needs_9 : decode cX1_needs 9 = .ok (.iload_n 2, 1) := by decide +kernel
theorem dX1_needs_10 : decode cX1_needs 10 = .ok (.iconst 2, 1) := by decide +kernel
theorem dX1_needs_11 : decode cX1_needs 11 = .ok (.isub, 1) := by decide +kernel
theorem dX1_needs_12 : decode cX1_needs 12 = .ok (.invokestatic 51, 3) := by decide +kernel
theorem dX1_needs_15 : decode cX1_needs 15 = .ok (.istore_n 3, 1) := by decide +kernel
theorem dX1_needs_16 : decode cX1_needs 16 = .ok (.iload_n 2, 1) := by decide +kernel
theorem dX1_needs_17 : decode cX1_needs 17 = .ok (.iconst 3, 1) := by decide +kernel
theorem dX1_needs_18 : decode cX1_needs 18 = .ok (.iadd, 1) := by decide +kernel
theorem dX1_needs_19 : decode cX1_needs 19 = .ok (.istore 4, 2) := by decide +kernel
theorem dX1_needs_21 : decode cX1_needs 21 = .ok (.aload_n 0, 1) := by decide +kernel
theorem dX1_needs_22 : decode cX1_needs 22 = .ok (.getfield 19, 3) := by decide +kernel
theorem dX1_needs_25 : decode cX1_needs 25 = .ok (.tableswitch 68 1 6 #[39, 51, 54, 63, 66, 41], 39) := by decide +kernel
theorem dX1_needs_64 : decode cX1_needs 64 = .ok (.iload_n 3, 1) := by decide +kernel
theorem dX1_needs_65 : decode cX1_needs 65 = .ok (.ireturn, 1) := by decide +kernel
theorem dX1_needs_66 : decode cX1_needs 66 = .ok (.iload_n 1, 1) := by decide +kernel
theorem dX1_needs_67 : decode cX1_needs 67 = .ok (.ifCond .eq 7, 3) := by decide +kernel
theorem dX1_needs_70 : decode cX1_needs 70 = .ok (.iconst 1, 1) := by decide +kernel
theorem dX1_needs_71 : decode cX1_needs 71 = .ok (.goto 4, 3) := by decide +kernel
theorem dX1_needs_74 : decode cX1_needs 74 = .ok (.iload_n 3, 1) := by decide +kernel
theorem dX1_needs_75 : decode cX1_needs 75 = .ok (.ireturn, 1) := by decide +kernel
theorem dX1_needs_76 : decode cX1_needs 76 = .ok (.iload 4, 2) := by decide +kernel
theorem dX1_needs_78 : decode cX1_needs 78 = .ok (.ireturn, 1) := by decide +kernel
theorem dX1_needs_79 : decode cX1_needs 79 = .ok (.iconst 0, 1) := by decide +kernel
theorem dX1_needs_80 : decode cX1_needs 80 = .ok (.iload 4, 2) := by decide +kernel
theorem dX1_needs_82 : decode cX1_needs 82 = .ok (.iconst 4, 1) := by decide +kernel
theorem dX1_needs_83 : decode cX1_needs 83 = .ok (.isub, 1) := by decide +kernel
theorem dX1_needs_84 : decode cX1_needs 84 = .ok (.invokestatic 51, 3) := by decide +kernel
theorem dX1_needs_87 : decode cX1_needs 87 = .ok (.ireturn, 1) := by decide +kernel
theorem dX1_needs_88 : decode cX1_needs 88 = .ok (.bipush 99, 2) := by decide +kernel
theorem dX1_needs_90 : decode cX1_needs 90 = .ok (.ireturn, 1) := by decide +kernel
theorem dX1_needs_91 : decode cX1_needs 91 = .ok (.iconst 0, 1) := by decide +kernel
theorem dX1_needs_92 : decode cX1_needs 92 = .ok (.ireturn, 1) := by decide +kernel
theorem dX1_needs_93 : decode cX1_needs 93 = .ok (.iload_n 2, 1) := by decide +kernel
theorem dX1_needs_94 : decode cX1_needs 94 = .ok (.ireturn, 1) := by decide +kernel
theorem dX1_hushes_0 : decode cX1_hushes 0 = .ok (.aload_n 0, 1) := by decide +kernel
theorem dX1_hushes_1 : decode cX1_hushes 1 = .ok (.getfield 19, 3) := by decide +kernel
theorem dX1_hushes_4 : decode cX1_hushes 4 = .ok (.tableswitch 59 1 6 #[40, 59, 40, 59, 44, 42], 40) := by decide +kernel
theorem dX1_hushes_44 : decode cX1_hushes 44 = .ok (.iconst 1, 1) := by decide +kernel
theorem dX1_hushes_45 : decode cX1_hushes 45 = .ok (.ireturn, 1) := by decide +kernel
theorem dX1_hushes_46 : decode cX1_hushes 46 = .ok (.iconst 2, 1) := by decide +kernel
theorem dX1_hushes_47 : decode cX1_hushes 47 = .ok (.ireturn, 1) := by decide +kernel
theorem dX1_hushes_48 : decode cX1_hushes 48 = .ok (.aload_n 0, 1) := by decide +kernel
theorem dX1_hushes_49 : decode cX1_hushes 49 = .ok (.getfield 32, 3) := by decide +kernel
theorem dX1_hushes_52 : decode cX1_hushes 52 = .ok (.bipush 100, 2) := by decide +kernel
theorem dX1_hushes_54 : decode cX1_hushes 54 = .ok (.if_icmp .lt 7, 3) := by decide +kernel
theorem dX1_hushes_57 : decode cX1_hushes 57 = .ok (.iconst 1, 1) := by decide +kernel
theorem dX1_hushes_58 : decode cX1_hushes 58 = .ok (.goto 4, 3) := by decide +kernel
theorem dX1_hushes_61 : decode cX1_hushes 61 = .ok (.iconst 0, 1) := by decide +kernel
theorem dX1_hushes_62 : decode cX1_hushes 62 = .ok (.ireturn, 1) := by decide +kernel
theorem dX1_hushes_63 : decode cX1_hushes 63 = .ok (.iconst 0, 1) := by decide +kernel
theorem dX1_hushes_64 : decode cX1_hushes 64 = .ok (.ireturn, 1) := by decide +kernel
theorem dX1_stays_0 : decode cX1_stays 0 = .ok (.aload_n 0, 1) := by decide +kernel
theorem dX1_stays_1 : decode cX1_stays 1 = .ok (.getfield 19, 3) := by decide +kernel
theorem dX1_stays_4 : decode cX1_stays 4 = .ok (.bipush 6, 2) := by decide +kernel
theorem dX1_stays_6 : decode cX1_stays 6 = .ok (.invokestatic 11, 3) := by decide +kernel
theorem dX1_stays_9 : decode cX1_stays 9 = .ok (.ifCond .eq 14, 3) := by decide +kernel
theorem dX1_stays_12 : decode cX1_stays 12 = .ok (.getstatic 57, 3) := by decide +kernel
theorem dX1_stays_15 : decode cX1_stays 15 = .ok (.aload_n 0, 1) := by decide +kernel
theorem dX1_stays_16 : decode cX1_stays 16 = .ok (.getfield 19, 3) := by decide +kernel
theorem dX1_stays_19 : decode cX1_stays 19 = .ok (.iaload, 1) := by decide +kernel
theorem dX1_stays_20 : decode cX1_stays 20 = .ok (.goto 4, 3) := by decide +kernel
theorem dX1_stays_23 : decode cX1_stays 23 = .ok (.iconst 0, 1) := by decide +kernel
theorem dX1_stays_24 : decode cX1_stays 24 = .ok (.ireturn, 1) := by decide +kernel
theorem dX1_keeps_0 : decode cX1_keeps 0 = .ok (.aload_n 0, 1) := by decide +kernel
theorem dX1_keeps_1 : decode cX1_keeps 1 = .ok (.getfield 19, 3) := by decide +kernel
theorem dX1_keeps_4 : decode cX1_keeps 4 = .ok (.bipush 6, 2) := by decide +kernel
theorem dX1_keeps_6 : decode cX1_keeps 6 = .ok (.invokestatic 11, 3) := by decide +kernel
theorem dX1_keeps_9 : decode cX1_keeps 9 = .ok (.ifCond .eq 14, 3) := by decide +kernel
theorem dX1_keeps_12 : decode cX1_keeps 12 = .ok (.getstatic 60, 3) := by decide +kernel
theorem dX1_keeps_15 : decode cX1_keeps 15 = .ok (.aload_n 0, 1) := by decide +kernel
theorem dX1_keeps_16 : decode cX1_keeps 16 = .ok (.getfield 19, 3) := by decide +kernel
theorem dX1_keeps_19 : decode cX1_keeps 19 = .ok (.iaload, 1) := by decide +kernel
theorem dX1_keeps_20 : decode cX1_keeps 20 = .ok (.goto 4, 3) := by decide +kernel
theorem dX1_keeps_23 : decode cX1_keeps 23 = .ok (.iconst 0, 1) := by decide +kernel
theorem dX1_keeps_24 : decode cX1_keeps 24 = .ok (.ireturn, 1) := by decide +kernel
theorem dX1_isA_0 : decode cX1_isA 0 = .ok (.aload_n 0, 1) := by decide +kernel
theorem dX1_isA_1 : decode cX1_isA 1 = .ok (.getfield 19, 3) := by decide +kernel
theorem dX1_isA_4 : decode cX1_isA 4 = .ok (.istore_n 2, 1) := by decide +kernel
theorem dX1_isA_5 : decode cX1_isA 5 = .ok (.iconst 0, 1) := by decide +kernel
theorem dX1_isA_6 : decode cX1_isA 6 = .ok (.istore_n 3, 1) := by decide +kernel
theorem dX1_isA_7 : decode cX1_isA 7 = .ok (.iload_n 3, 1) := by decide +kernel
theorem dX1_isA_8 : decode cX1_isA 8 = .ok (.bipush 7, 2) := by decide +kernel
theorem dX1_isA_10 : decode cX1_isA 10 = .ok (.if_icmp .ge 31, 3) := by decide +kernel
theorem dX1_isA_13 : decode cX1_isA 13 = .ok (.iload_n 2, 1) := by decide +kernel
theorem dX1_isA_14 : decode cX1_isA 14 = .ok (.bipush 6, 2) := by decide +kernel
theorem dX1_isA_16 : decode cX1_isA 16 = .ok (.invokestatic 11, 3) := by decide +kernel
theorem dX1_isA_19 : decode cX1_isA 19 = .ok (.ifCond .eq 22, 3) := by decide +kernel
theorem dX1_isA_22 : decode cX1_isA 22 = .ok (.iload_n 2, 1) := by decide +kernel
theorem dX1_isA_23 : decode cX1_isA 23 = .ok (.iload_n 1, 1) := by decide +kernel
theorem dX1_isA_24 : decode cX1_isA 24 = .ok (.if_icmp .ne 5, 3) := by decide +kernel
theorem dX1_isA_27 : decode cX1_isA 27 = .ok (.iconst 1, 1) := by decide +kernel
theorem dX1_isA_28 : decode cX1_isA 28 = .ok (.ireturn, 1) := by decide +kernel
theorem dX1_isA_29 : decode cX1_isA 29 = .ok (.getstatic 63, 3) := by decide +kernel
theorem dX1_isA_32 : decode cX1_isA 32 = .ok (.iload_n 2, 1) := by decide +kernel
theorem dX1_isA_33 : decode cX1_isA 33 = .ok (.iaload, 1) := by decide +kernel
theorem dX1_isA_34 : decode cX1_isA 34 = .ok (.istore_n 2, 1) := by decide +kernel
theorem dX1_isA_35 : decode cX1_isA 35 = .ok (.iinc 3 1, 3) := by decide +kernel
theorem dX1_isA_38 : decode cX1_isA 38 = .ok (.goto (-31), 3) := by decide +kernel
theorem dX1_isA_41 : decode cX1_isA 41 = .ok (.iconst 0, 1) := by decide +kernel
theorem dX1_isA_42 : decode cX1_isA 42 = .ok (.ireturn, 1) := by decide +kernel
theorem dX1_takeIn_0 : decode cX1_takeIn 0 = .ok (.iconst 1, 1) := by decide +kernel
theorem dX1_takeIn_1 : decode cX1_takeIn 1 = .ok (.iload_n 1, 1) := by decide +kernel
theorem dX1_takeIn_2 : decode cX1_takeIn 2 = .ok (.ishl, 1) := by decide +kernel
theorem dX1_takeIn_3 : decode cX1_takeIn 3 = .ok (.istore_n 2, 1) := by decide +kernel
theorem dX1_takeIn_4 : decode cX1_takeIn 4 = .ok (.aload_n 0, 1) := by decide +kernel
theorem dX1_takeIn_5 : decode cX1_takeIn 5 = .ok (.dup, 1) := by decide +kernel
theorem dX1_takeIn_6 : decode cX1_takeIn 6 = .ok (.getfield 29, 3) := by decide +kernel
theorem dX1_takeIn_9 : decode cX1_takeIn 9 = .ok (.iload_n 2, 1) := by decide +kernel
theorem dX1_takeIn_10 : decode cX1_takeIn 10 = .ok (.ior, 1) := by decide +kernel
theorem dX1_takeIn_11 : decode cX1_takeIn 11 = .ok (.putfield 29, 3) := by decide +kernel
theorem dX1_takeIn_14 : decode cX1_takeIn 14 = .ok (.aload_n 0, 1) := by decide +kernel
theorem dX1_takeIn_15 : decode cX1_takeIn 15 = .ok (.getfield 29, 3) := by decide +kernel
theorem dX1_takeIn_18 : decode cX1_takeIn 18 = .ok (.invokestatic 66, 3) := by decide +kernel
theorem dX1_takeIn_21 : decode cX1_takeIn 21 = .ok (.aload_n 0, 1) := by decide +kernel
theorem dX1_takeIn_22 : decode cX1_takeIn 22 = .ok (.invokevirtual 48, 3) := by decide +kernel
theorem dX1_takeIn_25 : decode cX1_takeIn 25 = .ok (.if_icmp .le 23, 3) := by decide +kernel
theorem dX1_takeIn_28 : decode cX1_takeIn 28 = .ok (.aload_n 0, 1) := by decide +kernel
theorem dX1_takeIn_29 : decode cX1_takeIn 29 = .ok (.getfield 29, 3) := by decide +kernel
theorem dX1_takeIn_32 : decode cX1_takeIn 32 = .ok (.iload_n 2, 1) := by decide +kernel
theorem dX1_takeIn_33 : decode cX1_takeIn 33 = .ok (.iconst (-1), 1) := by decide +kernel
theorem dX1_takeIn_34 : decode cX1_takeIn 34 = .ok (.ixor, 1) := by decide +kernel
theorem dX1_takeIn_35 : decode cX1_takeIn 35 = .ok (.iand, 1) := by decide +kernel
theorem dX1_takeIn_36 : decode cX1_takeIn 36 = .ok (.istore_n 3, 1) := by decide +kernel
theorem dX1_takeIn_37 : decode cX1_takeIn 37 = .ok (.aload_n 0, 1) := by decide +kernel
theorem dX1_takeIn_38 : decode cX1_takeIn 38 = .ok (.iload_n 2, 1) := by decide +kernel
theorem dX1_takeIn_39 : decode cX1_takeIn 39 = .ok (.iload_n 3, 1) := by decide +kernel
theorem dX1_takeIn_40 : decode cX1_takeIn 40 = .ok (.iload_n 3, 1) := by decide +kernel
theorem dX1_takeIn_41 : decode cX1_takeIn 41 = .ok (.iconst 1, 1) := by decide +kernel
theorem dX1_takeIn_42 : decode cX1_takeIn 42 = .ok (.isub, 1) := by decide +kernel
theorem dX1_takeIn_43 : decode cX1_takeIn 43 = .ok (.iand, 1) := by decide +kernel
theorem dX1_takeIn_44 : decode cX1_takeIn 44 = .ok (.ior, 1) := by decide +kernel
theorem dX1_takeIn_45 : decode cX1_takeIn 45 = .ok (.putfield 29, 3) := by decide +kernel
theorem dX1_takeIn_48 : decode cX1_takeIn 48 = .ok (.return_, 1) := by decide +kernel
theorem dX1_lieOneDay_0 : decode cX1_lieOneDay 0 = .ok (.aload_n 0, 1) := by decide +kernel
theorem dX1_lieOneDay_1 : decode cX1_lieOneDay 1 = .ok (.getstatic 15, 3) := by decide +kernel
theorem dX1_lieOneDay_4 : decode cX1_lieOneDay 4 = .ok (.iconst 4, 1) := by decide +kernel
theorem dX1_lieOneDay_5 : decode cX1_lieOneDay 5 = .ok (.iaload, 1) := by decide +kernel
theorem dX1_lieOneDay_6 : decode cX1_lieOneDay 6 = .ok (.aload_n 0, 1) := by decide +kernel
theorem dX1_lieOneDay_7 : decode cX1_lieOneDay 7 = .ok (.getfield 32, 3) := by decide +kernel
theorem dX1_lieOneDay_10 : decode cX1_lieOneDay 10 = .ok (.iconst 1, 1) := by decide +kernel
theorem dX1_lieOneDay_11 : decode cX1_lieOneDay 11 = .ok (.iadd, 1) := by decide +kernel
theorem dX1_lieOneDay_12 : decode cX1_lieOneDay 12 = .ok (.invokestatic 72, 3) := by decide +kernel
theorem dX1_lieOneDay_15 : decode cX1_lieOneDay 15 = .ok (.putfield 32, 3) := by decide +kernel
theorem dX1_lieOneDay_18 : decode cX1_lieOneDay 18 = .ok (.aload_n 0, 1) := by decide +kernel
theorem dX1_lieOneDay_19 : decode cX1_lieOneDay 19 = .ok (.invokevirtual 45, 3) := by decide +kernel
theorem dX1_lieOneDay_22 : decode cX1_lieOneDay 22 = .ok (.istore_n 1, 1) := by decide +kernel
theorem dX1_lieOneDay_23 : decode cX1_lieOneDay 23 = .ok (.iload_n 1, 1) := by decide +kernel
theorem dX1_lieOneDay_24 : decode cX1_lieOneDay 24 = .ok (.ifCond .le 15, 3) := by decide +kernel
theorem dX1_lieOneDay_27 : decode cX1_lieOneDay 27 = .ok (.aload_n 0, 1) := by decide +kernel
theorem dX1_lieOneDay_28 : decode cX1_lieOneDay 28 = .ok (.getfield 32, 3) := by decide +kernel
theorem dX1_lieOneDay_31 : decode cX1_lieOneDay 31 = .ok (.iload_n 1, 1) := by decide +kernel
theorem dX1_lieOneDay_32 : decode cX1_lieOneDay 32 = .ok (.if_icmp .lt 7, 3) := by decide +kernel
theorem dX1_lieOneDay_35 : decode cX1_lieOneDay 35 = .ok (.aload_n 0, 1) := by decide +kernel
theorem dX1_lieOneDay_36 : decode cX1_lieOneDay 36 = .ok (.invokevirtual 75, 3) := by decide +kernel
theorem dX1_lieOneDay_39 : decode cX1_lieOneDay 39 = .ok (.return_, 1) := by decide +kernel
theorem dX1_beDrawnOn_0 : decode cX1_beDrawnOn 0 = .ok (.aload_n 0, 1) := by decide +kernel
theorem dX1_beDrawnOn_1 : decode cX1_beDrawnOn 1 = .ok (.dup, 1) := by decide +kernel
theorem dX1_beDrawnOn_2 : decode cX1_beDrawnOn 2 = .ok (.getfield 35, 3) := by decide +kernel
theorem dX1_beDrawnOn_5 : decode cX1_beDrawnOn 5 = .ok (.aload_n 0, 1) := by decide +kernel
theorem dX1_beDrawnOn_6 : decode cX1_beDrawnOn 6 = .ok (.getfield 29, 3) := by decide +kernel
theorem dX1_beDrawnOn_9 : decode cX1_beDrawnOn 9 = .ok (.ior, 1) := by decide +kernel
theorem dX1_beDrawnOn_10 : decode cX1_beDrawnOn 10 = .ok (.putfield 35, 3) := by decide +kernel
theorem dX1_beDrawnOn_13 : decode cX1_beDrawnOn 13 = .ok (.aload_n 0, 1) := by decide +kernel
theorem dX1_beDrawnOn_14 : decode cX1_beDrawnOn 14 = .ok (.iconst 0, 1) := by decide +kernel
theorem dX1_beDrawnOn_15 : decode cX1_beDrawnOn 15 = .ok (.putfield 29, 3) := by decide +kernel
theorem dX1_beDrawnOn_18 : decode cX1_beDrawnOn 18 = .ok (.aload_n 0, 1) := by decide +kernel
theorem dX1_beDrawnOn_19 : decode cX1_beDrawnOn 19 = .ok (.iconst 0, 1) := by decide +kernel
theorem dX1_beDrawnOn_20 : decode cX1_beDrawnOn 20 = .ok (.putfield 32, 3) := by decide +kernel
theorem dX1_beDrawnOn_23 : decode cX1_beDrawnOn 23 = .ok (.aload_n 0, 1) := by decide +kernel
theorem dX1_beDrawnOn_24 : decode cX1_beDrawnOn 24 = .ok (.getstatic 15, 3) := by decide +kernel
theorem dX1_beDrawnOn_27 : decode cX1_beDrawnOn 27 = .ok (.bipush 6, 2) := by decide +kernel
theorem dX1_beDrawnOn_29 : decode cX1_beDrawnOn 29 = .ok (.iaload, 1) := by decide +kernel
theorem dX1_beDrawnOn_30 : decode cX1_beDrawnOn 30 = .ok (.aload_n 0, 1) := by decide +kernel
theorem dX1_beDrawnOn_31 : decode cX1_beDrawnOn 31 = .ok (.getfield 38, 3) := by decide +kernel
theorem dX1_beDrawnOn_34 : decode cX1_beDrawnOn 34 = .ok (.iconst 1, 1) := by decide +kernel
theorem dX1_beDrawnOn_35 : decode cX1_beDrawnOn 35 = .ok (.iadd, 1) := by decide +kernel
theorem dX1_beDrawnOn_36 : decode cX1_beDrawnOn 36 = .ok (.invokestatic 72, 3) := by decide +kernel
theorem dX1_beDrawnOn_39 : decode cX1_beDrawnOn 39 = .ok (.putfield 38, 3) := by decide +kernel
theorem dX1_beDrawnOn_42 : decode cX1_beDrawnOn 42 = .ok (.aload_n 0, 1) := by decide +kernel
theorem dX1_beDrawnOn_43 : decode cX1_beDrawnOn 43 = .ok (.aload_n 0, 1) := by decide +kernel
theorem dX1_beDrawnOn_44 : decode cX1_beDrawnOn 44 = .ok (.getfield 23, 3) := by decide +kernel
theorem dX1_beDrawnOn_47 : decode cX1_beDrawnOn 47 = .ok (.iconst 1, 1) := by decide +kernel
theorem dX1_beDrawnOn_48 : decode cX1_beDrawnOn 48 = .ok (.iadd, 1) := by decide +kernel
theorem dX1_beDrawnOn_49 : decode cX1_beDrawnOn 49 = .ok (.bipush 6, 2) := by decide +kernel
theorem dX1_beDrawnOn_51 : decode cX1_beDrawnOn 51 = .ok (.irem, 1) := by decide +kernel
theorem dX1_beDrawnOn_52 : decode cX1_beDrawnOn 52 = .ok (.putfield 23, 3) := by decide +kernel
theorem dX1_beDrawnOn_55 : decode cX1_beDrawnOn 55 = .ok (.return_, 1) := by decide +kernel
theorem dX2_init_0 : decode cX2_init 0 = .ok (.aload_n 0, 1) := by decide +kernel
theorem dX2_init_1 : decode cX2_init 1 = .ok (.invokespecial 3, 3) := by decide +kernel
theorem dX2_init_4 : decode cX2_init 4 = .ok (.aload_n 0, 1) := by decide +kernel
theorem dX2_init_5 : decode cX2_init 5 = .ok (.bipush 40, 2) := by decide +kernel
theorem dX2_init_7 : decode cX2_init 7 = .ok (.newarray .int, 2) := by decide +kernel
theorem dX2_init_9 : decode cX2_init 9 = .ok (.putfield 9, 3) := by decide +kernel
theorem dX2_init_12 : decode cX2_init 12 = .ok (.aload_n 0, 1) := by decide +kernel
theorem dX2_init_13 : decode cX2_init 13 = .ok (.iconst 0, 1) := by decide +kernel
theorem dX2_init_14 : decode cX2_init 14 = .ok (.putfield 15, 3) := by decide +kernel
theorem dX2_init_17 : decode cX2_init 17 = .ok (.aload_n 0, 1) := by decide +kernel
theorem dX2_init_18 : decode cX2_init 18 = .ok (.iconst 0, 1) := by decide +kernel
theorem dX2_init_19 : decode cX2_init 19 = .ok (.putfield 19, 3) := by decide +kernel
theorem dX2_init_22 : decode cX2_init 22 = .ok (.return_, 1) := by decide +kernel
theorem dX2_isMissing_0 : decode cX2_isMissing 0 = .ok (.aload_n 0, 1) := by decide +kernel
theorem dX2_isMissing_1 : decode cX2_isMissing 1 = .ok (.getfield 15, 3) := by decide +kernel
theorem dX2_isMissing_4 : decode cX2_isMissing 4 = .ok (.ifCond .ne 7, 3) := by decide +kernel
theorem dX2_isMissing_7 : decode cX2_isMissing 7 = .ok (.iconst 1, 1) := by decide +kernel
theorem dX2_isMissing_8 : decode cX2_isMissing 8 = .ok (.goto 4, 3) := by decide +kernel
theorem dX2_isMissing_11 : decode cX2_isMissing 11 = .ok (.iconst 0, 1) := by decide +kernel
theorem dX2_isMissing_12 : decode cX2_isMissing 12 = .ok (.ireturn, 1) := by decide +kernel
theorem dX2_layOut_0 : decode cX2_layOut 0 = .ok (.aload_n 0, 1) := by decide +kernel
theorem dX2_layOut_1 : decode cX2_layOut 1 = .ok (.iload_n 1, 1) := by decide +kernel
theorem dX2_layOut_2 : decode cX2_layOut 2 = .ok (.putfield 15, 3) := by decide +kernel
theorem dX2_layOut_5 : decode cX2_layOut 5 = .ok (.aload_n 0, 1) := by decide +kernel
theorem dX2_layOut_6 : decode cX2_layOut 6 = .ok (.iload_n 2, 1) := by decide +kernel
theorem dX2_layOut_7 : decode cX2_layOut 7 = .ok (.putfield 19, 3) := by decide +kernel
theorem dX2_layOut_10 : decode cX2_layOut 10 = .ok (.iconst 0, 1) := by decide +kernel
theorem dX2_layOut_11 : decode cX2_layOut 11 = .ok (.istore_n 3, 1) := by decide +kernel
theorem dX2_layOut_12 : decode cX2_layOut 12 = .ok (.iload_n 3, 1) := by decide +kernel
theorem dX2_layOut_13 : decode cX2_layOut 13 = .ok (.aload_n 0, 1) := by decide +kernel
theorem dX2_layOut_14 : decode cX2_layOut 14 = .ok (.getfield 19, 3) := by decide +kernel
theorem dX2_layOut_17 : decode cX2_layOut 17 = .ok (.if_icmp .ge 16, 3) := by decide +kernel
theorem dX2_layOut_20 : decode cX2_layOut 20 = .ok (.aload_n 0, 1) := by decide +kernel
theorem dX2_layOut_21 : decode cX2_layOut 21 = .ok (.getfield 9, 3) := by decide +kernel
theorem dX2_layOut_24 : decode cX2_layOut 24 = .ok (.iload_n 3, 1) := by decide +kernel
theorem dX2_layOut_25 : decode cX2_layOut 25 = .ok (.iconst 0, 1) := by decide +kernel
theorem dX2_layOut_26 : decode cX2_layOut 26 = .ok (.iastore, 1) := by decide +kernel
theorem dX2_layOut_27 : decode cX2_layOut 27 = .ok (.iinc 3 1, 3) := by decide +kernel
theorem dX2_layOut_30 : decode cX2_layOut 30 = .ok (.goto (-18), 3) := by decide +kernel
theorem dX2_layOut_33 : decode cX2_layOut 33 = .ok (.return_, 1) := by decide +kernel
theorem dX2_setNumber_0 : decode cX2_setNumber 0 = .ok (.aload_n 0, 1) := by decide +kernel
theorem dX2_setNumber_1 : decode cX2_setNumber 1 = .ok (.getfield 15, 3) := by decide +kernel
theorem dX2_setNumber_4 : decode cX2_setNumber 4 = .ok (.lookupswitch 50 #[(8, 28), (16, 39)], 28) := by decide +kernel
theorem dX2_setNumber_32 : decode cX2_setNumber 32 = .ok (.aload_n 0, 1) := by decide +kernel
theorem dX2_setNumber_33 : decode cX2_setNumber 33 = .ok (.getfield 9, 3) := by decide +kernel
theorem dX2_setNumber_36 : decode cX2_setNumber 36 = .ok (.iload_n 1, 1) := by decide +kernel
theorem dX2_setNumber_37 : decode cX2_setNumber 37 = .ok (.iload_n 2, 1) := by decide +kernel
theorem dX2_setNumber_38 : decode cX2_setNumber 38 = .ok (.i2b, 1) := by decide +kernel
theorem dX2_setNumber_39 : decode cX2_setNumber 39 = .ok (.iastore, 1) := by decide +kernel
theorem dX2_setNumber_40 : decode cX2_setNumber 40 = .ok (.goto 21, 3) := by decide +kernel
theorem dX2_setNumber_43 : decode cX2_setNumber 43 = .ok (.aload_n 0, 1) := by decide +kernel
theorem dX2_setNumber_44 : decode cX2_setNumber 44 = .ok (.getfield 9, 3) := by decide +kernel
theorem dX2_setNumber_47 : decode cX2_setNumber 47 = .ok (.iload_n 1, 1) := by decide +kernel
theorem dX2_setNumber_48 : decode cX2_setNumber 48 = .ok (.iload_n 2, 1) := by decide +kernel
theorem dX2_setNumber_49 : decode cX2_setNumber 49 = .ok (.i2s, 1) := by decide +kernel
theorem dX2_setNumber_50 : decode cX2_setNumber 50 = .ok (.iastore, 1) := by decide +kernel
theorem dX2_setNumber_51 : decode cX2_setNumber 51 = .ok (.goto 10, 3) := by decide +kernel
theorem dX2_setNumber_54 : decode cX2_setNumber 54 = .ok (.aload_n 0, 1) := by decide +kernel
theorem dX2_setNumber_55 : decode cX2_setNumber 55 = .ok (.getfield 9, 3) := by decide +kernel
theorem dX2_setNumber_58 : decode cX2_setNumber 58 = .ok (.iload_n 1, 1) := by decide +kernel
theorem dX2_setNumber_59 : decode cX2_setNumber 59 = .ok (.iload_n 2, 1) := by decide +kernel
theorem dX2_setNumber_60 : decode cX2_setNumber 60 = .ok (.iastore, 1) := by decide +kernel
theorem dX2_setNumber_61 : decode cX2_setNumber 61 = .ok (.return_, 1) := by decide +kernel
theorem dX2_hasRow_0 : decode cX2_hasRow 0 = .ok (.iload_n 1, 1) := by decide +kernel
theorem dX2_hasRow_1 : decode cX2_hasRow 1 = .ok (.aload_n 0, 1) := by decide +kernel
theorem dX2_hasRow_2 : decode cX2_hasRow 2 = .ok (.getfield 19, 3) := by decide +kernel
theorem dX2_hasRow_5 : decode cX2_hasRow 5 = .ok (.invokestatic 22, 3) := by decide +kernel
theorem dX2_hasRow_8 : decode cX2_hasRow 8 = .ok (.ifCond .eq 20, 3) := by decide +kernel
theorem dX2_hasRow_11 : decode cX2_hasRow 11 = .ok (.iload_n 2, 1) := by decide +kernel
theorem dX2_hasRow_12 : decode cX2_hasRow 12 = .ok (.aload_n 0, 1) := by decide +kernel
theorem dX2_hasRow_13 : decode cX2_hasRow 13 = .ok (.getfield 19, 3) := by decide +kernel
theorem dX2_hasRow_16 : decode cX2_hasRow 16 = .ok (.iload_n 1, 1) := by decide +kernel
theorem dX2_hasRow_17 : decode cX2_hasRow 17 = .ok (.isub, 1) := by decide +kernel
theorem dX2_hasRow_18 : decode cX2_hasRow 18 = .ok (.invokestatic 22, 3) := by decide +kernel
theorem dX2_hasRow_21 : decode cX2_hasRow 21 = .ok (.ifCond .eq 7, 3) := by decide +kernel
theorem dX2_hasRow_24 : decode cX2_hasRow 24 = .ok (.iconst 1, 1) := by decide +kernel
theorem dX2_hasRow_25 : decode cX2_hasRow 25 = .ok (.goto 4, 3) := by decide +kernel
theorem dX2_hasRow_28 : decode cX2_hasRow 28 = .ok (.iconst 0, 1) := by decide +kernel
theorem dX2_hasRow_29 : decode cX2_hasRow 29 = .ok (.ireturn, 1) := by decide +kernel
theorem dX3_init_0 : decode cX3_init 0 = .ok (.aload_n 0, 1) := by decide +kernel
theorem dX3_init_1 : decode cX3_init 1 = .ok (.invokespecial 3, 3) := by decide +kernel
theorem dX3_init_4 : decode cX3_init 4 = .ok (.aload_n 0, 1) := by decide +kernel
theorem dX3_init_5 : decode cX3_init 5 = .ok (.bipush 120, 2) := by decide +kernel
theorem dX3_init_7 : decode cX3_init 7 = .ok (.newarray .byte, 2) := by decide +kernel
theorem dX3_init_9 : decode cX3_init 9 = .ok (.putfield 9, 3) := by decide +kernel
theorem dX3_init_12 : decode cX3_init 12 = .ok (.aload_n 0, 1) := by decide +kernel
theorem dX3_init_13 : decode cX3_init 13 = .ok (.iconst 0, 1) := by decide +kernel
theorem dX3_init_14 : decode cX3_init 14 = .ok (.putfield 15, 3) := by decide +kernel
theorem dX3_init_17 : decode cX3_init 17 = .ok (.return_, 1) := by decide +kernel
theorem dX3_append_0 : decode cX3_append 0 = .ok (.aload_n 0, 1) := by decide +kernel
theorem dX3_append_1 : decode cX3_append 1 = .ok (.getfield 15, 3) := by decide +kernel
theorem dX3_append_4 : decode cX3_append 4 = .ok (.bipush 120, 2) := by decide +kernel
theorem dX3_append_6 : decode cX3_append 6 = .ok (.if_icmp .ge 23, 3) := by decide +kernel
theorem dX3_append_9 : decode cX3_append 9 = .ok (.aload_n 0, 1) := by decide +kernel
theorem dX3_append_10 : decode cX3_append 10 = .ok (.getfield 9, 3) := by decide +kernel
theorem dX3_append_13 : decode cX3_append 13 = .ok (.aload_n 0, 1) := by decide +kernel
theorem dX3_append_14 : decode cX3_append 14 = .ok (.getfield 15, 3) := by decide +kernel
theorem dX3_append_17 : decode cX3_append 17 = .ok (.iload_n 1, 1) := by decide +kernel
theorem dX3_append_18 : decode cX3_append 18 = .ok (.bastore, 1) := by decide +kernel
theorem dX3_append_19 : decode cX3_append 19 = .ok (.aload_n 0, 1) := by decide +kernel
theorem dX3_append_20 : decode cX3_append 20 = .ok (.dup, 1) := by decide +kernel
theorem dX3_append_21 : decode cX3_append 21 = .ok (.getfield 15, 3) := by decide +kernel
theorem dX3_append_24 : decode cX3_append 24 = .ok (.iconst 1, 1) := by decide +kernel
theorem dX3_append_25 : decode cX3_append 25 = .ok (.iadd, 1) := by decide +kernel
theorem dX3_append_26 : decode cX3_append 26 = .ok (.putfield 15, 3) := by decide +kernel
theorem dX3_append_29 : decode cX3_append 29 = .ok (.return_, 1) := by decide +kernel
theorem dX3_byteAt_0 : decode cX3_byteAt 0 = .ok (.iload_n 1, 1) := by decide +kernel
theorem dX3_byteAt_1 : decode cX3_byteAt 1 = .ok (.aload_n 0, 1) := by decide +kernel
theorem dX3_byteAt_2 : decode cX3_byteAt 2 = .ok (.getfield 15, 3) := by decide +kernel
theorem dX3_byteAt_5 : decode cX3_byteAt 5 = .ok (.iconst 1, 1) := by decide +kernel
theorem dX3_byteAt_6 : decode cX3_byteAt 6 = .ok (.isub, 1) := by decide +kernel
theorem dX3_byteAt_7 : decode cX3_byteAt 7 = .ok (.invokestatic 19, 3) := by decide +kernel
theorem dX3_byteAt_10 : decode cX3_byteAt 10 = .ok (.ifCond .eq 12, 3) := by decide +kernel
theorem dX3_byteAt_13 : decode cX3_byteAt 13 = .ok (.aload_n 0, 1) := by decide +kernel
theorem dX3_byteAt_14 : decode cX3_byteAt 14 = .ok (.getfield 9, 3) := by decide +kernel
theorem dX3_byteAt_17 : decode cX3_byteAt 17 = .ok (.iload_n 1, 1) := by decide +kernel
theorem dX3_byteAt_18 : decode cX3_byteAt 18 = .ok (.baload, 1) := by decide +kernel
theorem dX3_byteAt_19 : decode cX3_byteAt 19 = .ok (.goto 4, 3) := by decide +kernel
theorem dX3_byteAt_22 : decode cX3_byteAt 22 = .ok (.iconst 0, 1) := by decide +kernel
theorem dX3_byteAt_23 : decode cX3_byteAt 23 = .ok (.ireturn, 1) := by decide +kernel
theorem dX3_spells_0 : decode cX3_spells 0 = .ok (.aload_n 1, 1) := by decide +kernel
theorem dX3_spells_1 : decode cX3_spells 1 = .ok (.invokevirtual 23, 3) := by decide +kernel
theorem dX3_spells_4 : decode cX3_spells 4 = .ok (.iload_n 3, 1) := by decide +kernel
theorem dX3_spells_5 : decode cX3_spells 5 = .ok (.iload_n 2, 1) := by decide +kernel
theorem dX3_spells_6 : decode cX3_spells 6 = .ok (.isub, 1) := by decide +kernel
theorem dX3_spells_7 : decode cX3_spells 7 = .ok (.if_icmp .eq 5, 3) := by decide +kernel
theorem dX3_spells_10 : decode cX3_spells 10 = .ok (.iconst 0, 1) := by decide +kernel
theorem dX3_spells_11 : decode cX3_spells 11 = .ok (.ireturn, 1) := by decide +kernel
theorem dX3_spells_12 : decode cX3_spells 12 = .ok (.iconst 0, 1) := by decide +kernel
theorem dX3_spells_13 : decode cX3_spells 13 = .ok (.istore 4, 2) := by decide +kernel
theorem dX3_spells_15 : decode cX3_spells 15 = .ok (.iload 4, 2) := by decide +kernel
theorem dX3_spells_17 : decode cX3_spells 17 = .ok (.aload_n 1, 1) := by decide +kernel
theorem dX3_spells_18 : decode cX3_spells 18 = .ok (.invokevirtual 23, 3) := by decide +kernel
theorem dX3_spells_21 : decode cX3_spells 21 = .ok (.if_icmp .ge 28, 3) := by decide +kernel
theorem dX3_spells_24 : decode cX3_spells 24 = .ok (.aload_n 0, 1) := by decide +kernel
theorem dX3_spells_25 : decode cX3_spells 25 = .ok (.iload_n 2, 1) := by decide +kernel
theorem dX3_spells_26 : decode cX3_spells 26 = .ok (.iload 4, 2) := by decide +kernel
theorem dX3_spells_28 : decode cX3_spells 28 = .ok (.iadd, 1) := by decide +kernel
theorem dX3_spells_29 : decode cX3_spells 29 = .ok (.invokevirtual 28, 3) := by decide +kernel
theorem dX3_spells_32 : decode cX3_spells 32 = .ok (.aload_n 1, 1) := by decide +kernel
theorem dX3_spells_33 : decode cX3_spells 33 = .ok (.iload 4, 2) := by decide +kernel
theorem dX3_spells_35 : decode cX3_spells 35 = .ok (.invokevirtual 32, 3) := by decide +kernel
theorem dX3_spells_38 : decode cX3_spells 38 = .ok (.if_icmp .eq 5, 3) := by decide +kernel
theorem dX3_spells_41 : decode cX3_spells 41 = .ok (.iconst 0, 1) := by decide +kernel
theorem dX3_spells_42 : decode cX3_spells 42 = .ok (.ireturn, 1) := by decide +kernel
theorem dX3_spells_43 : decode cX3_spells 43 = .ok (.iinc 4 1, 3) := by decide +kernel
theorem dX3_spells_46 : decode cX3_spells 46 = .ok (.goto (-31), 3) := by decide +kernel
theorem dX3_spells_49 : decode cX3_spells 49 = .ok (.iconst 1, 1) := by decide +kernel
theorem dX3_spells_50 : decode cX3_spells 50 = .ok (.ireturn, 1) := by decide +kernel
theorem dX4_init_0 : decode cX4_init 0 = .ok (.aload_n 0, 1) := by decide +kernel
theorem dX4_init_1 : decode cX4_init 1 = .ok (.invokespecial 3, 3) := by decide +kernel
theorem dX4_init_4 : decode cX4_init 4 = .ok (.aload_n 0, 1) := by decide +kernel
theorem dX4_init_5 : decode cX4_init 5 = .ok (.new 9, 3) := by decide +kernel
theorem dX4_init_8 : decode cX4_init 8 = .ok (.dup, 1) := by decide +kernel
theorem dX4_init_9 : decode cX4_init 9 = .ok (.invokespecial 11, 3) := by decide +kernel
theorem dX4_init_12 : decode cX4_init 12 = .ok (.putfield 12, 3) := by decide +kernel
theorem dX4_init_15 : decode cX4_init 15 = .ok (.aload_n 0, 1) := by decide +kernel
theorem dX4_init_16 : decode cX4_init 16 = .ok (.iconst 0, 1) := by decide +kernel
theorem dX4_init_17 : decode cX4_init 17 = .ok (.putfield 18, 3) := by decide +kernel
theorem dX4_init_20 : decode cX4_init 20 = .ok (.aload_n 0, 1) := by decide +kernel
theorem dX4_init_21 : decode cX4_init 21 = .ok (.iconst 0, 1) := by decide +kernel
theorem dX4_init_22 : decode cX4_init 22 = .ok (.putfield 22, 3) := by decide +kernel
theorem dX4_init_25 : decode cX4_init 25 = .ok (.return_, 1) := by decide +kernel
theorem dX4_read_0 : decode cX4_read 0 = .ok (.aload_n 0, 1) := by decide +kernel
theorem dX4_read_1 : decode cX4_read 1 = .ok (.getfield 12, 3) := by decide +kernel
theorem dX4_read_4 : decode cX4_read 4 = .ok (.aload_n 1, 1) := by decide +kernel
theorem dX4_read_5 : decode cX4_read 5 = .ok (.invokevirtual 26, 3) := by decide +kernel
theorem dX4_read_8 : decode cX4_read 8 = .ok (.aload_n 0, 1) := by decide +kernel
theorem dX4_read_9 : decode cX4_read 9 = .ok (.iconst 0, 1) := by decide +kernel
theorem dX4_read_10 : decode cX4_read 10 = .ok (.putfield 18, 3) := by decide +kernel
theorem dX4_read_13 : decode cX4_read 13 = .ok (.aload_n 0, 1) := by decide +kernel
theorem dX4_read_14 : decode cX4_read 14 = .ok (.iconst 0, 1) := by decide +kernel
theorem dX4_read_15 : decode cX4_read 15 = .ok (.putfield 22, 3) := by decide +kernel
theorem dX4_read_18 : decode cX4_read 18 = .ok (.iconst 1, 1) := by decide +kernel
theorem dX4_read_19 : decode cX4_read 19 = .ok (.istore_n 3, 1) := by decide +kernel
theorem dX4_read_20 : decode cX4_read 20 = .ok (.iload_n 3, 1) := by decide +kernel
theorem dX4_read_21 : decode cX4_read 21 = .ok (.bipush 120, 2) := by decide +kernel
theorem dX4_read_23 : decode cX4_read 23 = .ok (.if_icmp .gt 60, 3) := by decide +kernel
theorem dX4_read_26 : decode cX4_read 26 = .ok (.aload_n 0, 1) := by decide +kernel
theorem dX4_read_27 : decode cX4_read 27 = .ok (.getfield 22, 3) := by decide +kernel
theorem dX4_read_30 : decode cX4_read 30 = .ok (.ifCond .ne 53, 3) := by decide +kernel
theorem dX4_read_33 : decode cX4_read 33 = .ok (.aload_n 0, 1) := by decide +kernel
theorem dX4_read_34 : decode cX4_read 34 = .ok (.aload_n 2, 1) := by decide +kernel
theorem dX4_read_35 : decode cX4_read 35 = .ok (.invokevirtual 30, 3) := by decide +kernel
theorem dX4_read_38 : decode cX4_read 38 = .ok (.aload_n 0, 1) := by decide +kernel
theorem dX4_read_39 : decode cX4_read 39 = .ok (.getfield 22, 3) := by decide +kernel
theorem dX4_read_42 : decode cX4_read 42 = .ok (.ifCond .ne 21, 3) := by decide +kernel
theorem dX4_read_45 : decode cX4_read 45 = .ok (.aload_n 0, 1) := by decide +kernel
theorem dX4_read_46 : decode cX4_read 46 = .ok (.getfield 12, 3) := by decide +kernel
theorem dX4_read_49 : decode cX4_read 49 = .ok (.aload_n 0, 1) := by decide +kernel
theorem dX4_read_50 : decode cX4_read 50 = .ok (.getfield 18, 3) := by decide +kernel
theorem dX4_read_53 : decode cX4_read 53 = .ok (.invokevirtual 34, 3) := by decide +kernel
theorem dX4_read_56 : decode cX4_read 56 = .ok (.bipush 17, 2) := by decide +kernel
theorem dX4_read_58 : decode cX4_read 58 = .ok (.if_icmp .ne 5, 3) := by decide +kernel
theorem dX4_read_61 : decode cX4_read 61 = .ok (.iload_n 3, 1) := by decide +kernel
theorem dX4_read_62 : decode cX4_read 62 = .ok (.ireturn, 1) := by decide +kernel
theorem dX4_read_63 : decode cX4_read 63 = .ok (.aload_n 0, 1) := by decide +kernel
theorem dX4_read_64 : decode cX4_read 64 = .ok (.bipush 15, 2) := by decide +kernel
theorem dX4_read_66 : decode cX4_read 66 = .ok (.invokevirtual 38, 3) := by decide +kernel
theorem dX4_read_69 : decode cX4_read 69 = .ok (.ifCond .ne 8, 3) := by decide +kernel
theorem dX4_read_72 : decode cX4_read 72 = .ok (.aload_n 0, 1) := by decide +kernel
theorem dX4_read_73 : decode cX4_read 73 = .ok (.iconst 1, 1) := by decide +kernel
theorem dX4_read_74 : decode cX4_read 74 = .ok (.putfield 22, 3) := by decide +kernel
theorem dX4_read_77 : decode cX4_read 77 = .ok (.iinc 3 1, 3) := by decide +kernel
theorem dX4_read_80 : decode cX4_read 80 = .ok (.goto (-60), 3) := by decide +kernel
theorem dX4_read_83 : decode cX4_read 83 = .ok (.iconst (-1), 1) := by decide +kernel
theorem dX4_read_84 : decode cX4_read 84 = .ok (.aload_n 0, 1) := by decide +kernel
theorem dX4_read_85 : decode cX4_read 85 = .ok (.getfield 12, 3) := by decide +kernel
theorem dX4_read_88 : decode cX4_read 88 = .ok (.aload_n 0, 1) := by decide +kernel
theorem dX4_read_89 : decode cX4_read 89 = .ok (.getfield 18, 3) := by decide +kernel
theorem dX4_read_92 : decode cX4_read 92 = .ok (.invokevirtual 42, 3) := by decide +kernel
theorem dX4_read_95 : decode cX4_read 95 = .ok (.isub, 1) := by decide +kernel
theorem dX4_read_96 : decode cX4_read 96 = .ok (.ireturn, 1) := by decide +kernel
theorem dX4_takeItem_0 : decode cX4_takeItem 0 = .ok (.aload_n 0, 1) := by decide +kernel
theorem dX4_takeItem_1 : decode cX4_takeItem 1 = .ok (.bipush 11, 2) := by decide +kernel
theorem dX4_takeItem_3 : decode cX4_takeItem 3 = .ok (.invokevirtual 38, 3) := by decide +kernel
theorem dX4_takeItem_6 : decode cX4_takeItem 6 = .ok (.ifCond .eq 11, 3) := by decide +kernel
theorem dX4_takeItem_9 : decode cX4_takeItem 9 = .ok (.aload_n 0, 1) := by decide +kernel
theorem dX4_takeItem_10 : decode cX4_takeItem 10 = .ok (.aload_n 1, 1) := by decide +kernel
theorem dX4_takeItem_11 : decode cX4_takeItem 11 = .ok (.invokevirtual 45, 3) := by decide +kernel
theorem dX4_takeItem_14 : decode cX4_takeItem 14 = .ok (.goto 25, 3) := by decide +kernel
theorem dX4_takeItem_17 : decode cX4_takeItem 17 = .ok (.aload_n 0, 1) := by decide +kernel
theorem dX4_takeItem_18 : decode cX4_takeItem 18 = .ok (.bipush 12, 2) := by decide +kernel
theorem dX4_takeItem_20 : decode cX4_takeItem 20 = .ok (.invokevirtual 38, 3) := by decide +kernel
theorem dX4_takeItem_23 : decode cX4_takeItem 23 = .ok (.ifCond .eq 11, 3) := by decide +kernel
theorem dX4_takeItem_26 : decode cX4_takeItem 26 = .ok (.aload_n 0, 1) := by decide +kernel
theorem dX4_takeItem_27 : decode cX4_takeItem 27 = .ok (.aload_n 1, 1) := by decide +kernel
theorem dX4_takeItem_28 : decode cX4_takeItem 28 = .ok (.invokevirtual 48, 3) := by decide +kernel
theorem dX4_takeItem_31 : decode cX4_takeItem 31 = .ok (.goto 8, 3) := by decide +kernel
theorem dX4_takeItem_34 : decode cX4_takeItem 34 = .ok (.aload_n 0, 1) := by decide +kernel
theorem dX4_takeItem_35 : decode cX4_takeItem 35 = .ok (.aload_n 1, 1) := by decide +kernel
theorem dX4_takeItem_36 : decode cX4_takeItem 36 = .ok (.invokevirtual 51, 3) := by decide +kernel
theorem dX4_takeItem_39 : decode cX4_takeItem 39 = .ok (.return_, 1) := by decide +kernel
theorem dX4_takeSaying_0 : decode cX4_takeSaying 0 = .ok (.aload_n 0, 1) := by decide +kernel
theorem dX4_takeSaying_1 : decode cX4_takeSaying 1 = .ok (.iconst 5, 1) := by decide +kernel
theorem dX4_takeSaying_2 : decode cX4_takeSaying 2 = .ok (.invokevirtual 54, 3) := by decide +kernel
theorem dX4_takeSaying_5 : decode cX4_takeSaying 5 = .ok (.istore_n 2, 1) := by decide +kernel
theorem dX4_takeSaying_6 : decode cX4_takeSaying 6 = .ok (.aload_n 0, 1) := by decide +kernel
theorem dX4_takeSaying_7 : decode cX4_takeSaying 7 = .ok (.iconst 5, 1) := by decide +kernel
theorem dX4_takeSaying_8 : decode cX4_takeSaying 8 = .ok (.invokevirtual 54, 3) := by decide +kernel
theorem dX4_takeSaying_11 : decode cX4_takeSaying 11 = .ok (.istore_n 3, 1) := by decide +kernel
theorem dX4_takeSaying_12 : decode cX4_takeSaying 12 = .ok (.aload_n 0, 1) := by decide +kernel
theorem dX4_takeSaying_13 : decode cX4_takeSaying 13 = .ok (.bipush 15, 2) := by decide +kernel
theorem dX4_takeSaying_15 : decode cX4_takeSaying 15 = .ok (.invokevirtual 54, 3) := by decide +kernel
theorem dX4_takeSaying_18 : decode cX4_takeSaying 18 = .ok (.istore 4, 2) := by decide +kernel
theorem dX4_takeSaying_20 : decode cX4_takeSaying 20 = .ok (.aload_n 0, 1) := by decide +kernel
theorem dX4_takeSaying_21 : decode cX4_takeSaying 21 = .ok (.bipush 9, 2) := by decide +kernel
theorem dX4_takeSaying_23 : decode cX4_takeSaying 23 = .ok (.invokevirtual 54, 3) := by decide +kernel
theorem dX4_takeSaying_26 : decode cX4_takeSaying 26 = .ok (.istore 5, 2) := by decide +kernel
theorem dX4_takeSaying_28 : decode cX4_takeSaying 28 = .ok (.aload_n 0, 1) := by decide +kernel
theorem dX4_takeSaying_29 : decode cX4_takeSaying 29 = .ok (.getfield 22, 3) := by decide +kernel
theorem dX4_takeSaying_32 : decode cX4_takeSaying 32 = .ok (.ifCond .ne 17, 3) := by decide +kernel
theorem dX4_takeSaying_35 : decode cX4_takeSaying 35 = .ok (.aload_n 1, 1) := by decide +kernel
theorem dX4_takeSaying_36 : decode cX4_takeSaying 36 = .ok (.getfield 57, 3) := by decide +kernel
theorem dX4_takeSaying_39 : decode cX4_takeSaying 39 = .ok (.iload_n 2, 1) := by decide +kernel
theorem dX4_takeSaying_40 : decode cX4_takeSaying 40 = .ok (.iload_n 3, 1) := by decide +kernel
theorem dX4_takeSaying_41 : decode cX4_takeSaying 41 = .ok (.iload 4, 2) := by decide +kernel
theorem dX4_takeSaying_43 : decode cX4_takeSaying 43 = .ok (.iload 5, 2) := by decide +kernel
theorem dX4_takeSaying_45 : decode cX4_takeSaying 45 = .ok (.invokestatic 63, 3) := by decide +kernel
theorem dX4_takeSaying_48 : decode cX4_takeSaying 48 = .ok (.iastore, 1) := by decide +kernel
theorem dX4_takeSaying_49 : decode cX4_takeSaying 49 = .ok (.return_, 1) := by decide +kernel
theorem dX4_takeHand_0 : decode cX4_takeHand 0 = .ok (.aload_n 0, 1) := by decide +kernel
theorem dX4_takeHand_1 : decode cX4_takeHand 1 = .ok (.aload_n 1, 1) := by decide +kernel
theorem dX4_takeHand_2 : decode cX4_takeHand 2 = .ok (.getfield 67, 3) := by decide +kernel
theorem dX4_takeHand_5 : decode cX4_takeHand 5 = .ok (.iconst 1, 1) := by decide +kernel
theorem dX4_takeHand_6 : decode cX4_takeHand 6 = .ok (.isub, 1) := by decide +kernel
theorem dX4_takeHand_7 : decode cX4_takeHand 7 = .ok (.invokevirtual 54, 3) := by decide +kernel
theorem dX4_takeHand_10 : decode cX4_takeHand 10 = .ok (.istore_n 2, 1) := by decide +kernel
theorem dX4_takeHand_11 : decode cX4_takeHand 11 = .ok (.aload_n 0, 1) := by decide +kernel
theorem dX4_takeHand_12 : decode cX4_takeHand 12 = .ok (.ldc 70, 2) := by decide +kernel
theorem dX4_takeHand_14 : decode cX4_takeHand 14 = .ok (.invokevirtual 54, 3) := by decide +kernel
theorem dX4_takeHand_17 : decode cX4_takeHand 17 = .ok (.istore_n 3, 1) := by decide +kernel
theorem dX4_takeHand_18 : decode cX4_takeHand 18 = .ok (.aload_n 0, 1) := by decide +kernel
theorem dX4_takeHand_19 : decode cX4_takeHand 19 = .ok (.getfield 22, 3) := by decide +kernel
theorem dX4_takeHand_22 : decode cX4_takeHand 22 = .ok (.ifCond .ne 13, 3) := by decide +kernel
theorem dX4_takeHand_25 : decode cX4_takeHand 25 = .ok (.aload_n 1, 1) := by decide +kernel
theorem dX4_takeHand_26 : decode cX4_takeHand 26 = .ok (.getfield 71, 3) := by decide +kernel
theorem dX4_takeHand_29 : decode cX4_takeHand 29 = .ok (.iload_n 2, 1) := by decide +kernel
theorem dX4_takeHand_30 : decode cX4_takeHand 30 = .ok (.aaload, 1) := by decide +kernel
theorem dX4_takeHand_31 : decode cX4_takeHand 31 = .ok (.iload_n 3, 1) := by decide +kernel
theorem dX4_takeHand_32 : decode cX4_takeHand 32 = .ok (.putfield 75, 3) := by decide +kernel
theorem dX4_takeHand_35 : decode cX4_takeHand 35 = .ok (.return_, 1) := by decide +kernel
theorem dX4_takeGlove_0 : decode cX4_takeGlove 0 = .ok (.aload_n 0, 1) := by decide +kernel
theorem dX4_takeGlove_1 : decode cX4_takeGlove 1 = .ok (.getfield 12, 3) := by decide +kernel
theorem dX4_takeGlove_4 : decode cX4_takeGlove 4 = .ok (.aload_n 0, 1) := by decide +kernel
theorem dX4_takeGlove_5 : decode cX4_takeGlove 5 = .ok (.getfield 18, 3) := by decide +kernel
theorem dX4_takeGlove_8 : decode cX4_takeGlove 8 = .ok (.invokevirtual 34, 3) := by decide +kernel
theorem dX4_takeGlove_11 : decode cX4_takeGlove 11 = .ok (.istore_n 2, 1) := by decide +kernel
theorem dX4_takeGlove_12 : decode cX4_takeGlove 12 = .ok (.iload_n 2, 1) := by decide +kernel
theorem dX4_takeGlove_13 : decode cX4_takeGlove 13 = .ok (.bipush 6, 2) := by decide +kernel
theorem dX4_takeGlove_15 : decode cX4_takeGlove 15 = .ok (.invokestatic 80, 3) := by decide +kernel
theorem dX4_takeGlove_18 : decode cX4_takeGlove 18 = .ok (.ifCond .eq 12, 3) := by decide +kernel
theorem dX4_takeGlove_21 : decode cX4_takeGlove 21 = .ok (.aload_n 1, 1) := by decide +kernel
theorem dX4_takeGlove_22 : decode cX4_takeGlove 22 = .ok (.getfield 67, 3) := by decide +kernel
theorem dX4_takeGlove_25 : decode cX4_takeGlove 25 = .ok (.bipush 8, 2) := by decide +kernel
theorem dX4_takeGlove_27 : decode cX4_takeGlove 27 = .ok (.if_icmp .lt 9, 3) := by decide +kernel
theorem dX4_takeGlove_30 : decode cX4_takeGlove 30 = .ok (.aload_n 0, 1) := by decide +kernel
theorem dX4_takeGlove_31 : decode cX4_takeGlove 31 = .ok (.iconst 1, 1) := by decide +kernel
theorem dX4_takeGlove_32 : decode cX4_takeGlove 32 = .ok (.putfield 22, 3) := by decide +kernel
theorem dX4_takeGlove_35 : decode cX4_takeGlove 35 = .ok (.return_, 1) := by decide +kernel
theorem dX4_takeGlove_36 : decode cX4_takeGlove 36 = .ok (.aload_n 0, 1) := by decide +kernel
theorem dX4_takeGlove_37 : decode cX4_takeGlove 37 = .ok (.dup, 1) := by decide +kernel
theorem dX4_takeGlove_38 : decode cX4_takeGlove 38 = .ok (.getfield 18, 3) := by decide +kernel
theorem dX4_takeGlove_41 : decode cX4_takeGlove 41 = .ok (.iconst 1, 1) := by decide +kernel
theorem dX4_takeGlove_42 : decode cX4_takeGlove 42 = .ok (.iadd, 1) := by decide +kernel
theorem dX4_takeGlove_43 : decode cX4_takeGlove 43 = .ok (.putfield 18, 3) := by decide +kernel
theorem dX4_takeGlove_46 : decode cX4_takeGlove 46 = .ok (.aload_n 1, 1) := by decide +kernel
theorem dX4_takeGlove_47 : decode cX4_takeGlove 47 = .ok (.getfield 71, 3) := by decide +kernel
theorem dX4_takeGlove_50 : decode cX4_takeGlove 50 = .ok (.aload_n 1, 1) := by decide +kernel
theorem dX4_takeGlove_51 : decode cX4_takeGlove 51 = .ok (.iload_n 2, 1) := by decide +kernel
theorem dX4_takeGlove_52 : decode cX4_takeGlove 52 = .ok (.iconst 0, 1) := by decide +kernel
theorem dX4_takeGlove_53 : decode cX4_takeGlove 53 = .ok (.invokevirtual 84, 3) := by decide +kernel
theorem dX4_takeGlove_56 : decode cX4_takeGlove 56 = .ok (.aaload, 1) := by decide +kernel
theorem dX4_takeGlove_57 : decode cX4_takeGlove 57 = .ok (.astore_n 3, 1) := by decide +kernel
theorem dX4_takeGlove_58 : decode cX4_takeGlove 58 = .ok (.aload_n 0, 1) := by decide +kernel
theorem dX4_takeGlove_59 : decode cX4_takeGlove 59 = .ok (.bipush 7, 2) := by decide +kernel
theorem dX4_takeGlove_61 : decode cX4_takeGlove 61 = .ok (.aload_n 3, 1) := by decide +kernel
theorem dX4_takeGlove_62 : decode cX4_takeGlove 62 = .ok (.iconst 1, 1) := by decide +kernel
theorem dX4_takeGlove_63 : decode cX4_takeGlove 63 = .ok (.invokevirtual 88, 3) := by decide +kernel
theorem dX4_takeGlove_66 : decode cX4_takeGlove 66 = .ok (.aload_n 0, 1) := by decide +kernel
theorem dX4_takeGlove_67 : decode cX4_takeGlove 67 = .ok (.bipush 8, 2) := by decide +kernel
theorem dX4_takeGlove_69 : decode cX4_takeGlove 69 = .ok (.aload_n 3, 1) := by decide +kernel
theorem dX4_takeGlove_70 : decode cX4_takeGlove 70 = .ok (.iconst 2, 1) := by decide +kernel
theorem dX4_takeGlove_71 : decode cX4_takeGlove 71 = .ok (.invokevirtual 88, 3) := by decide +kernel
theorem dX4_takeGlove_74 : decode cX4_takeGlove 74 = .ok (.aload_n 0, 1) := by decide +kernel
theorem dX4_takeGlove_75 : decode cX4_takeGlove 75 = .ok (.bipush 9, 2) := by decide +kernel
theorem dX4_takeGlove_77 : decode cX4_takeGlove 77 = .ok (.aload_n 3, 1) := by decide +kernel
theorem dX4_takeGlove_78 : decode cX4_takeGlove 78 = .ok (.iconst 3, 1) := by decide +kernel
theorem dX4_takeGlove_79 : decode cX4_takeGlove 79 = .ok (.invokevirtual 88, 3) := by decide +kernel
theorem dX4_takeGlove_82 : decode cX4_takeGlove 82 = .ok (.aload_n 0, 1) := by decide +kernel
theorem dX4_takeGlove_83 : decode cX4_takeGlove 83 = .ok (.bipush 10, 2) := by decide +kernel
theorem dX4_takeGlove_85 : decode cX4_takeGlove 85 = .ok (.aload_n 3, 1) := by decide +kernel
theorem dX4_takeGlove_86 : decode cX4_takeGlove 86 = .ok (.iconst 4, 1) := by decide +kernel
theorem dX4_takeGlove_87 : decode cX4_takeGlove 87 = .ok (.invokevirtual 88, 3) := by decide +kernel
theorem dX4_takeGlove_90 : decode cX4_takeGlove 90 = .ok (.return_, 1) := by decide +kernel
theorem dX4_takeTrait_0 : decode cX4_takeTrait 0 = .ok (.aload_n 0, 1) := by decide +kernel
theorem dX4_takeTrait_1 : decode cX4_takeTrait 1 = .ok (.iload_n 1, 1) := by decide +kernel
theorem dX4_takeTrait_2 : decode cX4_takeTrait 2 = .ok (.invokevirtual 38, 3) := by decide +kernel
theorem dX4_takeTrait_5 : decode cX4_takeTrait 5 = .ok (.ifCond .eq 16, 3) := by decide +kernel
theorem dX4_takeTrait_8 : decode cX4_takeTrait 8 = .ok (.aload_n 2, 1) := by decide +kernel
theorem dX4_takeTrait_9 : decode cX4_takeTrait 9 = .ok (.iload_n 3, 1) := by decide +kernel
theorem dX4_takeTrait_10 : decode cX4_takeTrait 10 = .ok (.aload_n 0, 1) := by decide +kernel
theorem dX4_takeTrait_11 : decode cX4_takeTrait 11 = .ok (.iload_n 3, 1) := by decide +kernel
theorem dX4_takeTrait_12 : decode cX4_takeTrait 12 = .ok (.invokestatic 92, 3) := by decide +kernel
theorem dX4_takeTrait_15 : decode cX4_takeTrait 15 = .ok (.invokevirtual 54, 3) := by decide +kernel
theorem dX4_takeTrait_18 : decode cX4_takeTrait 18 = .ok (.invokevirtual 95, 3) := by decide +kernel
theorem dX4_takeTrait_21 : decode cX4_takeTrait 21 = .ok (.return_, 1) := by decide +kernel
theorem dX4_takeNumber_0 : decode cX4_takeNumber 0 = .ok (.aload_n 0, 1) := by decide +kernel
theorem dX4_takeNumber_1 : decode cX4_takeNumber 1 = .ok (.getfield 12, 3) := by decide +kernel
theorem dX4_takeNumber_4 : decode cX4_takeNumber 4 = .ok (.aload_n 0, 1) := by decide +kernel
theorem dX4_takeNumber_5 : decode cX4_takeNumber 5 = .ok (.getfield 18, 3) := by decide +kernel
theorem dX4_takeNumber_8 : decode cX4_takeNumber 8 = .ok (.invokevirtual 99, 3) := by decide +kernel
theorem dX4_takeNumber_11 : decode cX4_takeNumber 11 = .ok (.istore_n 2, 1) := by decide +kernel
theorem dX4_takeNumber_12 : decode cX4_takeNumber 12 = .ok (.aload_n 0, 1) := by decide +kernel
theorem dX4_takeNumber_13 : decode cX4_takeNumber 13 = .ok (.getfield 22, 3) := by decide +kernel
theorem dX4_takeNumber_16 : decode cX4_takeNumber 16 = .ok (.ifCond .ne 24, 3) := by decide +kernel
theorem dX4_takeNumber_19 : decode cX4_takeNumber 19 = .ok (.aload_n 0, 1) := by decide +kernel
theorem dX4_takeNumber_20 : decode cX4_takeNumber 20 = .ok (.getfield 12, 3) := by decide +kernel
theorem dX4_takeNumber_23 : decode cX4_takeNumber 23 = .ok (.aload_n 0, 1) := by decide +kernel
theorem dX4_takeNumber_24 : decode cX4_takeNumber 24 = .ok (.getfield 18, 3) := by decide +kernel
theorem dX4_takeNumber_27 : decode cX4_takeNumber 27 = .ok (.invokevirtual 34, 3) := by decide +kernel
theorem dX4_takeNumber_30 : decode cX4_takeNumber 30 = .ok (.bipush 14, 2) := by decide +kernel
theorem dX4_takeNumber_32 : decode cX4_takeNumber 32 = .ok (.if_icmp .ne 8, 3) := by decide +kernel
theorem dX4_takeNumber_35 : decode cX4_takeNumber 35 = .ok (.iload_n 2, 1) := by decide +kernel
theorem dX4_takeNumber_36 : decode cX4_takeNumber 36 = .ok (.iload_n 1, 1) := by decide +kernel
theorem dX4_takeNumber_37 : decode cX4_takeNumber 37 = .ok (.if_icmp .le 10, 3) := by decide +kernel
theorem dX4_takeNumber_40 : decode cX4_takeNumber 40 = .ok (.aload_n 0, 1) := by decide +kernel
theorem dX4_takeNumber_41 : decode cX4_takeNumber 41 = .ok (.iconst 1, 1) := by decide +kernel
theorem dX4_takeNumber_42 : decode cX4_takeNumber 42 = .ok (.putfield 22, 3) := by decide +kernel
theorem dX4_takeNumber_45 : decode cX4_takeNumber 45 = .ok (.iconst 0, 1) := by decide +kernel
theorem dX4_takeNumber_46 : decode cX4_takeNumber 46 = .ok (.ireturn, 1) := by decide +kernel
theorem dX4_takeNumber_47 : decode cX4_takeNumber 47 = .ok (.aload_n 0, 1) := by decide +kernel
theorem dX4_takeNumber_48 : decode cX4_takeNumber 48 = .ok (.dup, 1) := by decide +kernel
theorem dX4_takeNumber_49 : decode cX4_takeNumber 49 = .ok (.getfield 18, 3) := by decide +kernel
theorem dX4_takeNumber_52 : decode cX4_takeNumber 52 = .ok (.iconst 1, 1) := by decide +kernel
theorem dX4_takeNumber_53 : decode cX4_takeNumber 53 = .ok (.iadd, 1) := by decide +kernel
theorem dX4_takeNumber_54 : decode cX4_takeNumber 54 = .ok (.putfield 18, 3) := by decide +kernel
theorem dX4_takeNumber_57 : decode cX4_takeNumber 57 = .ok (.iload_n 2, 1) := by decide +kernel
theorem dX4_takeNumber_58 : decode cX4_takeNumber 58 = .ok (.ireturn, 1) := by decide +kernel
theorem dX4_takes_0 : decode cX4_takes 0 = .ok (.aload_n 0, 1) := by decide +kernel
theorem dX4_takes_1 : decode cX4_takes 1 = .ok (.getfield 22, 3) := by decide +kernel
theorem dX4_takes_4 : decode cX4_takes 4 = .ok (.ifCond .ne 18, 3) := by decide +kernel
theorem dX4_takes_7 : decode cX4_takes 7 = .ok (.aload_n 0, 1) := by decide +kernel
theorem dX4_takes_8 : decode cX4_takes 8 = .ok (.getfield 12, 3) := by decide +kernel
theorem dX4_takes_11 : decode cX4_takes 11 = .ok (.aload_n 0, 1) := by decide +kernel
theorem dX4_takes_12 : decode cX4_takes 12 = .ok (.getfield 18, 3) := by decide +kernel
theorem dX4_takes_15 : decode cX4_takes 15 = .ok (.invokevirtual 34, 3) := by decide +kernel
theorem dX4_takes_18 : decode cX4_takes 18 = .ok (.iload_n 1, 1) := by decide +kernel
theorem dX4_takes_19 : decode cX4_takes 19 = .ok (.if_icmp .eq 5, 3) := by decide +kernel
theorem dX4_takes_22 : decode cX4_takes 22 = .ok (.iconst 0, 1) := by decide +kernel
theorem dX4_takes_23 : decode cX4_takes 23 = .ok (.ireturn, 1) := by decide +kernel
theorem dX4_takes_24 : decode cX4_takes 24 = .ok (.aload_n 0, 1) := by decide +kernel
theorem dX4_takes_25 : decode cX4_takes 25 = .ok (.dup, 1) := by decide +kernel
theorem dX4_takes_26 : decode cX4_takes 26 = .ok (.getfield 18, 3) := by decide +kernel
theorem dX4_takes_29 : decode cX4_takes 29 = .ok (.iconst 1, 1) := by decide +kernel
theorem dX4_takes_30 : decode cX4_takes 30 = .ok (.iadd, 1) := by decide +kernel
theorem dX4_takes_31 : decode cX4_takes 31 = .ok (.putfield 18, 3) := by decide +kernel
theorem dX4_takes_34 : decode cX4_takes 34 = .ok (.iconst 1, 1) := by decide +kernel
theorem dX4_takes_35 : decode cX4_takes 35 = .ok (.ireturn, 1) := by decide +kernel
theorem dX5_init_0 : decode cX5_init 0 = .ok (.aload_n 0, 1) := by decide +kernel
theorem dX5_init_1 : decode cX5_init 1 = .ok (.invokespecial 3, 3) := by decide +kernel
theorem dX5_init_4 : decode cX5_init 4 = .ok (.aload_n 0, 1) := by decide +kernel
theorem dX5_init_5 : decode cX5_init 5 = .ok (.bipush 121, 2) := by decide +kernel
theorem dX5_init_7 : decode cX5_init 7 = .ok (.newarray .int, 2) := by decide +kernel
theorem dX5_init_9 : decode cX5_init 9 = .ok (.putfield 11, 3) := by decide +kernel
theorem dX5_init_12 : decode cX5_init 12 = .ok (.aload_n 0, 1) := by decide +kernel
theorem dX5_init_13 : decode cX5_init 13 = .ok (.bipush 121, 2) := by decide +kernel
theorem dX5_init_15 : decode cX5_init 15 = .ok (.newarray .int, 2) := by decide +kernel
theorem dX5_init_17 : decode cX5_init 17 = .ok (.putfield 15, 3) := by decide +kernel
theorem dX5_init_20 : decode cX5_init 20 = .ok (.aload_n 0, 1) := by decide +kernel
theorem dX5_init_21 : decode cX5_init 21 = .ok (.bipush 121, 2) := by decide +kernel
theorem dX5_init_23 : decode cX5_init 23 = .ok (.newarray .int, 2) := by decide +kernel
theorem dX5_init_25 : decode cX5_init 25 = .ok (.putfield 18, 3) := by decide +kernel
theorem dX5_init_28 : decode cX5_init 28 = .ok (.aload_n 0, 1) := by decide +kernel
theorem dX5_init_29 : decode cX5_init 29 = .ok (.bipush 121, 2) := by decide +kernel
theorem dX5_init_31 : decode cX5_init 31 = .ok (.newarray .int, 2) := by decide +kernel
theorem dX5_init_33 : decode cX5_init 33 = .ok (.putfield 21, 3) := by decide +kernel
theorem dX5_init_36 : decode cX5_init 36 = .ok (.aload_n 0, 1) := by decide +kernel
theorem dX5_init_37 : decode cX5_init 37 = .ok (.iconst 0, 1) := by decide +kernel
theorem dX5_init_38 : decode cX5_init 38 = .ok (.putfield 24, 3) := by decide +kernel
theorem dX5_init_41 : decode cX5_init 41 = .ok (.return_, 1) := by decide +kernel
theorem dX5_sortAt_0 : decode cX5_sortAt 0 = .ok (.iload_n 1, 1) := by decide +kernel
theorem dX5_sortAt_1 : decode cX5_sortAt 1 = .ok (.ifCond .lt 20, 3) := by decide +kernel
theorem dX5_sortAt_4 : decode cX5_sortAt 4 = .ok (.iload_n 1, 1) := by decide +kernel
theorem dX5_sortAt_5 : decode cX5_sortAt 5 = .ok (.aload_n 0, 1) := by decide +kernel
theorem dX5_sortAt_6 : decode cX5_sortAt 6 = .ok (.getfield 24, 3) := by decide +kernel
theorem dX5_sortAt_9 : decode cX5_sortAt 9 = .ok (.if_icmp .ge 12, 3) := by decide +kernel
theorem dX5_sortAt_12 : decode cX5_sortAt 12 = .ok (.aload_n 0, 1) := by decide +kernel
theorem dX5_sortAt_13 : decode cX5_sortAt 13 = .ok (.getfield 11, 3) := by decide +kernel
theorem dX5_sortAt_16 : decode cX5_sortAt 16 = .ok (.iload_n 1, 1) := by decide +kernel
theorem dX5_sortAt_17 : decode cX5_sortAt 17 = .ok (.iaload, 1) := by decide +kernel
theorem dX5_sortAt_18 : decode cX5_sortAt 18 = .ok (.goto 5, 3) := by decide +kernel
theorem dX5_sortAt_21 : decode cX5_sortAt 21 = .ok (.bipush 17, 2) := by decide +kernel
theorem dX5_sortAt_23 : decode cX5_sortAt 23 = .ok (.ireturn, 1) := by decide +kernel
theorem dX5_startAt_0 : decode cX5_startAt 0 = .ok (.iload_n 1, 1) := by decide +kernel
theorem dX5_startAt_1 : decode cX5_startAt 1 = .ok (.ifCond .lt 20, 3) := by decide +kernel
theorem dX5_startAt_4 : decode cX5_startAt 4 = .ok (.iload_n 1, 1) := by decide +kernel
theorem dX5_startAt_5 : decode cX5_startAt 5 = .ok (.aload_n 0, 1) := by decide +kernel
theorem dX5_startAt_6 : decode cX5_startAt 6 = .ok (.getfield 24, 3) := by decide +kernel
theorem dX5_startAt_9 : decode cX5_startAt 9 = .ok (.if_icmp .ge 12, 3) := by decide +kernel
theorem dX5_startAt_12 : decode cX5_startAt 12 = .ok (.aload_n 0, 1) := by decide +kernel
theorem dX5_startAt_13 : decode cX5_startAt 13 = .ok (.getfield 15, 3) := by decide +kernel
theorem dX5_startAt_16 : decode cX5_startAt 16 = .ok (.iload_n 1, 1) := by decide +kernel
theorem dX5_startAt_17 : decode cX5_startAt 17 = .ok (.iaload, 1) := by decide +kernel
theorem dX5_startAt_18 : decode cX5_startAt 18 = .ok (.goto 4, 3) := by decide +kernel
theorem dX5_startAt_21 : decode cX5_startAt 21 = .ok (.iconst 0, 1) := by decide +kernel
theorem dX5_startAt_22 : decode cX5_startAt 22 = .ok (.ireturn, 1) := by decide +kernel
theorem dX5_numberAt_0 : decode cX5_numberAt 0 = .ok (.iload_n 1, 1) := by decide +kernel
theorem dX5_numberAt_1 : decode cX5_numberAt 1 = .ok (.ifCond .lt 20, 3) := by decide +kernel
theorem dX5_numberAt_4 : decode cX5_numberAt 4 = .ok (.iload_n 1, 1) := by decide +kernel
theorem dX5_numberAt_5 : decode cX5_numberAt 5 = .ok (.aload_n 0, 1) := by decide +kernel
theorem dX5_numberAt_6 : decode cX5_numberAt 6 = .ok (.getfield 24, 3) := by decide +kernel
theorem dX5_numberAt_9 : decode cX5_numberAt 9 = .ok (.if_icmp .ge 12, 3) := by decide +kernel
theorem dX5_numberAt_12 : decode cX5_numberAt 12 = .ok (.aload_n 0, 1) := by decide +kernel
theorem dX5_numberAt_13 : decode cX5_numberAt 13 = .ok (.getfield 21, 3) := by decide +kernel
theorem dX5_numberAt_16 : decode cX5_numberAt 16 = .ok (.iload_n 1, 1) := by decide +kernel
theorem dX5_numberAt_17 : decode cX5_numberAt 17 = .ok (.iaload, 1) := by decide +kernel
theorem dX5_numberAt_18 : decode cX5_numberAt 18 = .ok (.goto 4, 3) := by decide +kernel
theorem dX5_numberAt_21 : decode cX5_numberAt 21 = .ok (.iconst 0, 1) := by decide +kernel
theorem dX5_numberAt_22 : decode cX5_numberAt 22 = .ok (.ireturn, 1) := by decide +kernel
theorem dX5_readFrom_0 : decode cX5_readFrom 0 = .ok (.aload_n 0, 1) := by decide +kernel
theorem dX5_readFrom_1 : decode cX5_readFrom 1 = .ok (.iconst 0, 1) := by decide +kernel
theorem dX5_readFrom_2 : decode cX5_readFrom 2 = .ok (.putfield 24, 3) := by decide +kernel
theorem dX5_readFrom_5 : decode cX5_readFrom 5 = .ok (.bipush 18, 2) := by decide +kernel
theorem dX5_readFrom_7 : decode cX5_readFrom 7 = .ok (.istore_n 2, 1) := by decide +kernel
theorem dX5_readFrom_8 : decode cX5_readFrom 8 = .ok (.iconst 0, 1) := by decide +kernel
theorem dX5_readFrom_9 : decode cX5_readFrom 9 = .ok (.istore_n 3, 1) := by decide +kernel
theorem dX5_readFrom_10 : decode cX5_readFrom 10 = .ok (.iload_n 3, 1) := by decide +kernel
theorem dX5_readFrom_11 : decode cX5_readFrom 11 = .ok (.aload_n 1, 1) := by decide +kernel
theorem dX5_readFrom_12 : decode cX5_readFrom 12 = .ok (.getfield 28, 3) := by decide +kernel
theorem dX5_readFrom_15 : decode cX5_readFrom 15 = .ok (.if_icmp .ge 85, 3) := by decide +kernel
theorem dX5_readFrom_18 : decode cX5_readFrom 18 = .ok (.aload_n 1, 1) := by decide +kernel
theorem dX5_readFrom_19 : decode cX5_readFrom 19 = .ok (.iload_n 3, 1) := by decide +kernel
theorem dX5_readFrom_20 : decode cX5_readFrom 20 = .ok (.invokevirtual 33, 3) := by decide +kernel
theorem dX5_readFrom_23 : decode cX5_readFrom 23 = .ok (.invokestatic 37, 3) := by decide +kernel
theorem dX5_readFrom_26 : decode cX5_readFrom 26 = .ok (.istore 4, 2) := by decide +kernel
theorem dX5_readFrom_28 : decode cX5_readFrom 28 = .ok (.iload 4, 2) := by decide +kernel
theorem dX5_readFrom_30 : decode cX5_readFrom 30 = .ok (.iload_n 2, 1) := by decide +kernel
theorem dX5_readFrom_31 : decode cX5_readFrom 31 = .ok (.if_icmp .ne 21, 3) := by decide +kernel
theorem dX5_readFrom_34 : decode cX5_readFrom 34 = .ok (.iload 4, 2) := by decide +kernel
theorem dX5_readFrom_36 : decode cX5_readFrom 36 = .ok (.bipush 13, 2) := by decide +kernel
theorem dX5_readFrom_38 : decode cX5_readFrom 38 = .ok (.if_icmp .eq 10, 3) := by decide +kernel
theorem dX5_readFrom_41 : decode cX5_readFrom 41 = .ok (.iload 4, 2) := by decide +kernel
theorem dX5_readFrom_43 : decode cX5_readFrom 43 = .ok (.bipush 14, 2) := by decide +kernel
theorem dX5_readFrom_45 : decode cX5_readFrom 45 = .ok (.if_icmp .ne 7, 3) := by decide +kernel
theorem dX5_readFrom_48 : decode cX5_readFrom 48 = .ok (.iconst 1, 1) := by decide +kernel
theorem dX5_readFrom_49 : decode cX5_readFrom 49 = .ok (.goto 4, 3) := by decide +kernel
theorem dX5_readFrom_52 : decode cX5_readFrom 52 = .ok (.iconst 0, 1) := by decide +kernel
theorem dX5_readFrom_53 : decode cX5_readFrom 53 = .ok (.istore 5, 2) := by decide +kernel
theorem dX5_readFrom_55 : decode cX5_readFrom 55 = .ok (.iload 5, 2) := by decide +kernel
theorem dX5_readFrom_57 : decode cX5_readFrom 57 = .ok (.ifCond .ne 17, 3) := by decide +kernel
theorem dX5_readFrom_60 : decode cX5_readFrom 60 = .ok (.iload 4, 2) := by decide +kernel
theorem dX5_readFrom_62 : decode cX5_readFrom 62 = .ok (.bipush 18, 2) := by decide +kernel
theorem dX5_readFrom_64 : decode cX5_readFrom 64 = .ok (.if_icmp .eq 10, 3) := by decide +kernel
theorem dX5_readFrom_67 : decode cX5_readFrom 67 = .ok (.aload_n 0, 1) := by decide +kernel
theorem dX5_readFrom_68 : decode cX5_readFrom 68 = .ok (.iload 4, 2) := by decide +kernel
theorem dX5_readFrom_70 : decode cX5_readFrom 70 = .ok (.iload_n 3, 1) := by decide +kernel
theorem dX5_readFrom_71 : decode cX5_readFrom 71 = .ok (.invokevirtual 40, 3) := by decide +kernel
theorem dX5_readFrom_74 : decode cX5_readFrom 74 = .ok (.iload 4, 2) := by decide +kernel
theorem dX5_readFrom_76 : decode cX5_readFrom 76 = .ok (.bipush 18, 2) := by decide +kernel
theorem dX5_readFrom_78 : decode cX5_readFrom 78 = .ok (.if_icmp .eq 13, 3) := by decide +kernel
theorem dX5_readFrom_81 : decode cX5_readFrom 81 = .ok (.aload_n 0, 1) := by decide +kernel
theorem dX5_readFrom_82 : decode cX5_readFrom 82 = .ok (.aload_n 1, 1) := by decide +kernel
theorem dX5_readFrom_83 : decode cX5_readFrom 83 = .ok (.iload_n 3, 1) := by decide +kernel
theorem dX5_readFrom_84 : decode cX5_readFrom 84 = .ok (.invokevirtual 33, 3) := by decide +kernel
theorem dX5_readFrom_87 : decode cX5_readFrom 87 = .ok (.iload_n 3, 1) := by decide +kernel
theorem dX5_readFrom_88 : decode cX5_readFrom 88 = .ok (.invokevirtual 44, 3) := by decide +kernel
theorem dX5_readFrom_91 : decode cX5_readFrom 91 = .ok (.iload 4, 2) := by decide +kernel
theorem dX5_readFrom_93 : decode cX5_readFrom 93 = .ok (.istore_n 2, 1) := by decide +kernel
theorem dX5_readFrom_94 : decode cX5_readFrom 94 = .ok (.iinc 3 1, 3) := by decide +kernel
theorem dX5_readFrom_97 : decode cX5_readFrom 97 = .ok (.goto (-87), 3) := by decide +kernel
theorem dX5_readFrom_100 : decode cX5_readFrom 100 = .ok (.aload_n 0, 1) := by decide +kernel
theorem dX5_readFrom_101 : decode cX5_readFrom 101 = .ok (.bipush 17, 2) := by decide +kernel
theorem dX5_readFrom_103 : decode cX5_readFrom 103 = .ok (.aload_n 1, 1) := by decide +kernel
theorem dX5_readFrom_104 : decode cX5_readFrom 104 = .ok (.getfield 28, 3) := by decide +kernel
theorem dX5_readFrom_107 : decode cX5_readFrom 107 = .ok (.invokevirtual 40, 3) := by decide +kernel
theorem dX5_readFrom_110 : decode cX5_readFrom 110 = .ok (.aload_n 0, 1) := by decide +kernel
theorem dX5_readFrom_111 : decode cX5_readFrom 111 = .ok (.aload_n 1, 1) := by decide +kernel
theorem dX5_readFrom_112 : decode cX5_readFrom 112 = .ok (.invokevirtual 47, 3) := by decide +kernel
theorem dX5_readFrom_115 : decode cX5_readFrom 115 = .ok (.return_, 1) := by decide +kernel
theorem dX5_sortOf_0 : decode cX5_sortOf 0 = .ok (.iload_n 0, 1) := by decide +kernel
theorem dX5_sortOf_1 : decode cX5_sortOf 1 = .ok (.bipush 97, 2) := by decide +kernel
theorem dX5_sortOf_3 : decode cX5_sortOf 3 = .ok (.if_icmp .lt 12, 3) := by decide +kernel
theorem dX5_sortOf_6 : decode cX5_sortOf 6 = .ok (.iload_n 0, 1) := by decide +kernel
theorem dX5_sortOf_7 : decode cX5_sortOf 7 = .ok (.bipush 122, 2) := by decide +kernel
theorem dX5_sortOf_9 : decode cX5_sortOf 9 = .ok (.if_icmp .gt 6, 3) := by decide +kernel
theorem dX5_sortOf_12 : decode cX5_sortOf 12 = .ok (.bipush 13, 2) := by decide +kernel
theorem dX5_sortOf_14 : decode cX5_sortOf 14 = .ok (.ireturn, 1) := by decide +kernel
theorem dX5_sortOf_15 : decode cX5_sortOf 15 = .ok (.iload_n 0, 1) := by decide +kernel
theorem dX5_sortOf_16 : decode cX5_sortOf 16 = .ok (.bipush 48, 2) := by decide +kernel
theorem dX5_sortOf_18 : decode cX5_sortOf 18 = .ok (.if_icmp .lt 12, 3) := by decide +kernel
theorem dX5_sortOf_21 : decode cX5_sortOf 21 = .ok (.iload_n 0, 1) := by decide +kernel
theorem dX5_sortOf_22 : decode cX5_sortOf 22 = .ok (.bipush 57, 2) := by decide +kernel
theorem dX5_sortOf_24 : decode cX5_sortOf 24 = .ok (.if_icmp .gt 6, 3) := by decide +kernel
theorem dX5_sortOf_27 : decode cX5_sortOf 27 = .ok (.bipush 14, 2) := by decide +kernel
theorem dX5_sortOf_29 : decode cX5_sortOf 29 = .ok (.ireturn, 1) := by decide +kernel
theorem dX5_sortOf_30 : decode cX5_sortOf 30 = .ok (.iload_n 0, 1) := by decide +kernel
theorem dX5_sortOf_31 : decode cX5_sortOf 31 = .ok (.bipush 59, 2) := by decide +kernel
theorem dX5_sortOf_33 : decode cX5_sortOf 33 = .ok (.if_icmp .ne 6, 3) := by decide +kernel
theorem dX5_sortOf_36 : decode cX5_sortOf 36 = .ok (.bipush 15, 2) := by decide +kernel
theorem dX5_sortOf_38 : decode cX5_sortOf 38 = .ok (.ireturn, 1) := by decide +kernel
theorem dX5_sortOf_39 : decode cX5_sortOf 39 = .ok (.iload_n 0, 1) := by decide +kernel
theorem dX5_sortOf_40 : decode cX5_sortOf 40 = .ok (.bipush 32, 2) := by decide +kernel
theorem dX5_sortOf_42 : decode cX5_sortOf 42 = .ok (.if_icmp .ne 8, 3) := by decide +kernel
theorem dX5_sortOf_45 : decode cX5_sortOf 45 = .ok (.bipush 18, 2) := by decide +kernel
theorem dX5_sortOf_47 : decode cX5_sortOf 47 = .ok (.goto 5, 3) := by decide +kernel
theorem dX5_sortOf_50 : decode cX5_sortOf 50 = .ok (.bipush 16, 2) := by decide +kernel
theorem dX5_sortOf_52 : decode cX5_sortOf 52 = .ok (.ireturn, 1) := by decide +kernel
theorem dX5_begin_0 : decode cX5_begin 0 = .ok (.aload_n 0, 1) := by decide +kernel
theorem dX5_begin_1 : decode cX5_begin 1 = .ok (.getfield 24, 3) := by decide +kernel
theorem dX5_begin_4 : decode cX5_begin 4 = .ok (.bipush 121, 2) := by decide +kernel
theorem dX5_begin_6 : decode cX5_begin 6 = .ok (.if_icmp .ge 53, 3) := by decide +kernel
theorem dX5_begin_9 : decode cX5_begin 9 = .ok (.aload_n 0, 1) := by decide +kernel
theorem dX5_begin_10 : decode cX5_begin 10 = .ok (.getfield 11, 3) := by decide +kernel
theorem dX5_begin_13 : decode cX5_begin 13 = .ok (.aload_n 0, 1) := by decide +kernel
theorem dX5_begin_14 : decode cX5_begin 14 = .ok (.getfield 24, 3) := by decide +kernel
theorem dX5_begin_17 : decode cX5_begin 17 = .ok (.iload_n 1, 1) := by decide +kernel
theorem dX5_begin_18 : decode cX5_begin 18 = .ok (.iastore, 1) := by decide +kernel
theorem dX5_begin_19 : decode cX5_begin 19 = .ok (.aload_n 0, 1) := by decide +kernel
theorem dX5_begin_20 : decode cX5_begin 20 = .ok (.getfield 15, 3) := by decide +kernel
theorem dX5_begin_23 : decode cX5_begin 23 = .ok (.aload_n 0, 1) := by decide +kernel
theorem dX5_begin_24 : decode cX5_begin 24 = .ok (.getfield 24, 3) := by decide +kernel
theorem dX5_begin_27 : decode cX5_begin 27 = .ok (.iload_n 2, 1) := by decide +kernel
theorem dX5_begin_28 : decode cX5_begin 28 = .ok (.iastore, 1) := by decide +kernel
theorem dX5_begin_29 : decode cX5_begin 29 = .ok (.aload_n 0, 1) := by decide +kernel
theorem dX5_begin_30 : decode cX5_begin 30 = .ok (.getfield 18, 3) := by decide +kernel
theorem dX5_begin_33 : decode cX5_begin 33 = .ok (.aload_n 0, 1) := by decide +kernel
theorem dX5_begin_34 : decode cX5_begin 34 = .ok (.getfield 24, 3) := by decide +kernel
theorem dX5_begin_37 : decode cX5_begin 37 = .ok (.iload_n 2, 1) := by decide +kernel
theorem dX5_begin_38 : decode cX5_begin 38 = .ok (.iastore, 1) := by decide +kernel
theorem dX5_begin_39 : decode cX5_begin 39 = .ok (.aload_n 0, 1) := by decide +kernel
theorem dX5_begin_40 : decode cX5_begin 40 = .ok (.getfield 21, 3) := by decide +kernel
theorem dX5_begin_43 : decode cX5_begin 43 = .ok (.aload_n 0, 1) := by decide +kernel
theorem dX5_begin_44 : decode cX5_begin 44 = .ok (.getfield 24, 3) := by decide +kernel
theorem dX5_begin_47 : decode cX5_begin 47 = .ok (.iconst 0, 1) := by decide +kernel
theorem dX5_begin_48 : decode cX5_begin 48 = .ok (.iastore, 1) := by decide +kernel
theorem dX5_begin_49 : decode cX5_begin 49 = .ok (.aload_n 0, 1) := by decide +kernel
theorem dX5_begin_50 : decode cX5_begin 50 = .ok (.dup, 1) := by decide +kernel
theorem dX5_begin_51 : decode cX5_begin 51 = .ok (.getfield 24, 3) := by decide +kernel
theorem dX5_begin_54 : decode cX5_begin 54 = .ok (.iconst 1, 1) := by decide +kernel
theorem dX5_begin_55 : decode cX5_begin 55 = .ok (.iadd, 1) := by decide +kernel
theorem dX5_begin_56 : decode cX5_begin 56 = .ok (.putfield 24, 3) := by decide +kernel
theorem dX5_begin_59 : decode cX5_begin 59 = .ok (.return_, 1) := by decide +kernel
theorem dX5_takeUp_0 : decode cX5_takeUp 0 = .ok (.aload_n 0, 1) := by decide +kernel
theorem dX5_takeUp_1 : decode cX5_takeUp 1 = .ok (.getfield 24, 3) := by decide +kernel
theorem dX5_takeUp_4 : decode cX5_takeUp 4 = .ok (.iconst 1, 1) := by decide +kernel
theorem dX5_takeUp_5 : decode cX5_takeUp 5 = .ok (.isub, 1) := by decide +kernel
theorem dX5_takeUp_6 : decode cX5_takeUp 6 = .ok (.istore_n 3, 1) := by decide +kernel
theorem dX5_takeUp_7 : decode cX5_takeUp 7 = .ok (.iload_n 3, 1) := by decide +kernel
theorem dX5_takeUp_8 : decode cX5_takeUp 8 = .ok (.bipush 120, 2) := by decide +kernel
theorem dX5_takeUp_10 : decode cX5_takeUp 10 = .ok (.invokestatic 51, 3) := by decide +kernel
theorem dX5_takeUp_13 : decode cX5_takeUp 13 = .ok (.ifCond .ne 4, 3) := by decide +kernel
theorem dX5_takeUp_16 : decode cX5_takeUp 16 = .ok (.return_, 1) := by decide +kernel
theorem dX5_takeUp_17 : decode cX5_takeUp 17 = .ok (.aload_n 0, 1) := by decide +kernel
theorem dX5_takeUp_18 : decode cX5_takeUp 18 = .ok (.getfield 18, 3) := by decide +kernel
theorem dX5_takeUp_21 : decode cX5_takeUp 21 = .ok (.iload_n 3, 1) := by decide +kernel
theorem dX5_takeUp_22 : decode cX5_takeUp 22 = .ok (.iload_n 2, 1) := by decide +kernel
theorem dX5_takeUp_23 : decode cX5_takeUp 23 = .ok (.iconst 1, 1) := by decide +kernel
theorem dX5_takeUp_24 : decode cX5_takeUp 24 = .ok (.iadd, 1) := by decide +kernel
theorem dX5_takeUp_25 : decode cX5_takeUp 25 = .ok (.iastore, 1) := by decide +kernel
theorem dX5_takeUp_26 : decode cX5_takeUp 26 = .ok (.aload_n 0, 1) := by decide +kernel
theorem dX5_takeUp_27 : decode cX5_takeUp 27 = .ok (.getfield 11, 3) := by decide +kernel
theorem dX5_takeUp_30 : decode cX5_takeUp 30 = .ok (.iload_n 3, 1) := by decide +kernel
theorem dX5_takeUp_31 : decode cX5_takeUp 31 = .ok (.iaload, 1) := by decide +kernel
theorem dX5_takeUp_32 : decode cX5_takeUp 32 = .ok (.bipush 14, 2) := by decide +kernel
theorem dX5_takeUp_34 : decode cX5_takeUp 34 = .ok (.if_icmp .ne 28, 3) := by decide +kernel
theorem dX5_takeUp_37 : decode cX5_takeUp 37 = .ok (.aload_n 0, 1) := by decide +kernel
theorem dX5_takeUp_38 : decode cX5_takeUp 38 = .ok (.getfield 21, 3) := by decide +kernel
theorem dX5_takeUp_41 : decode cX5_takeUp 41 = .ok (.iload_n 3, 1) := by decide +kernel
theorem dX5_takeUp_42 : decode cX5_takeUp 42 = .ok (.ldc 55, 2) := by decide +kernel
theorem dX5_takeUp_44 : decode cX5_takeUp 44 = .ok (.bipush 10, 2) := by decide +kernel
theorem dX5_takeUp_46 : decode cX5_takeUp 46 = .ok (.aload_n 0, 1) := by decide +kernel
theorem dX5_takeUp_47 : decode cX5_takeUp 47 = .ok (.getfield 21, 3) := by decide +kernel
theorem dX5_takeUp_50 : decode cX5_takeUp 50 = .ok (.iload_n 3, 1) := by decide +kernel
theorem dX5_takeUp_51 : decode cX5_takeUp 51 = .ok (.iaload, 1) := by decide +kernel
theorem dX5_takeUp_52 : decode cX5_takeUp 52 = .ok (.imul, 1) := by decide +kernel
theorem dX5_takeUp_53 : decode cX5_takeUp 53 = .ok (.iload_n 1, 1) := by decide +kernel
theorem dX5_takeUp_54 : decode cX5_takeUp 54 = .ok (.iadd, 1) := by decide +kernel
theorem dX5_takeUp_55 : decode cX5_takeUp 55 = .ok (.bipush 48, 2) := by decide +kernel
theorem dX5_takeUp_57 : decode cX5_takeUp 57 = .ok (.isub, 1) := by decide +kernel
theorem dX5_takeUp_58 : decode cX5_takeUp 58 = .ok (.invokestatic 56, 3) := by decide +kernel
theorem dX5_takeUp_61 : decode cX5_takeUp 61 = .ok (.iastore, 1) := by decide +kernel
theorem dX5_takeUp_62 : decode cX5_takeUp 62 = .ok (.return_, 1) := by decide +kernel
theorem dX5_nameWords_0 : decode cX5_nameWords 0 = .ok (.iconst 0, 1) := by decide +kernel
theorem dX5_nameWords_1 : decode cX5_nameWords 1 = .ok (.istore_n 2, 1) := by decide +kernel
theorem dX5_nameWords_2 : decode cX5_nameWords 2 = .ok (.iload_n 2, 1) := by decide +kernel
theorem dX5_nameWords_3 : decode cX5_nameWords 3 = .ok (.aload_n 0, 1) := by decide +kernel
theorem dX5_nameWords_4 : decode cX5_nameWords 4 = .ok (.getfield 24, 3) := by decide +kernel
theorem dX5_nameWords_7 : decode cX5_nameWords 7 = .ok (.if_icmp .ge 64, 3) := by decide +kernel
theorem dX5_nameWords_10 : decode cX5_nameWords 10 = .ok (.iconst 0, 1) := by decide +kernel
theorem dX5_nameWords_11 : decode cX5_nameWords 11 = .ok (.istore_n 3, 1) := by decide +kernel
theorem dX5_nameWords_12 : decode cX5_nameWords 12 = .ok (.iload_n 3, 1) := by decide +kernel
theorem dX5_nameWords_13 : decode cX5_nameWords 13 = .ok (.bipush 13, 2) := by decide +kernel
theorem dX5_nameWords_15 : decode cX5_nameWords 15 = .ok (.if_icmp .ge 50, 3) := by decide +kernel
theorem dX5_nameWords_18 : decode cX5_nameWords 18 = .ok (.aload_n 0, 1) := by decide +kernel
theorem dX5_nameWords_19 : decode cX5_nameWords 19 = .ok (.getfield 11, 3) := by decide +kernel
theorem dX5_nameWords_22 : decode cX5_nameWords 22 = .ok (.iload_n 2, 1) := by decide +kernel
theorem dX5_nameWords_23 : decode cX5_nameWords 23 = .ok (.iaload, 1) := by decide +kernel
theorem dX5_nameWords_24 : decode cX5_nameWords 24 = .ok (.bipush 13, 2) := by decide +kernel
theorem dX5_nameWords_26 : decode cX5_nameWords 26 = .ok (.if_icmp .ne 39, 3) := by decide +kernel
theorem dX5_nameWords_29 : decode cX5_nameWords 29 = .ok (.aload_n 1, 1) := by decide +kernel
theorem dX5_nameWords_30 : decode cX5_nameWords 30 = .ok (.iload_n 3, 1) := by decide +kernel
theorem dX5_nameWords_31 : decode cX5_nameWords 31 = .ok (.invokestatic 62, 3) := by decide +kernel
theorem dX5_nameWords_34 : decode cX5_nameWords 34 = .ok (.aload_n 0, 1) := by decide +kernel
theorem dX5_nameWords_35 : decode cX5_nameWords 35 = .ok (.getfield 15, 3) := by decide +kernel
theorem dX5_nameWords_38 : decode cX5_nameWords 38 = .ok (.iload_n 2, 1) := by decide +kernel
theorem dX5_nameWords_39 : decode cX5_nameWords 39 = .ok (.iaload, 1) := by decide +kernel
theorem dX5_nameWords_40 : decode cX5_nameWords 40 = .ok (.aload_n 0, 1) := by decide +kernel
theorem dX5_nameWords_41 : decode cX5_nameWords 41 = .ok (.getfield 18, 3) := by decide +kernel
theorem dX5_nameWords_44 : decode cX5_nameWords 44 = .ok (.iload_n 2, 1) := by decide +kernel
theorem dX5_nameWords_45 : decode cX5_nameWords 45 = .ok (.iaload, 1) := by decide +kernel
theorem dX5_nameWords_46 : decode cX5_nameWords 46 = .ok (.invokevirtual 66, 3) := by decide +kernel
theorem dX5_nameWords_49 : decode cX5_nameWords 49 = .ok (.ifCond .eq 10, 3) := by decide +kernel
theorem dX5_nameWords_52 : decode cX5_nameWords 52 = .ok (.aload_n 0, 1) := by decide +kernel
theorem dX5_nameWords_53 : decode cX5_nameWords 53 = .ok (.getfield 11, 3) := by decide +kernel
theorem dX5_nameWords_56 : decode cX5_nameWords 56 = .ok (.iload_n 2, 1) := by decide +kernel
theorem dX5_nameWords_57 : decode cX5_nameWords 57 = .ok (.iload_n 3, 1) := by decide +kernel
theorem dX5_nameWords_58 : decode cX5_nameWords 58 = .ok (.iastore, 1) := by decide +kernel
theorem dX5_nameWords_59 : decode cX5_nameWords 59 = .ok (.iinc 3 1, 3) := by decide +kernel
theorem dX5_nameWords_62 : decode cX5_nameWords 62 = .ok (.goto (-50), 3) := by decide +kernel
theorem dX5_nameWords_65 : decode cX5_nameWords 65 = .ok (.iinc 2 1, 3) := by decide +kernel
theorem dX5_nameWords_68 : decode cX5_nameWords 68 = .ok (.goto (-66), 3) := by decide +kernel
theorem dX5_nameWords_71 : decode cX5_nameWords 71 = .ok (.return_, 1) := by decide +kernel
theorem dX5_spellingOf_0 : decode cX5_spellingOf 0 = .ok (.iload_n 0, 1) := by decide +kernel
theorem dX5_spellingOf_1 : decode cX5_spellingOf 1 = .ok (.tableswitch 99 1 12 #[63, 66, 69, 72, 75, 78, 81, 84, 87, 90, 93, 96], 63) := by decide +kernel
theorem dX5_spellingOf_64 : decode cX5_spellingOf 64 = .ok (.ldc 70, 2) := by decide +kernel
theorem dX5_spellingOf_66 : decode cX5_spellingOf 66 = .ok (.areturn, 1) := by decide +kernel
theorem dX5_spellingOf_67 : decode cX5_spellingOf 67 = .ok (.ldc 72, 2) := by decide +kernel
theorem dX5_spellingOf_69 : decode cX5_spellingOf 69 = .ok (.areturn, 1) := by decide +kernel
theorem dX5_spellingOf_70 : decode cX5_spellingOf 70 = .ok (.ldc 74, 2) := by decide +kernel
theorem dX5_spellingOf_72 : decode cX5_spellingOf 72 = .ok (.areturn, 1) := by decide +kernel
theorem dX5_spellingOf_73 : decode cX5_spellingOf 73 = .ok (.ldc 76, 2) := by decide +kernel
theorem dX5_spellingOf_75 : decode cX5_spellingOf 75 = .ok (.areturn, 1) := by decide +kernel
theorem dX5_spellingOf_76 : decode cX5_spellingOf 76 = .ok (.ldc 78, 2) := by decide +kernel
theorem dX5_spellingOf_78 : decode cX5_spellingOf 78 = .ok (.areturn, 1) := by decide +kernel
theorem dX5_spellingOf_79 : decode cX5_spellingOf 79 = .ok (.ldc 80, 2) := by decide +kernel
theorem dX5_spellingOf_81 : decode cX5_spellingOf 81 = .ok (.areturn, 1) := by decide +kernel
theorem dX5_spellingOf_82 : decode cX5_spellingOf 82 = .ok (.ldc 82, 2) := by decide +kernel
theorem dX5_spellingOf_84 : decode cX5_spellingOf 84 = .ok (.areturn, 1) := by decide +kernel
theorem dX5_spellingOf_85 : decode cX5_spellingOf 85 = .ok (.ldc 84, 2) := by decide +kernel
theorem dX5_spellingOf_87 : decode cX5_spellingOf 87 = .ok (.areturn, 1) := by decide +kernel
theorem dX5_spellingOf_88 : decode cX5_spellingOf 88 = .ok (.ldc 86, 2) := by decide +kernel
theorem dX5_spellingOf_90 : decode cX5_spellingOf 90 = .ok (.areturn, 1) := by decide +kernel
theorem dX5_spellingOf_91 : decode cX5_spellingOf 91 = .ok (.ldc 88, 2) := by decide +kernel
theorem dX5_spellingOf_93 : decode cX5_spellingOf 93 = .ok (.areturn, 1) := by decide +kernel
theorem dX5_spellingOf_94 : decode cX5_spellingOf 94 = .ok (.ldc 90, 2) := by decide +kernel
theorem dX5_spellingOf_96 : decode cX5_spellingOf 96 = .ok (.areturn, 1) := by decide +kernel
theorem dX5_spellingOf_97 : decode cX5_spellingOf 97 = .ok (.ldc 92, 2) := by decide +kernel
theorem dX5_spellingOf_99 : decode cX5_spellingOf 99 = .ok (.areturn, 1) := by decide +kernel
theorem dX5_spellingOf_100 : decode cX5_spellingOf 100 = .ok (.ldc 94, 2) := by decide +kernel
theorem dX5_spellingOf_102 : decode cX5_spellingOf 102 = .ok (.areturn, 1) := by decide +kernel
theorem dX6_init_0 : decode cX6_init 0 = .ok (.aload_n 0, 1) := by decide +kernel
theorem dX6_init_1 : decode cX6_init 1 = .ok (.invokespecial 3, 3) := by decide +kernel
theorem dX6_init_4 : decode cX6_init 4 = .ok (.aload_n 0, 1) := by decide +kernel
theorem dX6_init_5 : decode cX6_init 5 = .ok (.new 9, 3) := by decide +kernel
theorem dX6_init_8 : decode cX6_init 8 = .ok (.dup, 1) := by decide +kernel
theorem dX6_init_9 : decode cX6_init 9 = .ok (.invokespecial 11, 3) := by decide +kernel
theorem dX6_init_12 : decode cX6_init 12 = .ok (.putfield 12, 3) := by decide +kernel
theorem dX6_init_15 : decode cX6_init 15 = .ok (.aload_n 0, 1) := by decide +kernel
theorem dX6_init_16 : decode cX6_init 16 = .ok (.new 9, 3) := by decide +kernel
theorem dX6_init_19 : decode cX6_init 19 = .ok (.dup, 1) := by decide +kernel
theorem dX6_init_20 : decode cX6_init 20 = .ok (.invokespecial 11, 3) := by decide +kernel
theorem dX6_init_23 : decode cX6_init 23 = .ok (.putfield 16, 3) := by decide +kernel
theorem dX6_init_26 : decode cX6_init 26 = .ok (.aload_n 0, 1) := by decide +kernel
theorem dX6_init_27 : decode cX6_init 27 = .ok (.new 9, 3) := by decide +kernel
theorem dX6_init_30 : decode cX6_init 30 = .ok (.dup, 1) := by decide +kernel
theorem dX6_init_31 : decode cX6_init 31 = .ok (.invokespecial 11, 3) := by decide +kernel
theorem dX6_init_34 : decode cX6_init 34 = .ok (.putfield 19, 3) := by decide +kernel
theorem dX6_init_37 : decode cX6_init 37 = .ok (.aload_n 0, 1) := by decide +kernel
theorem dX6_init_38 : decode cX6_init 38 = .ok (.iconst 0, 1) := by decide +kernel
theorem dX6_init_39 : decode cX6_init 39 = .ok (.putfield 22, 3) := by decide +kernel
theorem dX6_init_42 : decode cX6_init 42 = .ok (.aload_n 0, 1) := by decide +kernel
theorem dX6_init_43 : decode cX6_init 43 = .ok (.new 26, 3) := by decide +kernel
theorem dX6_init_46 : decode cX6_init 46 = .ok (.dup, 1) := by decide +kernel
theorem dX6_init_47 : decode cX6_init 47 = .ok (.invokespecial 28, 3) := by decide +kernel
theorem dX6_init_50 : decode cX6_init 50 = .ok (.putfield 29, 3) := by decide +kernel
theorem dX6_init_53 : decode cX6_init 53 = .ok (.aload_n 0, 1) := by decide +kernel
theorem dX6_init_54 : decode cX6_init 54 = .ok (.new 33, 3) := by decide +kernel
theorem dX6_init_57 : decode cX6_init 57 = .ok (.dup, 1) := by decide +kernel
theorem dX6_init_58 : decode cX6_init 58 = .ok (.invokespecial 35, 3) := by decide +kernel
theorem dX6_init_61 : decode cX6_init 61 = .ok (.putfield 36, 3) := by decide +kernel
theorem dX6_init_64 : decode cX6_init 64 = .ok (.aload_n 0, 1) := by decide +kernel
theorem dX6_init_65 : decode cX6_init 65 = .ok (.iconst 4, 1) := by decide +kernel
theorem dX6_init_66 : decode cX6_init 66 = .ok (.anewarray 40, 3) := by decide +kernel
theorem dX6_init_69 : decode cX6_init 69 = .ok (.putfield 42, 3) := by decide +kernel
theorem dX6_init_72 : decode cX6_init 72 = .ok (.iconst 0, 1) := by decide +kernel
theorem dX6_init_73 : decode cX6_init 73 = .ok (.istore_n 1, 1) := by decide +kernel
theorem dX6_init_74 : decode cX6_init 74 = .ok (.iload_n 1, 1) := by decide +kernel
theorem dX6_init_75 : decode cX6_init 75 = .ok (.iconst 4, 1) := by decide +kernel
theorem dX6_init_76 : decode cX6_init 76 = .ok (.if_icmp .ge 22, 3) := by decide +kernel
theorem dX6_init_79 : decode cX6_init 79 = .ok (.aload_n 0, 1) := by decide +kernel
theorem dX6_init_80 : decode cX6_init 80 = .ok (.getfield 42, 3) := by decide +kernel
theorem dX6_init_83 : decode cX6_init 83 = .ok (.iload_n 1, 1) := by decide +kernel
theorem dX6_init_84 : decode cX6_init 84 = .ok (.new 40, 3) := by decide +kernel
theorem dX6_init_87 : decode cX6_init 87 = .ok (.dup, 1) := by decide +kernel
theorem dX6_init_88 : decode cX6_init 88 = .ok (.invokespecial 46, 3) := by decide +kernel
theorem dX6_init_91 : decode cX6_init 91 = .ok (.aastore, 1) := by decide +kernel
theorem dX6_init_92 : decode cX6_init 92 = .ok (.iinc 1 1, 3) := by decide +kernel
theorem dX6_init_95 : decode cX6_init 95 = .ok (.goto (-21), 3) := by decide +kernel
theorem dX6_init_98 : decode cX6_init 98 = .ok (.aload_n 0, 1) := by decide +kernel
theorem dX6_init_99 : decode cX6_init 99 = .ok (.bipush 7, 2) := by decide +kernel
theorem dX6_init_101 : decode cX6_init 101 = .ok (.newarray .int, 2) := by decide +kernel
theorem dX6_init_103 : decode cX6_init 103 = .ok (.putfield 47, 3) := by decide +kernel
theorem dX6_init_106 : decode cX6_init 106 = .ok (.return_, 1) := by decide +kernel
theorem dX6_say_0 : decode cX6_say 0 = .ok (.iload_n 1, 1) := by decide +kernel
theorem dX6_say_1 : decode cX6_say 1 = .ok (.iconst 5, 1) := by decide +kernel
theorem dX6_say_2 : decode cX6_say 2 = .ok (.invokestatic 51, 3) := by decide +kernel
theorem dX6_say_5 : decode cX6_say 5 = .ok (.ifCond .eq 10, 3) := by decide +kernel
theorem dX6_say_8 : decode cX6_say 8 = .ok (.iload_n 2, 1) := by decide +kernel
theorem dX6_say_9 : decode cX6_say 9 = .ok (.invokestatic 55, 3) := by decide +kernel
theorem dX6_say_12 : decode cX6_say 12 = .ok (.ifCond .ne 10, 3) := by decide +kernel
theorem dX6_say_15 : decode cX6_say 15 = .ok (.aload_n 0, 1) := by decide +kernel
theorem dX6_say_16 : decode cX6_say 16 = .ok (.ldc 59, 2) := by decide +kernel
theorem dX6_say_18 : decode cX6_say 18 = .ok (.invokevirtual 60, 3) := by decide +kernel
theorem dX6_say_21 : decode cX6_say 21 = .ok (.ireturn, 1) := by decide +kernel
theorem dX6_say_22 : decode cX6_say 22 = .ok (.aload_n 0, 1) := by decide +kernel
theorem dX6_say_23 : decode cX6_say 23 = .ok (.getfield 12, 3) := by decide +kernel
theorem dX6_say_26 : decode cX6_say 26 = .ok (.getfield 64, 3) := by decide +kernel
theorem dX6_say_29 : decode cX6_say 29 = .ok (.iload_n 1, 1) := by decide +kernel
theorem dX6_say_30 : decode cX6_say 30 = .ok (.iaload, 1) := by decide +kernel
theorem dX6_say_31 : decode cX6_say 31 = .ok (.istore_n 3, 1) := by decide +kernel
theorem dX6_say_32 : decode cX6_say 32 = .ok (.aload_n 0, 1) := by decide +kernel
theorem dX6_say_33 : decode cX6_say 33 = .ok (.getfield 12, 3) := by decide +kernel
theorem dX6_say_36 : decode cX6_say 36 = .ok (.getfield 64, 3) := by decide +kernel
theorem dX6_say_39 : decode cX6_say 39 = .ok (.iload_n 1, 1) := by decide +kernel
theorem dX6_say_40 : decode cX6_say 40 = .ok (.iload_n 2, 1) := by decide +kernel
theorem dX6_say_41 : decode cX6_say 41 = .ok (.iastore, 1) := by decide +kernel
theorem dX6_say_42 : decode cX6_say 42 = .ok (.iload_n 3, 1) := by decide +kernel
theorem dX6_say_43 : decode cX6_say 43 = .ok (.ireturn, 1) := by decide +kernel
theorem dX6_said_0 : decode cX6_said 0 = .ok (.iload_n 1, 1) := by decide +kernel
theorem dX6_said_1 : decode cX6_said 1 = .ok (.iconst 5, 1) := by decide +kernel
theorem dX6_said_2 : decode cX6_said 2 = .ok (.invokestatic 51, 3) := by decide +kernel
theorem dX6_said_5 : decode cX6_said 5 = .ok (.ifCond .ne 10, 3) := by decide +kernel
theorem dX6_said_8 : decode cX6_said 8 = .ok (.aload_n 0, 1) := by decide +kernel
theorem dX6_said_9 : decode cX6_said 9 = .ok (.ldc 59, 2) := by decide +kernel
theorem dX6_said_11 : decode cX6_said 11 = .ok (.invokevirtual 60, 3) := by decide +kernel
theorem dX6_said_14 : decode cX6_said 14 = .ok (.ireturn, 1) := by decide +kernel
theorem dX6_said_15 : decode cX6_said 15 = .ok (.aload_n 0, 1) := by decide +kernel
theorem dX6_said_16 : decode cX6_said 16 = .ok (.getfield 12, 3) := by decide +kernel
theorem dX6_said_19 : decode cX6_said 19 = .ok (.getfield 64, 3) := by decide +kernel
theorem dX6_said_22 : decode cX6_said 22 = .ok (.iload_n 1, 1) := by decide +kernel
theorem dX6_said_23 : decode cX6_said 23 = .ok (.iaload, 1) := by decide +kernel
theorem dX6_said_24 : decode cX6_said 24 = .ok (.ireturn, 1) := by decide +kernel
theorem dX6_room_0 : decode cX6_room 0 = .ok (.iload_n 1, 1) := by decide +kernel
theorem dX6_room_1 : decode cX6_room 1 = .ok (.iconst 5, 1) := by decide +kernel
theorem dX6_room_2 : decode cX6_room 2 = .ok (.invokestatic 51, 3) := by decide +kernel
theorem dX6_room_5 : decode cX6_room 5 = .ok (.ifCond .ne 10, 3) := by decide +kernel
theorem dX6_room_8 : decode cX6_room 8 = .ok (.aload_n 0, 1) := by decide +kernel
theorem dX6_room_9 : decode cX6_room 9 = .ok (.ldc 59, 2) := by decide +kernel
theorem dX6_room_11 : decode cX6_room 11 = .ok (.invokevirtual 60, 3) := by decide +kernel
theorem dX6_room_14 : decode cX6_room 14 = .ok (.ireturn, 1) := by decide +kernel
theorem dX6_room_15 : decode cX6_room 15 = .ok (.aload_n 0, 1) := by decide +kernel
theorem dX6_room_16 : decode cX6_room 16 = .ok (.getfield 12, 3) := by decide +kernel
theorem dX6_room_19 : decode cX6_room 19 = .ok (.iload_n 1, 1) := by decide +kernel
theorem dX6_room_20 : decode cX6_room 20 = .ok (.iconst 0, 1) := by decide +kernel
theorem dX6_room_21 : decode cX6_room 21 = .ok (.invokevirtual 67, 3) := by decide +kernel
theorem dX6_room_24 : decode cX6_room 24 = .ok (.istore_n 3, 1) := by decide +kernel
theorem dX6_room_25 : decode cX6_room 25 = .ok (.iload_n 2, 1) := by decide +kernel
theorem dX6_room_26 : decode cX6_room 26 = .ok (.tableswitch 59 0 3 #[30, 32, 41, 50], 30) := by decide +kernel
theorem dX6_room_56 : decode cX6_room 56 = .ok (.iload_n 3, 1) := by decide +kernel
theorem dX6_room_57 : decode cX6_room 57 = .ok (.ireturn, 1) := by decide +kernel
theorem dX6_room_58 : decode cX6_room 58 = .ok (.aload_n 0, 1) := by decide +kernel
theorem dX6_room_59 : decode cX6_room 59 = .ok (.getfield 12, 3) := by decide +kernel
theorem dX6_room_62 : decode cX6_room 62 = .ok (.iload_n 3, 1) := by decide +kernel
theorem dX6_room_63 : decode cX6_room 63 = .ok (.invokevirtual 71, 3) := by decide +kernel
theorem dX6_room_66 : decode cX6_room 66 = .ok (.ireturn, 1) := by decide +kernel
theorem dX6_room_67 : decode cX6_room 67 = .ok (.aload_n 0, 1) := by decide +kernel
theorem dX6_room_68 : decode cX6_room 68 = .ok (.getfield 12, 3) := by decide +kernel
theorem dX6_room_71 : decode cX6_room 71 = .ok (.iload_n 3, 1) := by decide +kernel
theorem dX6_room_72 : decode cX6_room 72 = .ok (.invokevirtual 74, 3) := by decide +kernel
theorem dX6_room_75 : decode cX6_room 75 = .ok (.ireturn, 1) := by decide +kernel
theorem dX6_room_76 : decode cX6_room 76 = .ok (.aload_n 0, 1) := by decide +kernel
theorem dX6_room_77 : decode cX6_room 77 = .ok (.getfield 12, 3) := by decide +kernel
theorem dX6_room_80 : decode cX6_room 80 = .ok (.iload_n 1, 1) := by decide +kernel
theorem dX6_room_81 : decode cX6_room 81 = .ok (.invokevirtual 77, 3) := by decide +kernel
theorem dX6_room_84 : decode cX6_room 84 = .ok (.ireturn, 1) := by decide +kernel
theorem dX6_room_85 : decode cX6_room 85 = .ok (.aload_n 0, 1) := by decide +kernel
theorem dX6_room_86 : decode cX6_room 86 = .ok (.ldc 59, 2) := by decide +kernel
theorem dX6_room_88 : decode cX6_room 88 = .ok (.invokevirtual 60, 3) := by decide +kernel
theorem dX6_room_91 : decode cX6_room 91 = .ok (.ireturn, 1) := by decide +kernel
theorem dX6_glove_0 : decode cX6_glove 0 = .ok (.iload_n 1, 1) := by decide +kernel
theorem dX6_glove_1 : decode cX6_glove 1 = .ok (.bipush 6, 2) := by decide +kernel
theorem dX6_glove_3 : decode cX6_glove 3 = .ok (.invokestatic 51, 3) := by decide +kernel
theorem dX6_glove_6 : decode cX6_glove 6 = .ok (.ifCond .eq 11, 3) := by decide +kernel
theorem dX6_glove_9 : decode cX6_glove 9 = .ok (.iload_n 2, 1) := by decide +kernel
theorem dX6_glove_10 : decode cX6_glove 10 = .ok (.iconst 5, 1) := by decide +kernel
theorem dX6_glove_11 : decode cX6_glove 11 = .ok (.invokestatic 51, 3) := by decide +kernel
theorem dX6_glove_14 : decode cX6_glove 14 = .ok (.ifCond .ne 10, 3) := by decide +kernel
theorem dX6_glove_17 : decode cX6_glove 17 = .ok (.aload_n 0, 1) := by decide +kernel
theorem dX6_glove_18 : decode cX6_glove 18 = .ok (.ldc 59, 2) := by decide +kernel
theorem dX6_glove_20 : decode cX6_glove 20 = .ok (.invokevirtual 60, 3) := by decide +kernel
theorem dX6_glove_23 : decode cX6_glove 23 = .ok (.ireturn, 1) := by decide +kernel
theorem dX6_glove_24 : decode cX6_glove 24 = .ok (.aload_n 0, 1) := by decide +kernel
theorem dX6_glove_25 : decode cX6_glove 25 = .ok (.getfield 12, 3) := by decide +kernel
theorem dX6_glove_28 : decode cX6_glove 28 = .ok (.getfield 80, 3) := by decide +kernel
theorem dX6_glove_31 : decode cX6_glove 31 = .ok (.bipush 8, 2) := by decide +kernel
theorem dX6_glove_33 : decode cX6_glove 33 = .ok (.if_icmp .lt 10, 3) := by decide +kernel
theorem dX6_glove_36 : decode cX6_glove 36 = .ok (.aload_n 0, 1) := by decide +kernel
theorem dX6_glove_37 : decode cX6_glove 37 = .ok (.ldc 84, 2) := by decide +kernel
theorem dX6_glove_39 : decode cX6_glove 39 = .ok (.invokevirtual 60, 3) := by decide +kernel
theorem dX6_glove_42 : decode cX6_glove 42 = .ok (.ireturn, 1) := by decide +kernel
theorem dX6_glove_43 : decode cX6_glove 43 = .ok (.aload_n 0, 1) := by decide +kernel
theorem dX6_glove_44 : decode cX6_glove 44 = .ok (.getfield 12, 3) := by decide +kernel
theorem dX6_glove_47 : decode cX6_glove 47 = .ok (.iload_n 1, 1) := by decide +kernel
theorem dX6_glove_48 : decode cX6_glove 48 = .ok (.iload_n 2, 1) := by decide +kernel
theorem dX6_glove_49 : decode cX6_glove 49 = .ok (.invokevirtual 85, 3) := by decide +kernel
theorem dX6_glove_52 : decode cX6_glove 52 = .ok (.ireturn, 1) := by decide +kernel
theorem dX6_of_0 : decode cX6_of 0 = .ok (.aload_n 0, 1) := by decide +kernel
theorem dX6_of_1 : decode cX6_of 1 = .ok (.getfield 12, 3) := by decide +kernel
theorem dX6_of_4 : decode cX6_of 4 = .ok (.iload_n 1, 1) := by decide +kernel
theorem dX6_of_5 : decode cX6_of 5 = .ok (.invokevirtual 88, 3) := by decide +kernel
theorem dX6_of_8 : decode cX6_of 8 = .ok (.ifCond .eq 12, 3) := by decide +kernel
theorem dX6_of_11 : decode cX6_of 11 = .ok (.iload_n 2, 1) := by decide +kernel
theorem dX6_of_12 : decode cX6_of 12 = .ok (.bipush 10, 2) := by decide +kernel
theorem dX6_of_14 : decode cX6_of 14 = .ok (.invokestatic 51, 3) := by decide +kernel
theorem dX6_of_17 : decode cX6_of 17 = .ok (.ifCond .ne 10, 3) := by decide +kernel
theorem dX6_of_20 : decode cX6_of 20 = .ok (.aload_n 0, 1) := by decide +kernel
theorem dX6_of_21 : decode cX6_of 21 = .ok (.ldc 59, 2) := by decide +kernel
theorem dX6_of_23 : decode cX6_of 23 = .ok (.invokevirtual 60, 3) := by decide +kernel
theorem dX6_of_26 : decode cX6_of 26 = .ok (.ireturn, 1) := by decide +kernel
theorem dX6_of_27 : decode cX6_of 27 = .ok (.iload_n 2, 1) := by decide +kernel
theorem dX6_of_28 : decode cX6_of 28 = .ok (.bipush 7, 2) := by decide +kernel
theorem dX6_of_30 : decode cX6_of 30 = .ok (.if_icmp .ne 14, 3) := by decide +kernel
theorem dX6_of_33 : decode cX6_of 33 = .ok (.aload_n 0, 1) := by decide +kernel
theorem dX6_of_34 : decode cX6_of 34 = .ok (.getfield 12, 3) := by decide +kernel
theorem dX6_of_37 : decode cX6_of 37 = .ok (.iload_n 1, 1) := by decide +kernel
theorem dX6_of_38 : decode cX6_of 38 = .ok (.invokevirtual 93, 3) := by decide +kernel
theorem dX6_of_41 : decode cX6_of 41 = .ok (.goto 16, 3) := by decide +kernel
theorem dX6_of_44 : decode cX6_of 44 = .ok (.aload_n 0, 1) := by decide +kernel
theorem dX6_of_45 : decode cX6_of 45 = .ok (.getfield 12, 3) := by decide +kernel
theorem dX6_of_48 : decode cX6_of 48 = .ok (.getfield 96, 3) := by decide +kernel
theorem dX6_of_51 : decode cX6_of 51 = .ok (.iload_n 1, 1) := by decide +kernel
theorem dX6_of_52 : decode cX6_of 52 = .ok (.aaload, 1) := by decide +kernel
theorem dX6_of_53 : decode cX6_of 53 = .ok (.iload_n 2, 1) := by decide +kernel
theorem dX6_of_54 : decode cX6_of 54 = .ok (.invokevirtual 100, 3) := by decide +kernel
theorem dX6_of_57 : decode cX6_of 57 = .ok (.ireturn, 1) := by decide +kernel
theorem dX6_change_0 : decode cX6_change 0 = .ok (.aload_n 0, 1) := by decide +kernel
theorem dX6_change_1 : decode cX6_change 1 = .ok (.getfield 12, 3) := by decide +kernel
theorem dX6_change_4 : decode cX6_change 4 = .ok (.iload_n 1, 1) := by decide +kernel
theorem dX6_change_5 : decode cX6_change 5 = .ok (.invokevirtual 88, 3) := by decide +kernel
theorem dX6_change_8 : decode cX6_change 8 = .ok (.ifCond .eq 14, 3) := by decide +kernel
theorem dX6_change_11 : decode cX6_change 11 = .ok (.iload_n 3, 1) := by decide +kernel
theorem dX6_change_12 : decode cX6_change 12 = .ok (.iload_n 2, 1) := by decide +kernel
theorem dX6_change_13 : decode cX6_change 13 = .ok (.invokestatic 103, 3) := by decide +kernel
theorem dX6_change_16 : decode cX6_change 16 = .ok (.invokestatic 51, 3) := by decide +kernel
theorem dX6_change_19 : decode cX6_change 19 = .ok (.ifCond .ne 10, 3) := by decide +kernel
theorem dX6_change_22 : decode cX6_change 22 = .ok (.aload_n 0, 1) := by decide +kernel
theorem dX6_change_23 : decode cX6_change 23 = .ok (.ldc 59, 2) := by decide +kernel
theorem dX6_change_25 : decode cX6_change 25 = .ok (.invokevirtual 60, 3) := by decide +kernel
theorem dX6_change_28 : decode cX6_change 28 = .ok (.ireturn, 1) := by decide +kernel
theorem dX6_change_29 : decode cX6_change 29 = .ok (.aload_n 0, 1) := by decide +kernel
theorem dX6_change_30 : decode cX6_change 30 = .ok (.getfield 12, 3) := by decide +kernel
theorem dX6_change_33 : decode cX6_change 33 = .ok (.getfield 96, 3) := by decide +kernel
theorem dX6_change_36 : decode cX6_change 36 = .ok (.iload_n 1, 1) := by decide +kernel
theorem dX6_change_37 : decode cX6_change 37 = .ok (.aaload, 1) := by decide +kernel
theorem dX6_change_38 : decode cX6_change 38 = .ok (.astore 4, 2) := by decide +kernel
theorem dX6_change_40 : decode cX6_change 40 = .ok (.aload 4, 2) := by decide +kernel
theorem dX6_change_42 : decode cX6_change 42 = .ok (.iload_n 2, 1) := by decide +kernel
theorem dX6_change_43 : decode cX6_change 43 = .ok (.invokevirtual 100, 3) := by decide +kernel
theorem dX6_change_46 : decode cX6_change 46 = .ok (.istore 5, 2) := by decide +kernel
theorem dX6_change_48 : decode cX6_change 48 = .ok (.aload 4, 2) := by decide +kernel
theorem dX6_change_50 : decode cX6_change 50 = .ok (.iload_n 2, 1) := by decide +kernel
theorem dX6_change_51 : decode cX6_change 51 = .ok (.iload_n 3, 1) := by decide +kernel
theorem dX6_change_52 : decode cX6_change 52 = .ok (.invokevirtual 106, 3) := by decide +kernel
theorem dX6_change_55 : decode cX6_change 55 = .ok (.iload 5, 2) := by decide +kernel
theorem dX6_change_57 : decode cX6_change 57 = .ok (.ireturn, 1) := by decide +kernel
theorem dX6_draw_0 : decode cX6_draw 0 = .ok (.aload_n 0, 1) := by decide +kernel
theorem dX6_draw_1 : decode cX6_draw 1 = .ok (.getfield 12, 3) := by decide +kernel
theorem dX6_draw_4 : decode cX6_draw 4 = .ok (.iload_n 1, 1) := by decide +kernel
theorem dX6_draw_5 : decode cX6_draw 5 = .ok (.invokevirtual 88, 3) := by decide +kernel
theorem dX6_draw_8 : decode cX6_draw 8 = .ok (.ifCond .ne 10, 3) := by decide +kernel
theorem dX6_draw_11 : decode cX6_draw 11 = .ok (.aload_n 0, 1) := by decide +kernel
theorem dX6_draw_12 : decode cX6_draw 12 = .ok (.ldc 59, 2) := by decide +kernel
theorem dX6_draw_14 : decode cX6_draw 14 = .ok (.invokevirtual 60, 3) := by decide +kernel
theorem dX6_draw_17 : decode cX6_draw 17 = .ok (.ireturn, 1) := by decide +kernel
theorem dX6_draw_18 : decode cX6_draw 18 = .ok (.aload_n 0, 1) := by decide +kernel
theorem dX6_draw_19 : decode cX6_draw 19 = .ok (.getfield 12, 3) := by decide +kernel
theorem dX6_draw_22 : decode cX6_draw 22 = .ok (.getfield 96, 3) := by decide +kernel
theorem dX6_draw_25 : decode cX6_draw 25 = .ok (.iload_n 1, 1) := by decide +kernel
theorem dX6_draw_26 : decode cX6_draw 26 = .ok (.aaload, 1) := by decide +kernel
theorem dX6_draw_27 : decode cX6_draw 27 = .ok (.astore_n 2, 1) := by decide +kernel
theorem dX6_draw_28 : decode cX6_draw 28 = .ok (.aload_n 2, 1) := by decide +kernel
theorem dX6_draw_29 : decode cX6_draw 29 = .ok (.invokevirtual 110, 3) := by decide +kernel
theorem dX6_draw_32 : decode cX6_draw 32 = .ok (.ifCond .ne 10, 3) := by decide +kernel
theorem dX6_draw_35 : decode cX6_draw 35 = .ok (.aload_n 0, 1) := by decide +kernel
theorem dX6_draw_36 : decode cX6_draw 36 = .ok (.ldc 114, 2) := by decide +kernel
theorem dX6_draw_38 : decode cX6_draw 38 = .ok (.invokevirtual 60, 3) := by decide +kernel
theorem dX6_draw_41 : decode cX6_draw 41 = .ok (.ireturn, 1) := by decide +kernel
theorem dX6_draw_42 : decode cX6_draw 42 = .ok (.aload_n 2, 1) := by decide +kernel
theorem dX6_draw_43 : decode cX6_draw 43 = .ok (.invokevirtual 115, 3) := by decide +kernel
theorem dX6_draw_46 : decode cX6_draw 46 = .ok (.aload_n 2, 1) := by decide +kernel
theorem dX6_draw_47 : decode cX6_draw 47 = .ok (.getfield 118, 3) := by decide +kernel
theorem dX6_draw_50 : decode cX6_draw 50 = .ok (.ireturn, 1) := by decide +kernel
theorem dX6_who_0 : decode cX6_who 0 = .ok (.iload_n 1, 1) := by decide +kernel
theorem dX6_who_1 : decode cX6_who 1 = .ok (.bipush 15, 2) := by decide +kernel
theorem dX6_who_3 : decode cX6_who 3 = .ok (.invokestatic 51, 3) := by decide +kernel
theorem dX6_who_6 : decode cX6_who 6 = .ok (.ifCond .eq 11, 3) := by decide +kernel
theorem dX6_who_9 : decode cX6_who 9 = .ok (.iload_n 2, 1) := by decide +kernel
theorem dX6_who_10 : decode cX6_who 10 = .ok (.iconst 1, 1) := by decide +kernel
theorem dX6_who_11 : decode cX6_who 11 = .ok (.invokestatic 51, 3) := by decide +kernel
theorem dX6_who_14 : decode cX6_who 14 = .ok (.ifCond .ne 10, 3) := by decide +kernel
theorem dX6_who_17 : decode cX6_who 17 = .ok (.aload_n 0, 1) := by decide +kernel
theorem dX6_who_18 : decode cX6_who 18 = .ok (.ldc 59, 2) := by decide +kernel
theorem dX6_who_20 : decode cX6_who 20 = .ok (.invokevirtual 60, 3) := by decide +kernel
theorem dX6_who_23 : decode cX6_who 23 = .ok (.ireturn, 1) := by decide +kernel
theorem dX6_who_24 : decode cX6_who 24 = .ok (.aload_n 0, 1) := by decide +kernel
theorem dX6_who_25 : decode cX6_who 25 = .ok (.getfield 12, 3) := by decide +kernel
theorem dX6_who_28 : decode cX6_who 28 = .ok (.iload_n 1, 1) := by decide +kernel
theorem dX6_who_29 : decode cX6_who 29 = .ok (.iload_n 2, 1) := by decide +kernel
theorem dX6_who_30 : decode cX6_who 30 = .ok (.iconst 1, 1) := by decide +kernel
theorem dX6_who_31 : decode cX6_who 31 = .ok (.if_icmp .ne 7, 3) := by decide +kernel
theorem dX6_who_34 : decode cX6_who 34 = .ok (.iconst 1, 1) := by decide +kernel
theorem dX6_who_35 : decode cX6_who 35 = .ok (.goto 4, 3) := by decide +kernel
theorem dX6_who_38 : decode cX6_who 38 = .ok (.iconst 0, 1) := by decide +kernel
theorem dX6_who_39 : decode cX6_who 39 = .ok (.invokevirtual 121, 3) := by decide +kernel
theorem dX6_who_42 : decode cX6_who 42 = .ok (.ireturn, 1) := by decide +kernel
theorem dX6_go_0 : decode cX6_go 0 = .ok (.iload_n 1, 1) := by decide +kernel
theorem dX6_go_1 : decode cX6_go 1 = .ok (.iconst 1, 1) := by decide +kernel
theorem dX6_go_2 : decode cX6_go 2 = .ok (.if_icmp .lt 9, 3) := by decide +kernel
theorem dX6_go_5 : decode cX6_go 5 = .ok (.iload_n 1, 1) := by decide +kernel
theorem dX6_go_6 : decode cX6_go 6 = .ok (.bipush 60, 2) := by decide +kernel
theorem dX6_go_8 : decode cX6_go 8 = .ok (.if_icmp .le 10, 3) := by decide +kernel
theorem dX6_go_11 : decode cX6_go 11 = .ok (.aload_n 0, 1) := by decide +kernel
theorem dX6_go_12 : decode cX6_go 12 = .ok (.ldc 59, 2) := by decide +kernel
theorem dX6_go_14 : decode cX6_go 14 = .ok (.invokevirtual 60, 3) := by decide +kernel
theorem dX6_go_17 : decode cX6_go 17 = .ok (.ireturn, 1) := by decide +kernel
theorem dX6_go_18 : decode cX6_go 18 = .ok (.aload_n 0, 1) := by decide +kernel
theorem dX6_go_19 : decode cX6_go 19 = .ok (.getfield 12, 3) := by decide +kernel
theorem dX6_go_22 : decode cX6_go 22 = .ok (.getfield 125, 3) := by decide +kernel
theorem dX6_go_25 : decode cX6_go 25 = .ok (.iload_n 1, 1) := by decide +kernel
theorem dX6_go_26 : decode cX6_go 26 = .ok (.iadd, 1) := by decide +kernel
theorem dX6_go_27 : decode cX6_go 27 = .ok (.ldc 128, 2) := by decide +kernel
theorem dX6_go_29 : decode cX6_go 29 = .ok (.if_icmp .le 10, 3) := by decide +kernel
theorem dX6_go_32 : decode cX6_go 32 = .ok (.aload_n 0, 1) := by decide +kernel
theorem dX6_go_33 : decode cX6_go 33 = .ok (.ldc 114, 2) := by decide +kernel

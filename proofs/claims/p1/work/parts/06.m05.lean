theorem dX10_divisor_0 : decode cX10_divisor 0 = .ok (.iload_n 1, 1) := by decide +kernel
theorem dX10_divisor_1 : decode cX10_divisor 1 = .ok (.istore_n 3, 1) := by decide +kernel
theorem dX10_divisor_10 : decode cX10_divisor 10 = .ok (.iload_n 3, 1) := by decide +kernel
theorem dX10_divisor_11 : decode cX10_divisor 11 = .ok (.iload 4, 2) := by decide +kernel
theorem dX10_divisor_13 : decode cX10_divisor 13 = .ok (.irem, 1) := by decide +kernel
theorem dX10_divisor_14 : decode cX10_divisor 14 = .ok (.istore 5, 2) := by decide +kernel
theorem dX10_divisor_16 : decode cX10_divisor 16 = .ok (.iload 4, 2) := by decide +kernel
theorem dX10_divisor_18 : decode cX10_divisor 18 = .ok (.istore_n 3, 1) := by decide +kernel
theorem dX10_divisor_19 : decode cX10_divisor 19 = .ok (.iload 5, 2) := by decide +kernel
theorem dX10_divisor_2 : decode cX10_divisor 2 = .ok (.iload_n 2, 1) := by decide +kernel
theorem dX10_divisor_21 : decode cX10_divisor 21 = .ok (.istore 4, 2) := by decide +kernel
theorem dX10_divisor_23 : decode cX10_divisor 23 = .ok (.goto (-18), 3) := by decide +kernel
theorem dX10_divisor_26 : decode cX10_divisor 26 = .ok (.iload_n 3, 1) := by decide +kernel
theorem dX10_divisor_27 : decode cX10_divisor 27 = .ok (.ireturn, 1) := by decide +kernel
theorem dX10_divisor_3 : decode cX10_divisor 3 = .ok (.istore 4, 2) := by decide +kernel
theorem dX10_divisor_5 : decode cX10_divisor 5 = .ok (.iload 4, 2) := by decide +kernel
theorem dX10_divisor_7 : decode cX10_divisor 7 = .ok (.ifCond .eq 19, 3) := by decide +kernel
theorem dX10_from_0 : decode cX10_from 0 = .ok (.aload_n 0, 1) := by decide +kernel
theorem dX10_from_1 : decode cX10_from 1 = .ok (.getfield 22, 3) := by decide +kernel
theorem dX10_from_101 : decode cX10_from 101 = .ok (.iconst 1, 1) := by decide +kernel
theorem dX10_from_102 : decode cX10_from 102 = .ok (.iadd, 1) := by decide +kernel
theorem dX10_from_103 : decode cX10_from 103 = .ok (.putfield 22, 3) := by decide +kernel
theorem dX10_from_106 : decode cX10_from 106 = .ok (.goto (-90), 3) := by decide +kernel
theorem dX10_from_109 : decode cX10_from 109 = .ok (.aload_n 0, 1) := by decide +kernel
theorem dX10_from_11 : decode cX10_from 11 = .ok (.aload_n 0, 1) := by decide +kernel
theorem dX10_from_110 : decode cX10_from 110 = .ok (.iload_n 1, 1) := by decide +kernel
theorem dX10_from_111 : decode cX10_from 111 = .ok (.putfield 22, 3) := by decide +kernel
theorem dX10_from_114 : decode cX10_from 114 = .ok (.iload_n 2, 1) := by decide +kernel
theorem dX10_from_115 : decode cX10_from 115 = .ok (.ireturn, 1) := by decide +kernel
theorem dX10_from_12 : decode cX10_from 12 = .ok (.iconst 0, 1) := by decide +kernel
theorem dX10_from_13 : decode cX10_from 13 = .ok (.putfield 22, 3) := by decide +kernel
theorem dX10_from_16 : decode cX10_from 16 = .ok (.aload_n 0, 1) := by decide +kernel
theorem dX10_from_17 : decode cX10_from 17 = .ok (.getfield 22, 3) := by decide +kernel
theorem dX10_from_20 : decode cX10_from 20 = .ok (.iconst 4, 1) := by decide +kernel
theorem dX10_from_21 : decode cX10_from 21 = .ok (.if_icmp .ge 88, 3) := by decide +kernel
theorem dX10_from_24 : decode cX10_from 24 = .ok (.aload_n 0, 1) := by decide +kernel
theorem dX10_from_25 : decode cX10_from 25 = .ok (.invokevirtual 341, 3) := by decide +kernel
theorem dX10_from_28 : decode cX10_from 28 = .ok (.iconst 1, 1) := by decide +kernel
theorem dX10_from_29 : decode cX10_from 29 = .ok (.istore_n 3, 1) := by decide +kernel
theorem dX10_from_30 : decode cX10_from 30 = .ok (.iconst 0, 1) := by decide +kernel
theorem dX10_from_31 : decode cX10_from 31 = .ok (.istore 4, 2) := by decide +kernel
theorem dX10_from_33 : decode cX10_from 33 = .ok (.iload 4, 2) := by decide +kernel
theorem dX10_from_35 : decode cX10_from 35 = .ok (.aload_n 0, 1) := by decide +kernel
theorem dX10_from_36 : decode cX10_from 36 = .ok (.getfield 132, 3) := by decide +kernel
theorem dX10_from_39 : decode cX10_from 39 = .ok (.if_icmp .ge 40, 3) := by decide +kernel
theorem dX10_from_4 : decode cX10_from 4 = .ok (.istore_n 1, 1) := by decide +kernel
theorem dX10_from_5 : decode cX10_from 5 = .ok (.iconst 0, 1) := by decide +kernel
theorem dX10_from_6 : decode cX10_from 6 = .ok (.istore_n 2, 1) := by decide +kernel
theorem dX10_from_7 : decode cX10_from 7 = .ok (.aload_n 0, 1) := by decide +kernel
theorem dX10_from_79 : decode cX10_from 79 = .ok (.iload_n 2, 1) := by decide +kernel
theorem dX10_from_8 : decode cX10_from 8 = .ok (.invokevirtual 344, 3) := by decide +kernel
theorem dX10_from_80 : decode cX10_from 80 = .ok (.iload_n 3, 1) := by decide +kernel
theorem dX10_from_81 : decode cX10_from 81 = .ok (.ifCond .eq 12, 3) := by decide +kernel
theorem dX10_from_84 : decode cX10_from 84 = .ok (.iconst 1, 1) := by decide +kernel
theorem dX10_from_85 : decode cX10_from 85 = .ok (.aload_n 0, 1) := by decide +kernel
theorem dX10_from_86 : decode cX10_from 86 = .ok (.getfield 22, 3) := by decide +kernel
theorem dX10_from_89 : decode cX10_from 89 = .ok (.ishl, 1) := by decide +kernel
theorem dX10_from_90 : decode cX10_from 90 = .ok (.goto 4, 3) := by decide +kernel
theorem dX10_from_94 : decode cX10_from 94 = .ok (.ior, 1) := by decide +kernel
theorem dX10_from_95 : decode cX10_from 95 = .ok (.istore_n 2, 1) := by decide +kernel
theorem dX10_from_96 : decode cX10_from 96 = .ok (.aload_n 0, 1) := by decide +kernel
theorem dX10_from_97 : decode cX10_from 97 = .ok (.dup, 1) := by decide +kernel
theorem dX10_from_98 : decode cX10_from 98 = .ok (.getfield 22, 3) := by decide +kernel
theorem dX10_lowest_0 : decode cX10_lowest 0 = .ok (.aload_n 0, 1) := by decide +kernel
theorem dX10_lowest_1 : decode cX10_lowest 1 = .ok (.iload_n 1, 1) := by decide +kernel
theorem dX10_lowest_12 : decode cX10_lowest 12 = .ok (.iload_n 1, 1) := by decide +kernel
theorem dX10_lowest_13 : decode cX10_lowest 13 = .ok (.iload 4, 2) := by decide +kernel
theorem dX10_lowest_15 : decode cX10_lowest 15 = .ok (.idiv, 1) := by decide +kernel
theorem dX10_lowest_16 : decode cX10_lowest 16 = .ok (.i2l, 1) := by decide +kernel
theorem dX10_lowest_17 : decode cX10_lowest 17 = .ok (.goto 8, 3) := by decide +kernel
theorem dX10_lowest_2 : decode cX10_lowest 2 = .ok (.iload_n 2, 1) := by decide +kernel
theorem dX10_lowest_20 : decode cX10_lowest 20 = .ok (.iload_n 2, 1) := by decide +kernel
theorem dX10_lowest_21 : decode cX10_lowest 21 = .ok (.iload 4, 2) := by decide +kernel
theorem dX10_lowest_23 : decode cX10_lowest 23 = .ok (.idiv, 1) := by decide +kernel
theorem dX10_lowest_24 : decode cX10_lowest 24 = .ok (.i2l, 1) := by decide +kernel
theorem dX10_lowest_25 : decode cX10_lowest 25 = .ok (.lreturn, 1) := by decide +kernel
theorem dX10_lowest_3 : decode cX10_lowest 3 = .ok (.invokevirtual 390, 3) := by decide +kernel
theorem dX10_lowest_6 : decode cX10_lowest 6 = .ok (.istore 4, 2) := by decide +kernel
theorem dX10_lowest_8 : decode cX10_lowest 8 = .ok (.iload_n 3, 1) := by decide +kernel
theorem dX10_lowest_9 : decode cX10_lowest 9 = .ok (.ifCond .ne 11, 3) := by decide +kernel
theorem dX10_odds_0 : decode cX10_odds 0 = .ok (.aload_n 0, 1) := by decide +kernel
theorem dX10_odds_1 : decode cX10_odds 1 = .ok (.iload_n 1, 1) := by decide +kernel
theorem dX10_odds_10 : decode cX10_odds 10 = .ok (.iconst 0, 1) := by decide +kernel
theorem dX10_odds_11 : decode cX10_odds 11 = .ok (.iconst 1, 1) := by decide +kernel
theorem dX10_odds_12 : decode cX10_odds 12 = .ok (.invokevirtual 242, 3) := by decide +kernel
theorem dX10_odds_15 : decode cX10_odds 15 = .ok (.ifCond .ne 7, 3) := by decide +kernel
theorem dX10_odds_18 : decode cX10_odds 18 = .ok (.ldc2_w 393, 3) := by decide +kernel
theorem dX10_odds_2 : decode cX10_odds 2 = .ok (.invokevirtual 381, 3) := by decide +kernel
theorem dX10_odds_21 : decode cX10_odds 21 = .ok (.lreturn, 1) := by decide +kernel
theorem dX10_odds_22 : decode cX10_odds 22 = .ok (.aload_n 0, 1) := by decide +kernel
theorem dX10_odds_23 : decode cX10_odds 23 = .ok (.getfield 22, 3) := by decide +kernel
theorem dX10_odds_26 : decode cX10_odds 26 = .ok (.istore_n 3, 1) := by decide +kernel
theorem dX10_odds_27 : decode cX10_odds 27 = .ok (.iconst 0, 1) := by decide +kernel
theorem dX10_odds_28 : decode cX10_odds 28 = .ok (.istore 4, 2) := by decide +kernel
theorem dX10_odds_30 : decode cX10_odds 30 = .ok (.aload_n 0, 1) := by decide +kernel
theorem dX10_odds_31 : decode cX10_odds 31 = .ok (.iconst 0, 1) := by decide +kernel
theorem dX10_odds_32 : decode cX10_odds 32 = .ok (.putfield 22, 3) := by decide +kernel
theorem dX10_odds_35 : decode cX10_odds 35 = .ok (.aload_n 0, 1) := by decide +kernel
theorem dX10_odds_36 : decode cX10_odds 36 = .ok (.getfield 22, 3) := by decide +kernel
theorem dX10_odds_39 : decode cX10_odds 39 = .ok (.iconst 4, 1) := by decide +kernel
theorem dX10_odds_40 : decode cX10_odds 40 = .ok (.if_icmp .ge 35, 3) := by decide +kernel
theorem dX10_odds_43 : decode cX10_odds 43 = .ok (.iload 4, 2) := by decide +kernel
theorem dX10_odds_45 : decode cX10_odds 45 = .ok (.aload_n 0, 1) := by decide +kernel
theorem dX10_odds_46 : decode cX10_odds 46 = .ok (.iconst 0, 1) := by decide +kernel
theorem dX10_odds_47 : decode cX10_odds 47 = .ok (.invokevirtual 372, 3) := by decide +kernel
theorem dX10_odds_5 : decode cX10_odds 5 = .ok (.ifCond .eq 13, 3) := by decide +kernel
theorem dX10_odds_50 : decode cX10_odds 50 = .ok (.iload_n 1, 1) := by decide +kernel
theorem dX10_odds_51 : decode cX10_odds 51 = .ok (.if_icmp .gt 7, 3) := by decide +kernel
theorem dX10_odds_54 : decode cX10_odds 54 = .ok (.iconst 1, 1) := by decide +kernel
theorem dX10_odds_55 : decode cX10_odds 55 = .ok (.goto 4, 3) := by decide +kernel
theorem dX10_odds_59 : decode cX10_odds 59 = .ok (.iadd, 1) := by decide +kernel
theorem dX10_odds_60 : decode cX10_odds 60 = .ok (.istore 4, 2) := by decide +kernel
theorem dX10_odds_62 : decode cX10_odds 62 = .ok (.aload_n 0, 1) := by decide +kernel
theorem dX10_odds_63 : decode cX10_odds 63 = .ok (.dup, 1) := by decide +kernel
theorem dX10_odds_64 : decode cX10_odds 64 = .ok (.getfield 22, 3) := by decide +kernel
theorem dX10_odds_67 : decode cX10_odds 67 = .ok (.iconst 1, 1) := by decide +kernel
theorem dX10_odds_68 : decode cX10_odds 68 = .ok (.iadd, 1) := by decide +kernel
theorem dX10_odds_69 : decode cX10_odds 69 = .ok (.putfield 22, 3) := by decide +kernel
theorem dX10_odds_72 : decode cX10_odds 72 = .ok (.goto (-37), 3) := by decide +kernel
theorem dX10_odds_75 : decode cX10_odds 75 = .ok (.aload_n 0, 1) := by decide +kernel
theorem dX10_odds_76 : decode cX10_odds 76 = .ok (.iload_n 3, 1) := by decide +kernel
theorem dX10_odds_77 : decode cX10_odds 77 = .ok (.putfield 22, 3) := by decide +kernel
theorem dX10_odds_8 : decode cX10_odds 8 = .ok (.aload_n 0, 1) := by decide +kernel
theorem dX10_odds_80 : decode cX10_odds 80 = .ok (.aload_n 0, 1) := by decide +kernel
theorem dX10_odds_81 : decode cX10_odds 81 = .ok (.iload 4, 2) := by decide +kernel
theorem dX10_odds_83 : decode cX10_odds 83 = .ok (.iconst 4, 1) := by decide +kernel
theorem dX10_odds_84 : decode cX10_odds 84 = .ok (.iload_n 2, 1) := by decide +kernel
theorem dX10_odds_85 : decode cX10_odds 85 = .ok (.invokevirtual 395, 3) := by decide +kernel
theorem dX10_odds_88 : decode cX10_odds 88 = .ok (.lreturn, 1) := by decide +kernel
theorem dX10_odds_9 : decode cX10_odds 9 = .ok (.iload_n 2, 1) := by decide +kernel
theorem dX9_greatestShared_0 : decode cX9_greatestShared 0 = .ok (.iload_n 0, 1) := by decide +kernel
theorem dX9_greatestShared_1 : decode cX9_greatestShared 1 = .ok (.iconst 0, 1) := by decide +kernel
theorem dX9_greatestShared_10 : decode cX9_greatestShared 10 = .ok (.iload_n 2, 1) := by decide +kernel
theorem dX9_greatestShared_11 : decode cX9_greatestShared 11 = .ok (.iconst 1, 1) := by decide +kernel
theorem dX9_greatestShared_12 : decode cX9_greatestShared 12 = .ok (.if_icmp .le 23, 3) := by decide +kernel
theorem dX9_greatestShared_15 : decode cX9_greatestShared 15 = .ok (.iload_n 0, 1) := by decide +kernel
theorem dX9_greatestShared_16 : decode cX9_greatestShared 16 = .ok (.iload_n 2, 1) := by decide +kernel
theorem dX9_greatestShared_17 : decode cX9_greatestShared 17 = .ok (.irem, 1) := by decide +kernel
theorem dX9_greatestShared_18 : decode cX9_greatestShared 18 = .ok (.ifCond .ne 11, 3) := by decide +kernel
theorem dX9_greatestShared_2 : decode cX9_greatestShared 2 = .ok (.invokestatic 333, 3) := by decide +kernel
theorem dX9_greatestShared_21 : decode cX9_greatestShared 21 = .ok (.iload_n 1, 1) := by decide +kernel
theorem dX9_greatestShared_22 : decode cX9_greatestShared 22 = .ok (.iload_n 2, 1) := by decide +kernel
theorem dX9_greatestShared_23 : decode cX9_greatestShared 23 = .ok (.irem, 1) := by decide +kernel
theorem dX9_greatestShared_24 : decode cX9_greatestShared 24 = .ok (.ifCond .ne 5, 3) := by decide +kernel
theorem dX9_greatestShared_27 : decode cX9_greatestShared 27 = .ok (.iload_n 2, 1) := by decide +kernel
theorem dX9_greatestShared_28 : decode cX9_greatestShared 28 = .ok (.ireturn, 1) := by decide +kernel
theorem dX9_greatestShared_5 : decode cX9_greatestShared 5 = .ok (.iload_n 1, 1) := by decide +kernel
theorem dX9_greatestShared_6 : decode cX9_greatestShared 6 = .ok (.invokestatic 325, 3) := by decide +kernel
theorem dX9_greatestShared_9 : decode cX9_greatestShared 9 = .ok (.istore_n 2, 1) := by decide +kernel
theorem dX9_odds_0 : decode cX9_odds 0 = .ok (.iload_n 1, 1) := by decide +kernel
theorem dX9_odds_1 : decode cX9_odds 1 = .ok (.iconst 0, 1) := by decide +kernel
theorem dX9_odds_10 : decode cX9_odds 10 = .ok (.iload_n 2, 1) := by decide +kernel
theorem dX9_odds_11 : decode cX9_odds 11 = .ok (.iconst 0, 1) := by decide +kernel
theorem dX9_odds_12 : decode cX9_odds 12 = .ok (.iconst 1, 1) := by decide +kernel
theorem dX9_odds_13 : decode cX9_odds 13 = .ok (.invokestatic 68, 3) := by decide +kernel
theorem dX9_odds_16 : decode cX9_odds 16 = .ok (.ifCond .ne 7, 3) := by decide +kernel
theorem dX9_odds_19 : decode cX9_odds 19 = .ok (.ldc2_w 259, 3) := by decide +kernel
theorem dX9_odds_2 : decode cX9_odds 2 = .ok (.ldc 228, 2) := by decide +kernel
theorem dX9_odds_22 : decode cX9_odds 22 = .ok (.lreturn, 1) := by decide +kernel
theorem dX9_odds_23 : decode cX9_odds 23 = .ok (.aload_n 0, 1) := by decide +kernel
theorem dX9_odds_24 : decode cX9_odds 24 = .ok (.getfield 47, 3) := by decide +kernel
theorem dX9_odds_27 : decode cX9_odds 27 = .ok (.invokevirtual 127, 3) := by decide +kernel
theorem dX9_odds_30 : decode cX9_odds 30 = .ok (.aload_n 0, 1) := by decide +kernel
theorem dX9_odds_31 : decode cX9_odds 31 = .ok (.getfield 47, 3) := by decide +kernel
theorem dX9_odds_34 : decode cX9_odds 34 = .ok (.iconst 0, 1) := by decide +kernel
theorem dX9_odds_35 : decode cX9_odds 35 = .ok (.invokevirtual 199, 3) := by decide +kernel
theorem dX9_odds_38 : decode cX9_odds 38 = .ok (.pop, 1) := by decide +kernel
theorem dX9_odds_39 : decode cX9_odds 39 = .ok (.iconst 0, 1) := by decide +kernel
theorem dX9_odds_4 : decode cX9_odds 4 = .ok (.invokestatic 68, 3) := by decide +kernel
theorem dX9_odds_40 : decode cX9_odds 40 = .ok (.istore_n 3, 1) := by decide +kernel
theorem dX9_odds_41 : decode cX9_odds 41 = .ok (.iconst 0, 1) := by decide +kernel
theorem dX9_odds_42 : decode cX9_odds 42 = .ok (.istore 4, 2) := by decide +kernel
theorem dX9_odds_44 : decode cX9_odds 44 = .ok (.iload 4, 2) := by decide +kernel
theorem dX9_odds_46 : decode cX9_odds 46 = .ok (.iconst 4, 1) := by decide +kernel
theorem dX9_odds_47 : decode cX9_odds 47 = .ok (.if_icmp .ge 32, 3) := by decide +kernel
theorem dX9_odds_50 : decode cX9_odds 50 = .ok (.aload_n 0, 1) := by decide +kernel
theorem dX9_odds_51 : decode cX9_odds 51 = .ok (.getfield 47, 3) := by decide +kernel
theorem dX9_odds_54 : decode cX9_odds 54 = .ok (.iload 4, 2) := by decide +kernel
theorem dX9_odds_56 : decode cX9_odds 56 = .ok (.invokevirtual 244, 3) := by decide +kernel
theorem dX9_odds_59 : decode cX9_odds 59 = .ok (.aload_n 0, 1) := by decide +kernel
theorem dX9_odds_60 : decode cX9_odds 60 = .ok (.getfield 47, 3) := by decide +kernel
theorem dX9_odds_63 : decode cX9_odds 63 = .ok (.invokevirtual 202, 3) := by decide +kernel
theorem dX9_odds_66 : decode cX9_odds 66 = .ok (.iload_n 1, 1) := by decide +kernel
theorem dX9_odds_67 : decode cX9_odds 67 = .ok (.if_icmp .gt 6, 3) := by decide +kernel
theorem dX9_odds_7 : decode cX9_odds 7 = .ok (.ifCond .eq 12, 3) := by decide +kernel
theorem dX9_odds_70 : decode cX9_odds 70 = .ok (.iinc 3 1, 3) := by decide +kernel
theorem dX9_odds_73 : decode cX9_odds 73 = .ok (.iinc 4 1, 3) := by decide +kernel
theorem dX9_odds_76 : decode cX9_odds 76 = .ok (.goto (-32), 3) := by decide +kernel
theorem dX9_odds_79 : decode cX9_odds 79 = .ok (.iload_n 3, 1) := by decide +kernel
theorem dX9_odds_80 : decode cX9_odds 80 = .ok (.iconst 4, 1) := by decide +kernel
theorem dX9_odds_81 : decode cX9_odds 81 = .ok (.iload_n 2, 1) := by decide +kernel
theorem dX9_odds_82 : decode cX9_odds 82 = .ok (.invokestatic 261, 3) := by decide +kernel
theorem dX9_odds_85 : decode cX9_odds 85 = .ok (.lreturn, 1) := by decide +kernel
theorem dX9_partOf_0 : decode cX9_partOf 0 = .ok (.iload_n 0, 1) := by decide +kernel
theorem dX9_partOf_1 : decode cX9_partOf 1 = .ok (.iload_n 1, 1) := by decide +kernel
theorem dX9_partOf_10 : decode cX9_partOf 10 = .ok (.iload_n 0, 1) := by decide +kernel
theorem dX9_partOf_11 : decode cX9_partOf 11 = .ok (.iload_n 3, 1) := by decide +kernel
theorem dX9_partOf_12 : decode cX9_partOf 12 = .ok (.idiv, 1) := by decide +kernel
theorem dX9_partOf_13 : decode cX9_partOf 13 = .ok (.i2l, 1) := by decide +kernel
theorem dX9_partOf_14 : decode cX9_partOf 14 = .ok (.goto 7, 3) := by decide +kernel
theorem dX9_partOf_17 : decode cX9_partOf 17 = .ok (.iload_n 1, 1) := by decide +kernel
theorem dX9_partOf_18 : decode cX9_partOf 18 = .ok (.iload_n 3, 1) := by decide +kernel
theorem dX9_partOf_19 : decode cX9_partOf 19 = .ok (.idiv, 1) := by decide +kernel
theorem dX9_partOf_2 : decode cX9_partOf 2 = .ok (.invokestatic 330, 3) := by decide +kernel
theorem dX9_partOf_20 : decode cX9_partOf 20 = .ok (.i2l, 1) := by decide +kernel
theorem dX9_partOf_21 : decode cX9_partOf 21 = .ok (.lreturn, 1) := by decide +kernel
theorem dX9_partOf_5 : decode cX9_partOf 5 = .ok (.istore_n 3, 1) := by decide +kernel
theorem dX9_partOf_6 : decode cX9_partOf 6 = .ok (.iload_n 2, 1) := by decide +kernel
theorem dX9_partOf_7 : decode cX9_partOf 7 = .ok (.ifCond .ne 10, 3) := by decide +kernel
set_option maxHeartbeats 8000000 in
set_option maxRecDepth 100000 in
theorem zc_X10_from_0 (l : Launch) (D : va_G) (y : Nat → ClassId) (a0 : Nat) (w1 : Value) (w2 : Value) (w3 : Value) (w4 : Value) (w5 : Value) (w6 : Value) (w7 : Value) (w8 : Value) (w9 : Value) (w10 : Value) (w11 : Value) (a12 : Nat) (w13 : Value) (w14 : Value) (w15 : Value) (w16 : Value) (w17 : Value) (w18 : Value) (w19 : Value) (w20 : Value) (w21 : Value) (w22 : Value) (w23 : Value) (w24 : Value) (w25 : Value) (w26 : Value) (w27 : Value) (w28 : Value) (w29 : Value) (w30 : Value) (a31 : Nat) (w32 : Value) (w33 : Value) (w34 : Value) (w35 : Value) (w36 : Value) (w37 : Value) (w38 : Value) (w39 : Value) (w40 : Value) (w41 : Value) (w42 : Value) (w43 : Value) (w44 : Value) (w45 : Value) (w46 : Value) (w47 : Value) (w48 : Value) (w49 : Value) (w50 : Value) (w51 : Value) (w52 : Value) (w53 : Value) (w54 : Value) (w55 : Value) (w56 : Value) (w57 : Value) (w58 : Value) (w59 : Value) (w60 : Value) (w61 : Value) (w62 : Value) (w63 : Value) (w64 : Value) (w65 : Value) (w66 : Value) (w67 : Value) (w68 : Value) (w69 : Value) (w70 : Value) (w71 : Value) : zM l D y yX10_from (Cond.code yX10_from cX10_from 5 (some .int) :: zT) { frames := 4, cells := 0, slots := 0, locals := 86 } [.ref a0] [(a0, .inr (9, [.int 0, w1, w2, w3, .int 0, w4, w5, w6, w7, w8, w9, w10, w11, .ref a12, w13, .int (-1), w14, w15, w16, w17, w18, w19, w20, w21, w22, w23, w24, w25, w26, w27, w28, w29, .int 0, w30, .ref a31, w32, w33, w34, w35, w36, .int 0, w37, w38, w39, w40, w41, w42, w43, w44, w45, w46, w47, w48, w49, w50, w51, w52, w53, w54, w55, w56, w57, w58, w59, w60, w61, w62, w63, w64, w65, w66, w67, w68, w69, w70, w71])), (a12, .inl (y 2, 7, .inl (fun _ => 0))), (a31, .inl (y 0, 7, .inl (fun _ => 0)))] (zQi (S := Unit) D (fun r_ _ => r_ = 15) (fun _ => [])) := by
  refine zent (cc := cX10_from) (maxL := 5) (ret := (some .int)) (by decide) (Nat.le_of_ble_eq_true rfl) ?_
  intro p e s m below meth c A H locs ls hx hb hml hr ht hown hlocks hin hA hK hE hS hW hl
  have hown : s.vm.findClass RX10 = some m.cls := hown
  have hW : zPD D A [(a0, .inr (9, [.int 0, w1, w2, w3, .int 0, w4, w5, w6, w7, w8, w9, w10, w11, .ref a12, w13, .int (-1), w14, w15, w16, w17, w18, w19, w20, w21, w22, w23, w24, w25, w26, w27, w28, w29, .int 0, w30, .ref a31, w32, w33, w34, w35, w36, .int 0, w37, w38, w39, w40, w41, w42, w43, w44, w45, w46, w47, w48, w49, w50, w51, w52, w53, w54, w55, w56, w57, w58, w59, w60, w61, w62, w63, w64, w65, w66, w67, w68, w69, w70, w71])), (a12, .inl (y 2, 7, .inl (fun _ => 0))), (a31, .inl (y 0, 7, .inl (fun _ => 0)))] H := hW
  have hl : lv_has ls 5 [(0, .ref a0)] := hl
  refine lv_aload_n hx hb dX10_from_0 rfl (lv_at hl 0 rfl) ?_
  refine zget hx hb ht inlX10 hown hK hW 0 rfl rfl 4 (by decide) zm_144 rfl dX10_from_1 ?_
  refine lv_istore_n (lv' := [(1, .int 0), (0, .ref a0)]) hx hb dX10_from_4 rfl hl (by decide) rfl (fun ls hl => ?_)
  refine lv_iconst (v := 0) hx hb dX10_from_5 (by decide) ?_
  refine lv_istore_n (lv' := [(2, .int 0), (1, .int 0), (0, .ref a0)]) hx hb dX10_from_6 rfl hl (by decide) rfl (fun ls hl => ?_)
  refine lv_aload_n hx hb dX10_from_7 rfl (lv_at hl 2 rfl) ?_
  refine zgo_v (wr := []) (zrunV (As := []) (rest := []) ⟨hx, hb, hml, hown, ht⟩ (zc_X10_layOpen_0 l D y a0 (.int 0) w1 w2 w3 (.int 0) w4 w5 w6 w7 w8 w9 w10 w11 a12 w13 (.int (-1)) w14 w15 w16 w17 w18 w19 w20 w21 w22 w23 w24 w25 w26 w27 w28 w29 (.int 0) w30 a31 w32 w33 w34 w35 w36 (.int 0) w37 w38 w39 w40 w41 w42 w43 w44 w45 w46 w47 w48 w49 w50 w51 w52 w53 w54 w55 w56 w57 w58 w59 w60 w61 w62 w63 w64 w65 w66 w67 w68 w69 w70 w71) (cwV 0 ht (zgV zm_397 zm_398 zm_399 zm_5 zm_400) rfl rfl rfl (by decide +kernel) ⟨(Nat.le_of_ble_eq_true rfl), (Nat.le_of_ble_eq_true rfl)⟩) hK hE hS hA hW [0, 1, 2] (by decide) rfl 0 rfl rfl rfl rfl hl.1 rfl (Nat.le_of_ble_eq_true rfl) dX10_from_8 (Nat.le_of_ble_eq_true rfl) (Nat.le_of_ble_eq_true rfl)) hS hA hW [0, 1, 2] [] rfl rfl (by decide) (by decide) (fun u H locs hw hW hS => ?_)
  have hW : zPD D A [(a0, .inr (9, [.int 0, w1, w2, w3, .int 0, w4, w5, w6, w7, w8, w9, w10, w11, .ref a12, w13, .int (-1), w14, w15, w16, w17, w18, w19, w20, w21, w22, w23, w24, w25, w26, w27, w28, w29, .int 0, w30, .ref a31, w32, w33, w34, w35, w36, .int 0, w37, w38, w39, w40, w41, w42, w43, w44, w45, w46, w47, w48, w49, w50, w51, w52, w53, w54, w55, w56, w57, w58, w59, w60, w61, w62, w63, w64, w65, w66, w67, w68, w69, w70, w71])), (a12, .inl (y 2, 7, .inl (fun _ => 0))), (a31, .inl (y 0, 7, .inl (upd (upd (upd (upd (upd (upd (upd (fun _ => 0) 0 99999) 1 99999) 2 99999) 3 99999) 4 99999) 5 99999) 6 99999)))] H := hW
  refine lv_aload_n hx hb dX10_from_11 rfl (lv_at hl 2 rfl) ?_
  refine lv_iconst (v := 0) hx hb dX10_from_12 (by decide) ?_
  refine zput (ws' := [(a0, .inr (9, [.int 0, w1, w2, w3, .int 0, w4, w5, w6, w7, w8, w9, w10, w11, .ref a12, w13, .int (-1), w14, w15, w16, w17, w18, w19, w20, w21, w22, w23, w24, w25, w26, w27, w28, w29, .int 0, w30, .ref a31, w32, w33, w34, w35, w36, .int 0, w37, w38, w39, w40, w41, w42, w43, w44, w45, w46, w47, w48, w49, w50, w51, w52, w53, w54, w55, w56, w57, w58, w59, w60, w61, w62, w63, w64, w65, w66, w67, w68, w69, w70, w71])), (a12, .inl (y 2, 7, .inl (fun _ => 0))), (a31, .inl (y 0, 7, .inl (upd (upd (upd (upd (upd (upd (upd (fun _ => 0) 0 99999) 1 99999) 2 99999) 3 99999) 4 99999) 5 99999) 6 99999)))]) hx hb ht inlX10 tyX10 tyX10_ok nmX10 hown hK hS hW 0 rfl rfl 4 (by decide) zm_144 rfl rfl rfl (Nat.le_of_ble_eq_true rfl) rfl dX10_from_13 (fun H locs hW hS => ?_)
  refine lv_aload_n hx hb dX10_from_16 rfl (lv_at hl 2 rfl) ?_
  refine zget hx hb ht inlX10 hown hK hW 0 rfl rfl 4 (by decide) zm_144 rfl dX10_from_17 ?_
  refine lv_iconst (v := 4) hx hb dX10_from_20 (by decide) ?_
  refine lv_icmp_ge (tgt := 109) hx hb dX10_from_21 (by decide) (fun c2_ => absurd c2_ (by decide)) (fun c2_ => ?_)
  refine lv_aload_n hx hb dX10_from_24 rfl (lv_at hl 2 rfl) ?_
  refine zgo_v (wr := [(a12, .inl (y 2, 7, .inl (fun _ => 0))), (a31, .inl (y 0, 7, .inl (upd (upd (upd (upd (upd (upd (upd (fun _ => 0) 0 99999) 1 99999) 2 99999) 3 99999) 4 99999) 5 99999) 6 99999)))]) (zrunV (As := []) (rest := []) ⟨hx, hb, hml, hown, ht⟩ (zc_X10_layRain_0 l D y a0 w1 w2 w3 (.int 0) w4 w5 w6 w7 w8 w9 w10 w11 (.ref a12) w13 w14 w15 w16 w17 w18 w19 w20 w21 w22 w23 w24 w25 w26 w27 w28 w29 w30 (.ref a31) w32 w33 w34 w35 w36 (.int 0) w37 w38 w39 w40 w41 w42 w43 w44 w45 w46 w47 w48 w49 w50 w51 w52 w53 w54 w55 w56 w57 w58 w59 w60 w61 w62 w63 w64 w65 w66 w67 w68 w69 w70 w71) (cwV 0 ht (zgV zm_377 zm_378 zm_379 zm_5 zm_380) rfl rfl rfl (by decide +kernel) ⟨(Nat.le_of_ble_eq_true rfl), (Nat.le_of_ble_eq_true rfl)⟩) hK hE hS hA hW [0] (by decide) rfl 0 rfl rfl rfl rfl hl.1 rfl (Nat.le_of_ble_eq_true rfl) dX10_from_25 (Nat.le_of_ble_eq_true rfl) (Nat.le_of_ble_eq_true rfl)) hS hA hW [0] [1, 2] rfl rfl (by decide) (by decide) (fun u H locs hw hW hS => ?_)
  have hW : zPD D A [(a12, .inl (y 2, 7, .inl (fun _ => 0))), (a31, .inl (y 0, 7, .inl (upd (upd (upd (upd (upd (upd (upd (fun _ => 0) 0 99999) 1 99999) 2 99999) 3 99999) 4 99999) 5 99999) 6 99999))), (a0, .inr (9, [.int 0, w1, w2, w3, .int 0, w4, w5, w6, w7, w8, w9, w10, w11, .ref a12, w13, .int (-1), w14, w15, w16, w17, w18, w19, w20, w21, w22, w23, w24, w25, w26, w27, w28, w29, .int 0, w30, .ref a31, w32, w33, w34, w35, w36, .int 0, w37, w38, w39, w40, w41, w42, w43, w44, w45, w46, w47, w48, w49, w50, w51, w52, w53, w54, w55, w56, w57, w58, w59, w60, w61, w62, w63, w64, w65, w66, w67, w68, w69, w70, w71]))] H := hW
  refine lv_iconst (v := 1) hx hb dX10_from_28 (by decide) ?_
  refine lv_istore_n (lv' := [(3, .int 1), (2, .int 0), (1, .int 0), (0, .ref a0)]) hx hb dX10_from_29 rfl hl (by decide) rfl (fun ls hl => ?_)
  refine lv_iconst (v := 0) hx hb dX10_from_30 (by decide) ?_
  refine lv_istore (lv' := [(4, .int 0), (3, .int 1), (2, .int 0), (1, .int 0), (0, .ref a0)]) hx hb dX10_from_31 hl (by decide) rfl (fun ls hl => ?_)
  refine lv_iload hx hb dX10_from_33 (lv_at hl 0 rfl) ?_
  refine lv_aload_n hx hb dX10_from_35 rfl (lv_at hl 4 rfl) ?_
  refine zget hx hb ht inlX10 hown hK hW 2 rfl rfl 40 (by decide) zm_180 rfl dX10_from_36 ?_
  refine lv_icmp_ge (tgt := 79) hx hb dX10_from_39 (by decide) (fun c4_ => ?_) (fun c4_ => absurd (by decide) c4_)
  refine lv_iload_n hx hb dX10_from_79 rfl (lv_at hl 2 rfl) ?_
  refine lv_iload_n hx hb dX10_from_80 rfl (lv_at hl 1 rfl) ?_
  refine lv_if_eq (tgt := 93) hx hb dX10_from_81 (by decide) (fun c5_ => absurd c5_ (by decide)) (fun c5_ => ?_)
  refine lv_iconst (v := 1) hx hb dX10_from_84 (by decide) ?_
  refine lv_aload_n hx hb dX10_from_85 rfl (lv_at hl 4 rfl) ?_
  refine zget hx hb ht inlX10 hown hK hW 2 rfl rfl 4 (by decide) zm_144 rfl dX10_from_86 ?_
  refine lv_ishl hx hb dX10_from_89 ?_
  refine ztop (w := .int 1) (congrArg Value.int (by decide)) ?_
  refine lv_goto (tgt := 94) hx hb dX10_from_90 (by decide) ?_
  refine lv_ior hx hb dX10_from_94 ?_
  refine ztop (w := .int 1) (congrArg Value.int (by decide)) ?_
  refine lv_istore_n (lv' := [(2, .int 1), (4, .int 0), (3, .int 1), (1, .int 0), (0, .ref a0)]) hx hb dX10_from_95 rfl hl (by decide) rfl (fun ls hl => ?_)
  refine lv_aload_n hx hb dX10_from_96 rfl (lv_at hl 4 rfl) ?_
  refine lv_dup hx hb dX10_from_97 rfl ?_
  refine zget hx hb ht inlX10 hown hK hW 2 rfl rfl 4 (by decide) zm_144 rfl dX10_from_98 ?_
  refine lv_iconst (v := 1) hx hb dX10_from_101 (by decide) ?_
  refine lv_iadd hx hb dX10_from_102 ?_
  refine ztop (w := .int 1) (congrArg Value.int (by decide)) ?_
  refine zput (ws' := [(a12, .inl (y 2, 7, .inl (fun _ => 0))), (a31, .inl (y 0, 7, .inl (upd (upd (upd (upd (upd (upd (upd (fun _ => 0) 0 99999) 1 99999) 2 99999) 3 99999) 4 99999) 5 99999) 6 99999))), (a0, .inr (9, [.int 0, w1, w2, w3, .int 1, w4, w5, w6, w7, w8, w9, w10, w11, .ref a12, w13, .int (-1), w14, w15, w16, w17, w18, w19, w20, w21, w22, w23, w24, w25, w26, w27, w28, w29, .int 0, w30, .ref a31, w32, w33, w34, w35, w36, .int 0, w37, w38, w39, w40, w41, w42, w43, w44, w45, w46, w47, w48, w49, w50, w51, w52, w53, w54, w55, w56, w57, w58, w59, w60, w61, w62, w63, w64, w65, w66, w67, w68, w69, w70, w71]))]) hx hb ht inlX10 tyX10 tyX10_ok nmX10 hown hK hS hW 2 rfl rfl 4 (by decide) zm_144 rfl rfl rfl (Nat.le_of_ble_eq_true rfl) rfl dX10_from_103 (fun H locs hW hS => ?_)
  refine lv_goto (tgt := 16) hx hb dX10_from_106 (by decide) ?_
  refine lv_aload_n hx hb dX10_from_16 rfl (lv_at hl 4 rfl) ?_
  refine zget hx hb ht inlX10 hown hK hW 2 rfl rfl 4 (by decide) zm_144 rfl dX10_from_17 ?_
  refine lv_iconst (v := 4) hx hb dX10_from_20 (by decide) ?_
  refine lv_icmp_ge (tgt := 109) hx hb dX10_from_21 (by decide) (fun c6_ => absurd c6_ (by decide)) (fun c6_ => ?_)
  refine lv_aload_n hx hb dX10_from_24 rfl (lv_at hl 4 rfl) ?_
  refine zgo_v (wr := [(a12, .inl (y 2, 7, .inl (fun _ => 0))), (a31, .inl (y 0, 7, .inl (upd (upd (upd (upd (upd (upd (upd (fun _ => 0) 0 99999) 1 99999) 2 99999) 3 99999) 4 99999) 5 99999) 6 99999)))]) (zrunV (As := []) (rest := []) ⟨hx, hb, hml, hown, ht⟩ (zc_X10_layRain_0 l D y a0 w1 w2 w3 (.int 1) w4 w5 w6 w7 w8 w9 w10 w11 (.ref a12) w13 w14 w15 w16 w17 w18 w19 w20 w21 w22 w23 w24 w25 w26 w27 w28 w29 w30 (.ref a31) w32 w33 w34 w35 w36 (.int 0) w37 w38 w39 w40 w41 w42 w43 w44 w45 w46 w47 w48 w49 w50 w51 w52 w53 w54 w55 w56 w57 w58 w59 w60 w61 w62 w63 w64 w65 w66 w67 w68 w69 w70 w71) (cwV 0 ht (zgV zm_377 zm_378 zm_379 zm_5 zm_380) rfl rfl rfl (by decide +kernel) ⟨(Nat.le_of_ble_eq_true rfl), (Nat.le_of_ble_eq_true rfl)⟩) hK hE hS hA hW [2] (by decide) rfl 0 rfl rfl rfl rfl hl.1 rfl (Nat.le_of_ble_eq_true rfl) dX10_from_25 (Nat.le_of_ble_eq_true rfl) (Nat.le_of_ble_eq_true rfl)) hS hA hW [2] [0, 1] rfl rfl (by decide) (by decide) (fun u H locs hw hW hS => ?_)
  have hW : zPD D A [(a12, .inl (y 2, 7, .inl (fun _ => 0))), (a31, .inl (y 0, 7, .inl (upd (upd (upd (upd (upd (upd (upd (fun _ => 0) 0 99999) 1 99999) 2 99999) 3 99999) 4 99999) 5 99999) 6 99999))), (a0, .inr (9, [.int 0, w1, w2, w3, .int 1, w4, w5, w6, w7, w8, w9, w10, w11, .ref a12, w13, .int (-1), w14, w15, w16, w17, w18, w19, w20, w21, w22, w23, w24, w25, w26, w27, w28, w29, .int 0, w30, .ref a31, w32, w33, w34, w35, w36, .int 0, w37, w38, w39, w40, w41, w42, w43, w44, w45, w46, w47, w48, w49, w50, w51, w52, w53, w54, w55, w56, w57, w58, w59, w60, w61, w62, w63, w64, w65, w66, w67, w68, w69, w70, w71]))] H := hW
  refine lv_iconst (v := 1) hx hb dX10_from_28 (by decide) ?_
  refine lv_istore_n (lv' := [(3, .int 1), (2, .int 1), (4, .int 0), (1, .int 0), (0, .ref a0)]) hx hb dX10_from_29 rfl hl (by decide) rfl (fun ls hl => ?_)
  refine lv_iconst (v := 0) hx hb dX10_from_30 (by decide) ?_
  refine lv_istore (lv' := [(4, .int 0), (3, .int 1), (2, .int 1), (1, .int 0), (0, .ref a0)]) hx hb dX10_from_31 hl (by decide) rfl (fun ls hl => ?_)
  refine lv_iload hx hb dX10_from_33 (lv_at hl 0 rfl) ?_
  refine lv_aload_n hx hb dX10_from_35 rfl (lv_at hl 4 rfl) ?_
  refine zget hx hb ht inlX10 hown hK hW 2 rfl rfl 40 (by decide) zm_180 rfl dX10_from_36 ?_
  refine lv_icmp_ge (tgt := 79) hx hb dX10_from_39 (by decide) (fun c8_ => ?_) (fun c8_ => absurd (by decide) c8_)
  refine lv_iload_n hx hb dX10_from_79 rfl (lv_at hl 2 rfl) ?_
  refine lv_iload_n hx hb dX10_from_80 rfl (lv_at hl 1 rfl) ?_
  refine lv_if_eq (tgt := 93) hx hb dX10_from_81 (by decide) (fun c9_ => absurd c9_ (by decide)) (fun c9_ => ?_)
  refine lv_iconst (v := 1) hx hb dX10_from_84 (by decide) ?_
  refine lv_aload_n hx hb dX10_from_85 rfl (lv_at hl 4 rfl) ?_
  refine zget hx hb ht inlX10 hown hK hW 2 rfl rfl 4 (by decide) zm_144 rfl dX10_from_86 ?_
  refine lv_ishl hx hb dX10_from_89 ?_
  refine ztop (w := .int 2) (congrArg Value.int (by decide)) ?_
  refine lv_goto (tgt := 94) hx hb dX10_from_90 (by decide) ?_
  refine lv_ior hx hb dX10_from_94 ?_
  refine ztop (w := .int 3) (congrArg Value.int (by decide)) ?_
  refine lv_istore_n (lv' := [(2, .int 3), (4, .int 0), (3, .int 1), (1, .int 0), (0, .ref a0)]) hx hb dX10_from_95 rfl hl (by decide) rfl (fun ls hl => ?_)
  refine lv_aload_n hx hb dX10_from_96 rfl (lv_at hl 4 rfl) ?_
  refine lv_dup hx hb dX10_from_97 rfl ?_
  refine zget hx hb ht inlX10 hown hK hW 2 rfl rfl 4 (by decide) zm_144 rfl dX10_from_98 ?_
  refine lv_iconst (v := 1) hx hb dX10_from_101 (by decide) ?_
  refine lv_iadd hx hb dX10_from_102 ?_
  refine ztop (w := .int 2) (congrArg Value.int (by decide)) ?_
  refine zput (ws' := [(a12, .inl (y 2, 7, .inl (fun _ => 0))), (a31, .inl (y 0, 7, .inl (upd (upd (upd (upd (upd (upd (upd (fun _ => 0) 0 99999) 1 99999) 2 99999) 3 99999) 4 99999) 5 99999) 6 99999))), (a0, .inr (9, [.int 0, w1, w2, w3, .int 2, w4, w5, w6, w7, w8, w9, w10, w11, .ref a12, w13, .int (-1), w14, w15, w16, w17, w18, w19, w20, w21, w22, w23, w24, w25, w26, w27, w28, w29, .int 0, w30, .ref a31, w32, w33, w34, w35, w36, .int 0, w37, w38, w39, w40, w41, w42, w43, w44, w45, w46, w47, w48, w49, w50, w51, w52, w53, w54, w55, w56, w57, w58, w59, w60, w61, w62, w63, w64, w65, w66, w67, w68, w69, w70, w71]))]) hx hb ht inlX10 tyX10 tyX10_ok nmX10 hown hK hS hW 2 rfl rfl 4 (by decide) zm_144 rfl rfl rfl (Nat.le_of_ble_eq_true rfl) rfl dX10_from_103 (fun H locs hW hS => ?_)
  refine lv_goto (tgt := 16) hx hb dX10_from_106 (by decide) ?_
  refine lv_aload_n hx hb dX10_from_16 rfl (lv_at hl 4 rfl) ?_
  refine zget hx hb ht inlX10 hown hK hW 2 rfl rfl 4 (by decide) zm_144 rfl dX10_from_17 ?_
  refine lv_iconst (v := 4) hx hb dX10_from_20 (by decide) ?_
  refine lv_icmp_ge (tgt := 109) hx hb dX10_from_21 (by decide) (fun c10_ => absurd c10_ (by decide)) (fun c10_ => ?_)
  refine lv_aload_n hx hb dX10_from_24 rfl (lv_at hl 4 rfl) ?_
  refine zgo_v (wr := [(a12, .inl (y 2, 7, .inl (fun _ => 0))), (a31, .inl (y 0, 7, .inl (upd (upd (upd (upd (upd (upd (upd (fun _ => 0) 0 99999) 1 99999) 2 99999) 3 99999) 4 99999) 5 99999) 6 99999)))]) (zrunV (As := []) (rest := []) ⟨hx, hb, hml, hown, ht⟩ (zc_X10_layRain_0 l D y a0 w1 w2 w3 (.int 2) w4 w5 w6 w7 w8 w9 w10 w11 (.ref a12) w13 w14 w15 w16 w17 w18 w19 w20 w21 w22 w23 w24 w25 w26 w27 w28 w29 w30 (.ref a31) w32 w33 w34 w35 w36 (.int 0) w37 w38 w39 w40 w41 w42 w43 w44 w45 w46 w47 w48 w49 w50 w51 w52 w53 w54 w55 w56 w57 w58 w59 w60 w61 w62 w63 w64 w65 w66 w67 w68 w69 w70 w71) (cwV 0 ht (zgV zm_377 zm_378 zm_379 zm_5 zm_380) rfl rfl rfl (by decide +kernel) ⟨(Nat.le_of_ble_eq_true rfl), (Nat.le_of_ble_eq_true rfl)⟩) hK hE hS hA hW [2] (by decide) rfl 0 rfl rfl rfl rfl hl.1 rfl (Nat.le_of_ble_eq_true rfl) dX10_from_25 (Nat.le_of_ble_eq_true rfl) (Nat.le_of_ble_eq_true rfl)) hS hA hW [2] [0, 1] rfl rfl (by decide) (by decide) (fun u H locs hw hW hS => ?_)
  have hW : zPD D A [(a12, .inl (y 2, 7, .inl (fun _ => 0))), (a31, .inl (y 0, 7, .inl (upd (upd (upd (upd (upd (upd (upd (fun _ => 0) 0 99999) 1 99999) 2 99999) 3 99999) 4 99999) 5 99999) 6 99999))), (a0, .inr (9, [.int 0, w1, w2, w3, .int 2, w4, w5, w6, w7, w8, w9, w10, w11, .ref a12, w13, .int (-1), w14, w15, w16, w17, w18, w19, w20, w21, w22, w23, w24, w25, w26, w27, w28, w29, .int 0, w30, .ref a31, w32, w33, w34, w35, w36, .int 0, w37, w38, w39, w40, w41, w42, w43, w44, w45, w46, w47, w48, w49, w50, w51, w52, w53, w54, w55, w56, w57, w58, w59, w60, w61, w62, w63, w64, w65, w66, w67, w68, w69, w70, w71]))] H := hW
  refine lv_iconst (v := 1) hx hb dX10_from_28 (by decide) ?_
  refine lv_istore_n (lv' := [(3, .int 1), (2, .int 3), (4, .int 0), (1, .int 0), (0, .ref a0)]) hx hb dX10_from_29 rfl hl (by decide) rfl (fun ls hl => ?_)
  refine lv_iconst (v := 0) hx hb dX10_from_30 (by decide) ?_
  refine lv_istore (lv' := [(4, .int 0), (3, .int 1), (2, .int 3), (1, .int 0), (0, .ref a0)]) hx hb dX10_from_31 hl (by decide) rfl (fun ls hl => ?_)
  refine lv_iload hx hb dX10_from_33 (lv_at hl 0 rfl) ?_
  refine lv_aload_n hx hb dX10_from_35 rfl (lv_at hl 4 rfl) ?_
  refine zget hx hb ht inlX10 hown hK hW 2 rfl rfl 40 (by decide) zm_180 rfl dX10_from_36 ?_
  refine lv_icmp_ge (tgt := 79) hx hb dX10_from_39 (by decide) (fun c12_ => ?_) (fun c12_ => absurd (by decide) c12_)
  refine lv_iload_n hx hb dX10_from_79 rfl (lv_at hl 2 rfl) ?_
  refine lv_iload_n hx hb dX10_from_80 rfl (lv_at hl 1 rfl) ?_
  refine lv_if_eq (tgt := 93) hx hb dX10_from_81 (by decide) (fun c13_ => absurd c13_ (by decide)) (fun c13_ => ?_)
  refine lv_iconst (v := 1) hx hb dX10_from_84 (by decide) ?_
  refine lv_aload_n hx hb dX10_from_85 rfl (lv_at hl 4 rfl) ?_
  refine zget hx hb ht inlX10 hown hK hW 2 rfl rfl 4 (by decide) zm_144 rfl dX10_from_86 ?_
  refine lv_ishl hx hb dX10_from_89 ?_
  refine ztop (w := .int 4) (congrArg Value.int (by decide)) ?_
  refine lv_goto (tgt := 94) hx hb dX10_from_90 (by decide) ?_
  refine lv_ior hx hb dX10_from_94 ?_
  refine ztop (w := .int 7) (congrArg Value.int (by decide)) ?_
  refine lv_istore_n (lv' := [(2, .int 7), (4, .int 0), (3, .int 1), (1, .int 0), (0, .ref a0)]) hx hb dX10_from_95 rfl hl (by decide) rfl (fun ls hl => ?_)
  refine lv_aload_n hx hb dX10_from_96 rfl (lv_at hl 4 rfl) ?_
  refine lv_dup hx hb dX10_from_97 rfl ?_
  refine zget hx hb ht inlX10 hown hK hW 2 rfl rfl 4 (by decide) zm_144 rfl dX10_from_98 ?_
  refine lv_iconst (v := 1) hx hb dX10_from_101 (by decide) ?_
  refine lv_iadd hx hb dX10_from_102 ?_
  refine ztop (w := .int 3) (congrArg Value.int (by decide)) ?_
  refine zput (ws' := [(a12, .inl (y 2, 7, .inl (fun _ => 0))), (a31, .inl (y 0, 7, .inl (upd (upd (upd (upd (upd (upd (upd (fun _ => 0) 0 99999) 1 99999) 2 99999) 3 99999) 4 99999) 5 99999) 6 99999))), (a0, .inr (9, [.int 0, w1, w2, w3, .int 3, w4, w5, w6, w7, w8, w9, w10, w11, .ref a12, w13, .int (-1), w14, w15, w16, w17, w18, w19, w20, w21, w22, w23, w24, w25, w26, w27, w28, w29, .int 0, w30, .ref a31, w32, w33, w34, w35, w36, .int 0, w37, w38, w39, w40, w41, w42, w43, w44, w45, w46, w47, w48, w49, w50, w51, w52, w53, w54, w55, w56, w57, w58, w59, w60, w61, w62, w63, w64, w65, w66, w67, w68, w69, w70, w71]))]) hx hb ht inlX10 tyX10 tyX10_ok nmX10 hown hK hS hW 2 rfl rfl 4 (by decide) zm_144 rfl rfl rfl (Nat.le_of_ble_eq_true rfl) rfl dX10_from_103 (fun H locs hW hS => ?_)
  refine lv_goto (tgt := 16) hx hb dX10_from_106 (by decide) ?_
  refine lv_aload_n hx hb dX10_from_16 rfl (lv_at hl 4 rfl) ?_
  refine zget hx hb ht inlX10 hown hK hW 2 rfl rfl 4 (by decide) zm_144 rfl dX10_from_17 ?_
  refine lv_iconst (v := 4) hx hb dX10_from_20 (by decide) ?_
  refine lv_icmp_ge (tgt := 109) hx hb dX10_from_21 (by decide) (fun c14_ => absurd c14_ (by decide)) (fun c14_ => ?_)
  refine lv_aload_n hx hb dX10_from_24 rfl (lv_at hl 4 rfl) ?_
  refine zgo_v (wr := [(a12, .inl (y 2, 7, .inl (fun _ => 0))), (a31, .inl (y 0, 7, .inl (upd (upd (upd (upd (upd (upd (upd (fun _ => 0) 0 99999) 1 99999) 2 99999) 3 99999) 4 99999) 5 99999) 6 99999)))]) (zrunV (As := []) (rest := []) ⟨hx, hb, hml, hown, ht⟩ (zc_X10_layRain_0 l D y a0 w1 w2 w3 (.int 3) w4 w5 w6 w7 w8 w9 w10 w11 (.ref a12) w13 w14 w15 w16 w17 w18 w19 w20 w21 w22 w23 w24 w25 w26 w27 w28 w29 w30 (.ref a31) w32 w33 w34 w35 w36 (.int 0) w37 w38 w39 w40 w41 w42 w43 w44 w45 w46 w47 w48 w49 w50 w51 w52 w53 w54 w55 w56 w57 w58 w59 w60 w61 w62 w63 w64 w65 w66 w67 w68 w69 w70 w71) (cwV 0 ht (zgV zm_377 zm_378 zm_379 zm_5 zm_380) rfl rfl rfl (by decide +kernel) ⟨(Nat.le_of_ble_eq_true rfl), (Nat.le_of_ble_eq_true rfl)⟩) hK hE hS hA hW [2] (by decide) rfl 0 rfl rfl rfl rfl hl.1 rfl (Nat.le_of_ble_eq_true rfl) dX10_from_25 (Nat.le_of_ble_eq_true rfl) (Nat.le_of_ble_eq_true rfl)) hS hA hW [2] [0, 1] rfl rfl (by decide) (by decide) (fun u H locs hw hW hS => ?_)
  have hW : zPD D A [(a12, .inl (y 2, 7, .inl (fun _ => 0))), (a31, .inl (y 0, 7, .inl (upd (upd (upd (upd (upd (upd (upd (fun _ => 0) 0 99999) 1 99999) 2 99999) 3 99999) 4 99999) 5 99999) 6 99999))), (a0, .inr (9, [.int 0, w1, w2, w3, .int 3, w4, w5, w6, w7, w8, w9, w10, w11, .ref a12, w13, .int (-1), w14, w15, w16, w17, w18, w19, w20, w21, w22, w23, w24, w25, w26, w27, w28, w29, .int 0, w30, .ref a31, w32, w33, w34, w35, w36, .int 0, w37, w38, w39, w40, w41, w42, w43, w44, w45, w46, w47, w48, w49, w50, w51, w52, w53, w54, w55, w56, w57, w58, w59, w60, w61, w62, w63, w64, w65, w66, w67, w68, w69, w70, w71]))] H := hW
  refine lv_iconst (v := 1) hx hb dX10_from_28 (by decide) ?_
  refine lv_istore_n (lv' := [(3, .int 1), (2, .int 7), (4, .int 0), (1, .int 0), (0, .ref a0)]) hx hb dX10_from_29 rfl hl (by decide) rfl (fun ls hl => ?_)
  refine lv_iconst (v := 0) hx hb dX10_from_30 (by decide) ?_
  refine lv_istore (lv' := [(4, .int 0), (3, .int 1), (2, .int 7), (1, .int 0), (0, .ref a0)]) hx hb dX10_from_31 hl (by decide) rfl (fun ls hl => ?_)
  refine lv_iload hx hb dX10_from_33 (lv_at hl 0 rfl) ?_
  refine lv_aload_n hx hb dX10_from_35 rfl (lv_at hl 4 rfl) ?_
  refine zget hx hb ht inlX10 hown hK hW 2 rfl rfl 40 (by decide) zm_180 rfl dX10_from_36 ?_
  refine lv_icmp_ge (tgt := 79) hx hb dX10_from_39 (by decide) (fun c16_ => ?_) (fun c16_ => absurd (by decide) c16_)
  refine lv_iload_n hx hb dX10_from_79 rfl (lv_at hl 2 rfl) ?_
  refine lv_iload_n hx hb dX10_from_80 rfl (lv_at hl 1 rfl) ?_
  refine lv_if_eq (tgt := 93) hx hb dX10_from_81 (by decide) (fun c17_ => absurd c17_ (by decide)) (fun c17_ => ?_)
  refine lv_iconst (v := 1) hx hb dX10_from_84 (by decide) ?_
  refine lv_aload_n hx hb dX10_from_85 rfl (lv_at hl 4 rfl) ?_
  refine zget hx hb ht inlX10 hown hK hW 2 rfl rfl 4 (by decide) zm_144 rfl dX10_from_86 ?_
  refine lv_ishl hx hb dX10_from_89 ?_
  refine ztop (w := .int 8) (congrArg Value.int (by decide)) ?_
  refine lv_goto (tgt := 94) hx hb dX10_from_90 (by decide) ?_
  refine lv_ior hx hb dX10_from_94 ?_
  refine ztop (w := .int 15) (congrArg Value.int (by decide)) ?_
  refine lv_istore_n (lv' := [(2, .int 15), (4, .int 0), (3, .int 1), (1, .int 0), (0, .ref a0)]) hx hb dX10_from_95 rfl hl (by decide) rfl (fun ls hl => ?_)
  refine lv_aload_n hx hb dX10_from_96 rfl (lv_at hl 4 rfl) ?_
  refine lv_dup hx hb dX10_from_97 rfl ?_
  refine zget hx hb ht inlX10 hown hK hW 2 rfl rfl 4 (by decide) zm_144 rfl dX10_from_98 ?_
  refine lv_iconst (v := 1) hx hb dX10_from_101 (by decide) ?_
  refine lv_iadd hx hb dX10_from_102 ?_
  refine ztop (w := .int 4) (congrArg Value.int (by decide)) ?_
  refine zput (ws' := [(a12, .inl (y 2, 7, .inl (fun _ => 0))), (a31, .inl (y 0, 7, .inl (upd (upd (upd (upd (upd (upd (upd (fun _ => 0) 0 99999) 1 99999) 2 99999) 3 99999) 4 99999) 5 99999) 6 99999))), (a0, .inr (9, [.int 0, w1, w2, w3, .int 4, w4, w5, w6, w7, w8, w9, w10, w11, .ref a12, w13, .int (-1), w14, w15, w16, w17, w18, w19, w20, w21, w22, w23, w24, w25, w26, w27, w28, w29, .int 0, w30, .ref a31, w32, w33, w34, w35, w36, .int 0, w37, w38, w39, w40, w41, w42, w43, w44, w45, w46, w47, w48, w49, w50, w51, w52, w53, w54, w55, w56, w57, w58, w59, w60, w61, w62, w63, w64, w65, w66, w67, w68, w69, w70, w71]))]) hx hb ht inlX10 tyX10 tyX10_ok nmX10 hown hK hS hW 2 rfl rfl 4 (by decide) zm_144 rfl rfl rfl (Nat.le_of_ble_eq_true rfl) rfl dX10_from_103 (fun H locs hW hS => ?_)
  refine lv_goto (tgt := 16) hx hb dX10_from_106 (by decide) ?_
  refine lv_aload_n hx hb dX10_from_16 rfl (lv_at hl 4 rfl) ?_
  refine zget hx hb ht inlX10 hown hK hW 2 rfl rfl 4 (by decide) zm_144 rfl dX10_from_17 ?_
  refine lv_iconst (v := 4) hx hb dX10_from_20 (by decide) ?_
  refine lv_icmp_ge (tgt := 109) hx hb dX10_from_21 (by decide) (fun c18_ => ?_) (fun c18_ => absurd (by decide) c18_)
  refine lv_aload_n hx hb dX10_from_109 rfl (lv_at hl 4 rfl) ?_
  refine lv_iload_n hx hb dX10_from_110 rfl (lv_at hl 3 rfl) ?_
  refine zput (ws' := [(a12, .inl (y 2, 7, .inl (fun _ => 0))), (a31, .inl (y 0, 7, .inl (upd (upd (upd (upd (upd (upd (upd (fun _ => 0) 0 99999) 1 99999) 2 99999) 3 99999) 4 99999) 5 99999) 6 99999))), (a0, .inr (9, [.int 0, w1, w2, w3, .int 0, w4, w5, w6, w7, w8, w9, w10, w11, .ref a12, w13, .int (-1), w14, w15, w16, w17, w18, w19, w20, w21, w22, w23, w24, w25, w26, w27, w28, w29, .int 0, w30, .ref a31, w32, w33, w34, w35, w36, .int 0, w37, w38, w39, w40, w41, w42, w43, w44, w45, w46, w47, w48, w49, w50, w51, w52, w53, w54, w55, w56, w57, w58, w59, w60, w61, w62, w63, w64, w65, w66, w67, w68, w69, w70, w71]))]) hx hb ht inlX10 tyX10 tyX10_ok nmX10 hown hK hS hW 2 rfl rfl 4 (by decide) zm_144 rfl rfl rfl (Nat.le_of_ble_eq_true rfl) rfl dX10_from_111 (fun H locs hW hS => ?_)
  refine lv_iload_n hx hb dX10_from_114 rfl (lv_at hl 0 rfl) ?_
  exact zret_i (v := 15) hx hb hr hlocks hS () rfl (hW.sub [] (by decide) rfl) (Nat.le_of_ble_eq_true rfl) (Nat.le_of_ble_eq_true rfl) dX10_from_115
set_option maxHeartbeats 8000000 in
set_option maxRecDepth 100000 in
theorem zc_X9_greatestShared_0 (l : Launch) (D : va_G) (y : Nat → ClassId) : zM l D y yX9_greatestShared (Cond.code yX9_greatestShared cX9_greatestShared 3 (some .int) :: zT) { frames := 1, cells := 0, slots := 0, locals := 21 } [.int 4, .int 4] [] (zQi (S := Unit) D (fun r_ _ => r_ = 4) (fun _ => [])) := by
  refine zent (cc := cX9_greatestShared) (maxL := 3) (ret := (some .int)) (by decide) (Nat.le_of_ble_eq_true rfl) ?_
  intro p e s m below meth c A H locs ls hx hb hml hr ht hown hlocks hin hA hK hE hS hW hl
  have hown : s.vm.findClass RX9 = some m.cls := hown
  have hW : zPD D A [] H := hW
  have hl : lv_has ls 3 [(0, .int 4), (1, .int 4)] := hl
  refine lv_iload_n hx hb dX9_greatestShared_0 rfl (lv_at hl 0 rfl) ?_
  refine lv_iconst (v := 0) hx hb dX9_greatestShared_1 (by decide) ?_
  refine va_mmax hx hb (by rw [hml]; exact hl.1.symm) hown (ht _ zm_1039) (ht _ zm_90) (ht _ zm_91) (ht _ zm_92) (Nat.le_of_ble_eq_true rfl) (Nat.le_of_ble_eq_true rfl) (Nat.le_of_ble_eq_true rfl) (Nat.le_of_ble_eq_true rfl) dX9_greatestShared_2 ?_
  refine ztop (w := .int 4) (congrArg Value.int (by decide)) ?_
  refine lv_iload_n hx hb dX9_greatestShared_5 rfl (lv_at hl 1 rfl) ?_
  refine va_mmin hx hb (by rw [hml]; exact hl.1.symm) hown (ht _ zm_731) (ht _ zm_297) (ht _ zm_91) (ht _ zm_298) (Nat.le_of_ble_eq_true rfl) (Nat.le_of_ble_eq_true rfl) (Nat.le_of_ble_eq_true rfl) (Nat.le_of_ble_eq_true rfl) dX9_greatestShared_6 ?_
  refine ztop (w := .int 4) (congrArg Value.int (by decide)) ?_
  refine lv_istore_n (lv' := [(2, .int 4), (0, .int 4), (1, .int 4)]) hx hb dX9_greatestShared_9 rfl hl (by decide) rfl (fun ls hl => ?_)
  refine lv_iload_n hx hb dX9_greatestShared_10 rfl (lv_at hl 0 rfl) ?_
  refine lv_iconst (v := 1) hx hb dX9_greatestShared_11 (by decide) ?_
  refine lv_icmp_le (tgt := 35) hx hb dX9_greatestShared_12 (by decide) (fun c1_ => absurd c1_ (by decide)) (fun c1_ => ?_)
  refine lv_iload_n hx hb dX9_greatestShared_15 rfl (lv_at hl 1 rfl) ?_
  refine lv_iload_n hx hb dX9_greatestShared_16 rfl (lv_at hl 0 rfl) ?_
  refine lv_irem hx hb dX9_greatestShared_17 (by decide) ?_
  refine ztop (w := .int 0) (congrArg Value.int (by decide)) ?_
  refine lv_if_ne (tgt := 29) hx hb dX9_greatestShared_18 (by decide) (fun c2_ => absurd (by decide) c2_) (fun c2_ => ?_)
  refine lv_iload_n hx hb dX9_greatestShared_21 rfl (lv_at hl 2 rfl) ?_
  refine lv_iload_n hx hb dX9_greatestShared_22 rfl (lv_at hl 0 rfl) ?_
  refine lv_irem hx hb dX9_greatestShared_23 (by decide) ?_
  refine ztop (w := .int 0) (congrArg Value.int (by decide)) ?_
  refine lv_if_ne (tgt := 29) hx hb dX9_greatestShared_24 (by decide) (fun c3_ => absurd (by decide) c3_) (fun c3_ => ?_)
  refine lv_iload_n hx hb dX9_greatestShared_27 rfl (lv_at hl 0 rfl) ?_
  exact zret_i (v := 4) hx hb hr hlocks hS () rfl hW (Nat.le_of_ble_eq_true rfl) (Nat.le_of_ble_eq_true rfl) dX9_greatestShared_28
set_option maxHeartbeats 8000000 in
set_option maxRecDepth 100000 in
theorem zc_X9_partOf_0 (l : Launch) (D : va_G) (y : Nat → ClassId) (p0 : Int32) : zM l D y yX9_partOf (Cond.code yX9_partOf cX9_partOf 4 (some .long) :: zT) { frames := 2, cells := 0, slots := 0, locals := 43 } [.int 4, .int 4, .int p0] [] (zQl (S := Unit) D (fun r_ _ => r_ = 1) (fun _ => [])) := by
  refine zent (cc := cX9_partOf) (maxL := 4) (ret := (some .long)) (by decide) (Nat.le_of_ble_eq_true rfl) ?_
  intro p e s m below meth c A H locs ls hx hb hml hr ht hown hlocks hin hA hK hE hS hW hl
  have hown : s.vm.findClass RX9 = some m.cls := hown
  have hW : zPD D A [] H := hW
  have hl : lv_has ls 4 [(0, .int 4), (1, .int 4), (2, .int p0)] := hl
  refine lv_iload_n hx hb dX9_partOf_0 rfl (lv_at hl 0 rfl) ?_
  refine lv_iload_n hx hb dX9_partOf_1 rfl (lv_at hl 1 rfl) ?_
  refine zgo0_i (zrunS (As := [.int 4, .int 4]) (rest := []) ⟨hx, hb, hml, hown, ht⟩ (zc_X9_greatestShared_0 l D y) (va_cwS 2 ht (zgS zm_1036 zm_1037 zm_2 zm_1038) rfl rfl rfl (by decide +kernel) ⟨(Nat.le_of_ble_eq_true rfl), (Nat.le_of_ble_eq_true rfl)⟩) hK hE hS hA hW [] (by decide) rfl rfl hl.1 rfl (Nat.le_of_ble_eq_true rfl) dX9_partOf_2 (Nat.le_of_ble_eq_true rfl) (Nat.le_of_ble_eq_true rfl)) hS hA hW (fun r1_ u H locs hw hW hS => ?_)
  have hw : r1_ = 4 := hw
  subst hw
  refine lv_istore_n (lv' := [(3, .int 4), (0, .int 4), (1, .int 4), (2, .int p0)]) hx hb dX9_partOf_5 rfl hl (by decide) rfl (fun ls hl => ?_)
  refine lv_iload_n hx hb dX9_partOf_6 rfl (lv_at hl 3 rfl) ?_
  refine lv_if_ne (tgt := 17) hx hb dX9_partOf_7 (by decide) (fun c2_ => ?_) (fun c2_ => ?_)
  · have b3_ : (-2147483648) ≤ Int32.toInt p0 ∧ Int32.toInt p0 ≤ 2147483647 := (by have u0 := zbnd p0; have u1 := (not_congr (zi_eq _ _)).mp c2_; have u2 : (0 : Int32).toInt = 0 := (by decide); omega)
    refine lv_iload_n hx hb dX9_partOf_17 rfl (lv_at hl 2 rfl) ?_
    refine lv_iload_n hx hb dX9_partOf_18 rfl (lv_at hl 0 rfl) ?_
    refine lv_idiv hx hb dX9_partOf_19 (by decide) ?_
    refine ztop (w := .int 1) (congrArg Value.int (by decide)) ?_
    refine lv_i2l (v := 1) hx hb dX9_partOf_20 (by decide) ?_
    exact zret_l (v := 1) hx hb hr hlocks hS () rfl hW (Nat.le_of_ble_eq_true rfl) (Nat.le_of_ble_eq_true rfl) dX9_partOf_21
  · have b4_ : 0 ≤ Int32.toInt p0 ∧ Int32.toInt p0 ≤ 0 := (by have u0 := zbnd p0; have u1 := (zi_eq _ _).mp c2_; have u2 : (0 : Int32).toInt = 0 := (by decide); omega)
    refine lv_iload_n hx hb dX9_partOf_10 rfl (lv_at hl 1 rfl) ?_
    refine lv_iload_n hx hb dX9_partOf_11 rfl (lv_at hl 0 rfl) ?_
    refine lv_idiv hx hb dX9_partOf_12 (by decide) ?_
    refine ztop (w := .int 1) (congrArg Value.int (by decide)) ?_
    refine lv_i2l (v := 1) hx hb dX9_partOf_13 (by decide) ?_
    refine lv_goto (tgt := 21) hx hb dX9_partOf_14 (by decide) ?_
    exact zret_l (v := 1) hx hb hr hlocks hS () rfl hW (Nat.le_of_ble_eq_true rfl) (Nat.le_of_ble_eq_true rfl) dX9_partOf_21
set_option maxHeartbeats 8000000 in
set_option maxRecDepth 100000 in
theorem zc_X9_odds_0 (l : Launch) (D : va_G) (y : Nat → ClassId) (a0 : Nat) (p1 : Int32) (p2 : Int32) (w3 : Value) (w4 : Value) (w5 : Value) (w6 : Value) (w7 : Value) (w8 : Value) (a9 : Nat) (w10 : Value) (w11 : Value) (a12 : Nat) (w13 : Value) (w14 : Value) (w15 : Value) (w16 : Value) (w17 : Value) (a18 : Nat) (w19 : Value) (w20 : Value) (a21 : Nat) (a22 : Nat) (w23 : Value) (w24 : Value) (w25 : Value) (w26 : Value) (w27 : Value) (w28 : Value) (w29 : Value) (w30 : Value) (w31 : Value) (w32 : Value) (w33 : Value) : zM l D y yX9_odds (Cond.code yX9_odds cX9_odds 5 (some .long) :: zT) { frames := 3, cells := 0, slots := 0, locals := 66 } [.ref a0, .int p1, .int p2] [(a0, .inr (8, [w3, w4, w5, w6, w7, w8, .ref a9, w10, w11])), (a9, .inr (1, [.ref a12, .int 0, .int 0, w13, w14, w15, w16, w17, .ref a18])), (a12, .inr (6, [w19, .int 0, .int 20, .int 0, .int 0, w20, .int 0, .int 0, .ref a21, .ref a22, w23, w24])), (a18, .inl (y 2, 4, .inl (fun _ => 0))), (a21, .inr (2, [w25, .int 15, w26, w27, w28, w29, w30, w31])), (a22, .inr (5, [.int 0, w32, w33]))] (zQl (S := Unit) D (fun r_ _ => r_ = (if p1 < 0 then (-9223372036854775808) else (if 99999 < p1 then (-9223372036854775808) else (if p2 < 0 then (-9223372036854775808) else (if 1 < p2 then (-9223372036854775808) else 1))))) (fun _ => [])) := by
  refine zent (cc := cX9_odds) (maxL := 5) (ret := (some .long)) (by decide) (Nat.le_of_ble_eq_true rfl) ?_
  intro p e s m below meth c A H locs ls hx hb hml hr ht hown hlocks hin hA hK hE hS hW hl
  have hown : s.vm.findClass RX9 = some m.cls := hown
  have hW : zPD D A [(a0, .inr (8, [w3, w4, w5, w6, w7, w8, .ref a9, w10, w11])), (a9, .inr (1, [.ref a12, .int 0, .int 0, w13, w14, w15, w16, w17, .ref a18])), (a12, .inr (6, [w19, .int 0, .int 20, .int 0, .int 0, w20, .int 0, .int 0, .ref a21, .ref a22, w23, w24])), (a18, .inl (y 2, 4, .inl (fun _ => 0))), (a21, .inr (2, [w25, .int 15, w26, w27, w28, w29, w30, w31])), (a22, .inr (5, [.int 0, w32, w33]))] H := hW
  have hl : lv_has ls 5 [(0, .ref a0), (1, .int p1), (2, .int p2)] := hl
  refine lv_iload_n hx hb dX9_odds_0 rfl (lv_at hl 1 rfl) ?_
  refine lv_iconst (v := 0) hx hb dX9_odds_1 (by decide) ?_
  refine lv_ldc (v := 99999) hx hb hown (ht _ zm_927) dX9_odds_2 ?_
  refine zgo0_i (zrunS (As := [.int p1, .int 0, .int 99999]) (rest := []) ⟨hx, hb, hml, hown, ht⟩ (zc_X9_within_9 l D y p1) (va_cwS 3 ht (zgS zm_222 zm_223 zm_2 zm_224) rfl rfl rfl (by decide +kernel) ⟨(Nat.le_of_ble_eq_true rfl), (Nat.le_of_ble_eq_true rfl)⟩) hK hE hS hA hW [] (by decide) rfl rfl hl.1 rfl (Nat.le_of_ble_eq_true rfl) dX9_odds_4 (Nat.le_of_ble_eq_true rfl) (Nat.le_of_ble_eq_true rfl)) hS hA hW (fun r1_ u H locs hw hW hS => ?_)
  have hw : r1_ = (if p1 < 0 then 0 else (if 99999 < p1 then 0 else 1)) := hw
  by_cases c2_ : p1 < 0
  · have b3_ : (-2147483648) ≤ Int32.toInt p1 ∧ Int32.toInt p1 ≤ (-1) := (by have u0 := zbnd p1; have u1 := (zi_lt _ _).mp c2_; have u2 : (0 : Int32).toInt = 0 := (by decide); omega)
    rw [if_pos c2_] at hw
    subst hw
    refine lv_if_eq (tgt := 19) hx hb dX9_odds_7 (by decide) (fun c4_ => ?_) (fun c4_ => absurd (by decide) c4_)
    refine lv_ldc2 (v := (-9223372036854775808)) hx hb hown (ht _ zm_1032) dX9_odds_19 ?_
    exact zret_l (v := (-9223372036854775808)) hx hb hr hlocks hS () (by show _ = _; rw [if_pos c2_]) (hW.sub [] (by decide) rfl) (Nat.le_of_ble_eq_true rfl) (Nat.le_of_ble_eq_true rfl) dX9_odds_22
  · have b5_ : 0 ≤ Int32.toInt p1 ∧ Int32.toInt p1 ≤ 2147483647 := (by have u0 := zbnd p1; have u1 := (not_congr (zi_lt _ _)).mp c2_; have u2 : (0 : Int32).toInt = 0 := (by decide); omega)
    rw [if_neg c2_] at hw
    by_cases c6_ : 99999 < p1
    · have b7_ : 100000 ≤ Int32.toInt p1 ∧ Int32.toInt p1 ≤ 2147483647 := (by have u0 := b5_; have u1 := (zi_lt _ _).mp c6_; have u2 : (99999 : Int32).toInt = 99999 := (by decide); omega)
      rw [if_pos c6_] at hw
      subst hw
      refine lv_if_eq (tgt := 19) hx hb dX9_odds_7 (by decide) (fun c8_ => ?_) (fun c8_ => absurd (by decide) c8_)
      refine lv_ldc2 (v := (-9223372036854775808)) hx hb hown (ht _ zm_1032) dX9_odds_19 ?_
      exact zret_l (v := (-9223372036854775808)) hx hb hr hlocks hS () (by show _ = _; rw [if_neg c2_, if_pos c6_]) (hW.sub [] (by decide) rfl) (Nat.le_of_ble_eq_true rfl) (Nat.le_of_ble_eq_true rfl) dX9_odds_22
    · have b9_ : 0 ≤ Int32.toInt p1 ∧ Int32.toInt p1 ≤ 99999 := (by have u0 := b5_; have u1 := (not_congr (zi_lt _ _)).mp c6_; have u2 : (99999 : Int32).toInt = 99999 := (by decide); omega)
      rw [if_neg c6_] at hw
      subst hw
      refine lv_if_eq (tgt := 19) hx hb dX9_odds_7 (by decide) (fun c10_ => absurd c10_ (by decide)) (fun c10_ => ?_)
      refine lv_iload_n hx hb dX9_odds_10 rfl (lv_at hl 2 rfl) ?_
      refine lv_iconst (v := 0) hx hb dX9_odds_11 (by decide) ?_
      refine lv_iconst (v := 1) hx hb dX9_odds_12 (by decide) ?_
      refine zgo0_i (zrunS (As := [.int p2, .int 0, .int 1]) (rest := []) ⟨hx, hb, hml, hown, ht⟩ (zc_X9_within_10 l D y p2) (va_cwS 3 ht (zgS zm_222 zm_223 zm_2 zm_224) rfl rfl rfl (by decide +kernel) ⟨(Nat.le_of_ble_eq_true rfl), (Nat.le_of_ble_eq_true rfl)⟩) hK hE hS hA hW [] (by decide) rfl rfl hl.1 rfl (Nat.le_of_ble_eq_true rfl) dX9_odds_13 (Nat.le_of_ble_eq_true rfl) (Nat.le_of_ble_eq_true rfl)) hS hA hW (fun r11_ u H locs hw hW hS => ?_)
      have hw : r11_ = (if p2 < 0 then 0 else (if 1 < p2 then 0 else 1)) := hw
      by_cases c12_ : p2 < 0
      · have b13_ : (-2147483648) ≤ Int32.toInt p2 ∧ Int32.toInt p2 ≤ (-1) := (by have u0 := zbnd p2; have u1 := (zi_lt _ _).mp c12_; have u2 : (0 : Int32).toInt = 0 := (by decide); omega)
        rw [if_pos c12_] at hw
        subst hw
        refine lv_if_ne (tgt := 23) hx hb dX9_odds_16 (by decide) (fun c14_ => absurd (by decide) c14_) (fun c14_ => ?_)
        refine lv_ldc2 (v := (-9223372036854775808)) hx hb hown (ht _ zm_1032) dX9_odds_19 ?_
        exact zret_l (v := (-9223372036854775808)) hx hb hr hlocks hS () (by show _ = _; rw [if_neg c2_, if_neg c6_, if_pos c12_]) (hW.sub [] (by decide) rfl) (Nat.le_of_ble_eq_true rfl) (Nat.le_of_ble_eq_true rfl) dX9_odds_22
      · have b15_ : 0 ≤ Int32.toInt p2 ∧ Int32.toInt p2 ≤ 2147483647 := (by have u0 := zbnd p2; have u1 := (not_congr (zi_lt _ _)).mp c12_; have u2 : (0 : Int32).toInt = 0 := (by decide); omega)
        rw [if_neg c12_] at hw
        by_cases c16_ : 1 < p2
        · have b17_ : 2 ≤ Int32.toInt p2 ∧ Int32.toInt p2 ≤ 2147483647 := (by have u0 := b15_; have u1 := (zi_lt _ _).mp c16_; have u2 : (1 : Int32).toInt = 1 := (by decide); omega)
          rw [if_pos c16_] at hw
          subst hw
          refine lv_if_ne (tgt := 23) hx hb dX9_odds_16 (by decide) (fun c18_ => absurd (by decide) c18_) (fun c18_ => ?_)
          refine lv_ldc2 (v := (-9223372036854775808)) hx hb hown (ht _ zm_1032) dX9_odds_19 ?_
          exact zret_l (v := (-9223372036854775808)) hx hb hr hlocks hS () (by show _ = _; rw [if_neg c2_, if_neg c6_, if_neg c12_, if_pos c16_]) (hW.sub [] (by decide) rfl) (Nat.le_of_ble_eq_true rfl) (Nat.le_of_ble_eq_true rfl) dX9_odds_22
        · have b19_ : 0 ≤ Int32.toInt p2 ∧ Int32.toInt p2 ≤ 1 := (by have u0 := b15_; have u1 := (not_congr (zi_lt _ _)).mp c16_; have u2 : (1 : Int32).toInt = 1 := (by decide); omega)
          rw [if_neg c16_] at hw
          subst hw
          refine lv_if_ne (tgt := 23) hx hb dX9_odds_16 (by decide) (fun c20_ => ?_) (fun c20_ => absurd c20_ (by decide))
          refine lv_aload_n hx hb dX9_odds_23 rfl (lv_at hl 0 rfl) ?_
          refine zget hx hb ht inlX9 hown hK hW 0 rfl rfl 6 (by decide) zm_29 rfl dX9_odds_24 ?_
          refine zgo_v (wr := [(a0, .inr (8, [w3, w4, w5, w6, w7, w8, .ref a9, w10, w11])), (a21, .inr (2, [w25, .int 15, w26, w27, w28, w29, w30, w31])), (a22, .inr (5, [.int 0, w32, w33]))]) (zrunV (As := []) (rest := []) ⟨hx, hb, hml, hown, ht⟩ (zc_X1_beginFromNow_0 l D y a9 a12 w13 w14 w15 w16 w17 a18 w19 (.int 0) w20 (.int 0) (.int 0) (.ref a21) (.ref a22) w23 w24) (cwV 0 ht (zgV zm_274 zm_275 zm_276 zm_28 zm_277) rfl rfl rfl (by decide +kernel) ⟨(Nat.le_of_ble_eq_true rfl), (Nat.le_of_ble_eq_true rfl)⟩) hK hE hS hA hW [1, 2, 3] (by decide) rfl 0 rfl rfl rfl rfl hl.1 rfl (Nat.le_of_ble_eq_true rfl) dX9_odds_27 (Nat.le_of_ble_eq_true rfl) (Nat.le_of_ble_eq_true rfl)) hS hA hW [1, 2, 3] [0, 4, 5] rfl rfl (by decide) (by decide) (fun u H locs hw hW hS => ?_)
          have hW : zPD D A [(a0, .inr (8, [w3, w4, w5, w6, w7, w8, .ref a9, w10, w11])), (a21, .inr (2, [w25, .int 15, w26, w27, w28, w29, w30, w31])), (a22, .inr (5, [.int 0, w32, w33])), (a9, .inr (1, [.ref a12, .int 0, .int 20, w13, w14, w15, w16, w17, .ref a18])), (a12, .inr (6, [w19, .int 0, .int 20, .int 0, .int 0, w20, .int 0, .int 0, .ref a21, .ref a22, w23, w24])), (a18, .inl (y 2, 4, .inl (upd (fun _ => 0) 0 1)))] H := hW
          refine lv_aload_n hx hb dX9_odds_30 rfl (lv_at hl 0 rfl) ?_
          refine zget hx hb ht inlX9 hown hK hW 0 rfl rfl 6 (by decide) zm_29 rfl dX9_odds_31 ?_
          refine lv_iconst (v := 0) hx hb dX9_odds_34 (by decide) ?_
          refine zgo_i (wr := [(a0, .inr (8, [w3, w4, w5, w6, w7, w8, .ref a9, w10, w11])), (a21, .inr (2, [w25, .int 15, w26, w27, w28, w29, w30, w31])), (a18, .inl (y 2, 4, .inl (upd (fun _ => 0) 0 1)))]) (zrunV (As := [.int 0]) (rest := []) ⟨hx, hb, hml, hown, ht⟩ (zc_X1_goRound_0 l D y a9 a12 (.int 0) (.int 20) w13 w14 w15 w16 w17 (.ref a18) w19 (.int 0) (.int 20) (.int 0) w20 (.ref a21) a22 w23 w24 w32 w33) (cwV 1 ht (zgV zm_809 zm_810 zm_811 zm_28 zm_812) rfl rfl rfl (by decide +kernel) ⟨(Nat.le_of_ble_eq_true rfl), (Nat.le_of_ble_eq_true rfl)⟩) hK hE hS hA hW [3, 4, 2] (by decide) rfl 0 rfl rfl rfl rfl hl.1 rfl (Nat.le_of_ble_eq_true rfl) dX9_odds_35 (Nat.le_of_ble_eq_true rfl) (Nat.le_of_ble_eq_true rfl)) hS hA hW [3, 4, 2] [0, 1, 5] rfl rfl (by decide) (by decide) (fun r22_ u H locs hw hW hS => ?_)
          have hW : zPD D A [(a0, .inr (8, [w3, w4, w5, w6, w7, w8, .ref a9, w10, w11])), (a21, .inr (2, [w25, .int 15, w26, w27, w28, w29, w30, w31])), (a18, .inl (y 2, 4, .inl (upd (fun _ => 0) 0 1))), (a9, .inr (1, [.ref a12, .int 0, .int 20, w13, w14, w15, w16, w17, .ref a18])), (a12, .inr (6, [w19, .int 0, .int 20, .int 0, .int 0, w20, .int 0, .int 0, .ref a21, .ref a22, w23, w24])), (a22, .inr (5, [.int 0, w32, w33]))] H := hW
          have hw : r22_ = 0 := hw
          subst hw
          refine lv_pop hx hb dX9_odds_38 rfl ?_
          refine lv_iconst (v := 0) hx hb dX9_odds_39 (by decide) ?_
          refine lv_istore_n (lv' := [(3, .int 0), (0, .ref a0), (1, .int p1), (2, .int p2)]) hx hb dX9_odds_40 rfl hl (by decide) rfl (fun ls hl => ?_)
          refine lv_iconst (v := 0) hx hb dX9_odds_41 (by decide) ?_
          refine lv_istore (lv' := [(4, .int 0), (3, .int 0), (0, .ref a0), (1, .int p1), (2, .int p2)]) hx hb dX9_odds_42 hl (by decide) rfl (fun ls hl => ?_)
          refine lv_iload hx hb dX9_odds_44 (lv_at hl 0 rfl) ?_
          refine lv_iconst (v := 4) hx hb dX9_odds_46 (by decide) ?_
          refine lv_icmp_ge (tgt := 79) hx hb dX9_odds_47 (by decide) (fun c23_ => absurd c23_ (by decide)) (fun c23_ => ?_)
          refine lv_aload_n hx hb dX9_odds_50 rfl (lv_at hl 2 rfl) ?_
          refine zget hx hb ht inlX9 hown hK hW 0 rfl rfl 6 (by decide) zm_29 rfl dX9_odds_51 ?_
          refine lv_iload hx hb dX9_odds_54 (lv_at hl 0 rfl) ?_
          refine zgo_v (wr := [(a0, .inr (8, [w3, w4, w5, w6, w7, w8, .ref a9, w10, w11])), (a21, .inr (2, [w25, .int 15, w26, w27, w28, w29, w30, w31])), (a12, .inr (6, [w19, .int 0, .int 20, .int 0, .int 0, w20, .int 0, .int 0, .ref a21, .ref a22, w23, w24])), (a22, .inr (5, [.int 0, w32, w33]))]) (zrunV (As := [.int 0]) (rest := []) ⟨hx, hb, hml, hown, ht⟩ (zc_X1_turnTo_1 l D y a9 (.ref a12) (.int 20) w13 w14 w15 w16 w17 a18) (cwV 1 ht (zgV zm_983 zm_281 zm_282 zm_28 zm_283) rfl rfl rfl (by decide +kernel) ⟨(Nat.le_of_ble_eq_true rfl), (Nat.le_of_ble_eq_true rfl)⟩) hK hE hS hA hW [3, 2] (by decide) rfl 0 rfl rfl rfl rfl hl.1 rfl (Nat.le_of_ble_eq_true rfl) dX9_odds_56 (Nat.le_of_ble_eq_true rfl) (Nat.le_of_ble_eq_true rfl)) hS hA hW [3, 2] [0, 1, 4, 5] rfl rfl (by decide) (by decide) (fun u H locs hw hW hS => ?_)
          have hW : zPD D A [(a0, .inr (8, [w3, w4, w5, w6, w7, w8, .ref a9, w10, w11])), (a21, .inr (2, [w25, .int 15, w26, w27, w28, w29, w30, w31])), (a12, .inr (6, [w19, .int 0, .int 20, .int 0, .int 0, w20, .int 0, .int 0, .ref a21, .ref a22, w23, w24])), (a22, .inr (5, [.int 0, w32, w33])), (a9, .inr (1, [.ref a12, .int 0, .int 20, w13, w14, w15, w16, w17, .ref a18])), (a18, .inl (y 2, 4, .inl (upd (fun _ => 0) 0 1)))] H := hW
          refine lv_aload_n hx hb dX9_odds_59 rfl (lv_at hl 2 rfl) ?_
          refine zget hx hb ht inlX9 hown hK hW 0 rfl rfl 6 (by decide) zm_29 rfl dX9_odds_60 ?_
          refine zgo_i (wr := [(a0, .inr (8, [w3, w4, w5, w6, w7, w8, .ref a9, w10, w11])), (a22, .inr (5, [.int 0, w32, w33])), (a18, .inl (y 2, 4, .inl (upd (fun _ => 0) 0 1)))]) (zrunV (As := []) (rest := []) ⟨hx, hb, hml, hown, ht⟩ (zc_X1_cost_0 l D y a9 a12 (.int 0) w13 w14 w15 w16 w17 (.ref a18) w19 (.int 20) (.int 0) w20 (.int 0) (.int 0) a21 (.ref a22) w23 w24 w25 w26 w27 w28 w29 w30 w31) (cwV 0 ht (zgV zm_827 zm_828 zm_829 zm_28 zm_830) rfl rfl rfl (by decide +kernel) ⟨(Nat.le_of_ble_eq_true rfl), (Nat.le_of_ble_eq_true rfl)⟩) hK hE hS hA hW [4, 2, 1] (by decide) rfl 0 rfl rfl rfl rfl hl.1 rfl (Nat.le_of_ble_eq_true rfl) dX9_odds_63 (Nat.le_of_ble_eq_true rfl) (Nat.le_of_ble_eq_true rfl)) hS hA hW [4, 2, 1] [0, 3, 5] rfl rfl (by decide) (by decide) (fun r25_ u H locs hw hW hS => ?_)
          have hW : zPD D A [(a0, .inr (8, [w3, w4, w5, w6, w7, w8, .ref a9, w10, w11])), (a22, .inr (5, [.int 0, w32, w33])), (a18, .inl (y 2, 4, .inl (upd (fun _ => 0) 0 1))), (a9, .inr (1, [.ref a12, .int 0, .int 20, w13, w14, w15, w16, w17, .ref a18])), (a12, .inr (6, [w19, .int 0, .int 20, .int 0, .int 0, w20, .int 0, .int 0, .ref a21, .ref a22, w23, w24])), (a21, .inr (2, [w25, .int 15, w26, w27, w28, w29, w30, w31]))] H := hW
          have hw : r25_ = 0 := hw
          subst hw
          refine lv_iload_n hx hb dX9_odds_66 rfl (lv_at hl 3 rfl) ?_
          refine lv_icmp_gt (tgt := 73) hx hb dX9_odds_67 (by decide) (fun c26_ => absurd c26_ c2_) (fun c26_ => ?_)
          refine lv_iinc (k := 1) (v := 1) (lv' := [(3, .int 1), (4, .int 0), (0, .ref a0), (1, .int p1), (2, .int p2)]) hx hb dX9_odds_70 hl rfl (by decide) (by decide) rfl (fun ls hl => ?_)
          refine lv_iinc (k := 1) (v := 1) (lv' := [(4, .int 1), (3, .int 1), (0, .ref a0), (1, .int p1), (2, .int p2)]) hx hb dX9_odds_73 hl rfl (by decide) (by decide) rfl (fun ls hl => ?_)
          refine lv_goto (tgt := 44) hx hb dX9_odds_76 (by decide) ?_
          refine lv_iload hx hb dX9_odds_44 (lv_at hl 0 rfl) ?_
          refine lv_iconst (v := 4) hx hb dX9_odds_46 (by decide) ?_
          refine lv_icmp_ge (tgt := 79) hx hb dX9_odds_47 (by decide) (fun c27_ => absurd c27_ (by decide)) (fun c27_ => ?_)
          refine lv_aload_n hx hb dX9_odds_50 rfl (lv_at hl 2 rfl) ?_
          refine zget hx hb ht inlX9 hown hK hW 0 rfl rfl 6 (by decide) zm_29 rfl dX9_odds_51 ?_
          refine lv_iload hx hb dX9_odds_54 (lv_at hl 0 rfl) ?_
          refine zgo_v (wr := [(a0, .inr (8, [w3, w4, w5, w6, w7, w8, .ref a9, w10, w11])), (a22, .inr (5, [.int 0, w32, w33])), (a21, .inr (2, [w25, .int 15, w26, w27, w28, w29, w30, w31]))]) (zrunV (As := [.int 1]) (rest := []) ⟨hx, hb, hml, hown, ht⟩ (zc_X1_turnTo_2 l D y a9 a12 (.int 20) w13 w14 w15 w16 w17 a18 w19 (.int 20) (.int 0) (.int 0) w20 (.int 0) (.int 0) (.ref a21) (.ref a22) w23 w24) (cwV 1 ht (zgV zm_983 zm_281 zm_282 zm_28 zm_283) rfl rfl rfl (by decide +kernel) ⟨(Nat.le_of_ble_eq_true rfl), (Nat.le_of_ble_eq_true rfl)⟩) hK hE hS hA hW [3, 4, 2] (by decide) rfl 0 rfl rfl rfl rfl hl.1 rfl (Nat.le_of_ble_eq_true rfl) dX9_odds_56 (Nat.le_of_ble_eq_true rfl) (Nat.le_of_ble_eq_true rfl)) hS hA hW [3, 4, 2] [0, 1, 5] rfl rfl (by decide) (by decide) (fun u H locs hw hW hS => ?_)
          have hW : zPD D A [(a0, .inr (8, [w3, w4, w5, w6, w7, w8, .ref a9, w10, w11])), (a22, .inr (5, [.int 0, w32, w33])), (a21, .inr (2, [w25, .int 15, w26, w27, w28, w29, w30, w31])), (a9, .inr (1, [.ref a12, .int 1, .int 20, w13, w14, w15, w16, w17, .ref a18])), (a12, .inr (6, [w19, .int 0, .int 20, .int 0, .int 0, w20, .int 0, .int 0, .ref a21, .ref a22, w23, w24])), (a18, .inl (y 2, 4, .inl (upd (upd (fun _ => 0) 0 1) 1 1)))] H := hW
          refine lv_aload_n hx hb dX9_odds_59 rfl (lv_at hl 2 rfl) ?_
          refine zget hx hb ht inlX9 hown hK hW 0 rfl rfl 6 (by decide) zm_29 rfl dX9_odds_60 ?_
          refine zgo_i (wr := [(a0, .inr (8, [w3, w4, w5, w6, w7, w8, .ref a9, w10, w11])), (a22, .inr (5, [.int 0, w32, w33])), (a18, .inl (y 2, 4, .inl (upd (upd (fun _ => 0) 0 1) 1 1)))]) (zrunV (As := []) (rest := []) ⟨hx, hb, hml, hown, ht⟩ (zc_X1_cost_0 l D y a9 a12 (.int 1) w13 w14 w15 w16 w17 (.ref a18) w19 (.int 20) (.int 0) w20 (.int 0) (.int 0) a21 (.ref a22) w23 w24 w25 w26 w27 w28 w29 w30 w31) (cwV 0 ht (zgV zm_827 zm_828 zm_829 zm_28 zm_830) rfl rfl rfl (by decide +kernel) ⟨(Nat.le_of_ble_eq_true rfl), (Nat.le_of_ble_eq_true rfl)⟩) hK hE hS hA hW [3, 4, 2] (by decide) rfl 0 rfl rfl rfl rfl hl.1 rfl (Nat.le_of_ble_eq_true rfl) dX9_odds_63 (Nat.le_of_ble_eq_true rfl) (Nat.le_of_ble_eq_true rfl)) hS hA hW [3, 4, 2] [0, 1, 5] rfl rfl (by decide) (by decide) (fun r29_ u H locs hw hW hS => ?_)
          have hW : zPD D A [(a0, .inr (8, [w3, w4, w5, w6, w7, w8, .ref a9, w10, w11])), (a22, .inr (5, [.int 0, w32, w33])), (a18, .inl (y 2, 4, .inl (upd (upd (fun _ => 0) 0 1) 1 1))), (a9, .inr (1, [.ref a12, .int 1, .int 20, w13, w14, w15, w16, w17, .ref a18])), (a12, .inr (6, [w19, .int 0, .int 20, .int 0, .int 0, w20, .int 0, .int 0, .ref a21, .ref a22, w23, w24])), (a21, .inr (2, [w25, .int 15, w26, w27, w28, w29, w30, w31]))] H := hW
          have hw : r29_ = 0 := hw
          subst hw
          refine lv_iload_n hx hb dX9_odds_66 rfl (lv_at hl 3 rfl) ?_
          refine lv_icmp_gt (tgt := 73) hx hb dX9_odds_67 (by decide) (fun c30_ => absurd c30_ c2_) (fun c30_ => ?_)
          refine lv_iinc (k := 1) (v := 2) (lv' := [(3, .int 2), (4, .int 1), (0, .ref a0), (1, .int p1), (2, .int p2)]) hx hb dX9_odds_70 hl rfl (by decide) (by decide) rfl (fun ls hl => ?_)
          refine lv_iinc (k := 1) (v := 2) (lv' := [(4, .int 2), (3, .int 2), (0, .ref a0), (1, .int p1), (2, .int p2)]) hx hb dX9_odds_73 hl rfl (by decide) (by decide) rfl (fun ls hl => ?_)
          refine lv_goto (tgt := 44) hx hb dX9_odds_76 (by decide) ?_
          refine lv_iload hx hb dX9_odds_44 (lv_at hl 0 rfl) ?_
          refine lv_iconst (v := 4) hx hb dX9_odds_46 (by decide) ?_
          refine lv_icmp_ge (tgt := 79) hx hb dX9_odds_47 (by decide) (fun c31_ => absurd c31_ (by decide)) (fun c31_ => ?_)
          refine lv_aload_n hx hb dX9_odds_50 rfl (lv_at hl 2 rfl) ?_
          refine zget hx hb ht inlX9 hown hK hW 0 rfl rfl 6 (by decide) zm_29 rfl dX9_odds_51 ?_
          refine lv_iload hx hb dX9_odds_54 (lv_at hl 0 rfl) ?_
          refine zgo_v (wr := [(a0, .inr (8, [w3, w4, w5, w6, w7, w8, .ref a9, w10, w11])), (a22, .inr (5, [.int 0, w32, w33])), (a21, .inr (2, [w25, .int 15, w26, w27, w28, w29, w30, w31]))]) (zrunV (As := [.int 2]) (rest := []) ⟨hx, hb, hml, hown, ht⟩ (zc_X1_turnTo_3 l D y a9 a12 (.int 20) w13 w14 w15 w16 w17 a18 w19 (.int 20) (.int 0) (.int 0) w20 (.int 0) (.int 0) (.ref a21) (.ref a22) w23 w24) (cwV 1 ht (zgV zm_983 zm_281 zm_282 zm_28 zm_283) rfl rfl rfl (by decide +kernel) ⟨(Nat.le_of_ble_eq_true rfl), (Nat.le_of_ble_eq_true rfl)⟩) hK hE hS hA hW [3, 4, 2] (by decide) rfl 0 rfl rfl rfl rfl hl.1 rfl (Nat.le_of_ble_eq_true rfl) dX9_odds_56 (Nat.le_of_ble_eq_true rfl) (Nat.le_of_ble_eq_true rfl)) hS hA hW [3, 4, 2] [0, 1, 5] rfl rfl (by decide) (by decide) (fun u H locs hw hW hS => ?_)
          have hW : zPD D A [(a0, .inr (8, [w3, w4, w5, w6, w7, w8, .ref a9, w10, w11])), (a22, .inr (5, [.int 0, w32, w33])), (a21, .inr (2, [w25, .int 15, w26, w27, w28, w29, w30, w31])), (a9, .inr (1, [.ref a12, .int 2, .int 20, w13, w14, w15, w16, w17, .ref a18])), (a12, .inr (6, [w19, .int 0, .int 20, .int 0, .int 0, w20, .int 0, .int 0, .ref a21, .ref a22, w23, w24])), (a18, .inl (y 2, 4, .inl (upd (upd (upd (fun _ => 0) 0 1) 1 1) 2 1)))] H := hW
          refine lv_aload_n hx hb dX9_odds_59 rfl (lv_at hl 2 rfl) ?_
          refine zget hx hb ht inlX9 hown hK hW 0 rfl rfl 6 (by decide) zm_29 rfl dX9_odds_60 ?_
          refine zgo_i (wr := [(a0, .inr (8, [w3, w4, w5, w6, w7, w8, .ref a9, w10, w11])), (a22, .inr (5, [.int 0, w32, w33])), (a18, .inl (y 2, 4, .inl (upd (upd (upd (fun _ => 0) 0 1) 1 1) 2 1)))]) (zrunV (As := []) (rest := []) ⟨hx, hb, hml, hown, ht⟩ (zc_X1_cost_0 l D y a9 a12 (.int 2) w13 w14 w15 w16 w17 (.ref a18) w19 (.int 20) (.int 0) w20 (.int 0) (.int 0) a21 (.ref a22) w23 w24 w25 w26 w27 w28 w29 w30 w31) (cwV 0 ht (zgV zm_827 zm_828 zm_829 zm_28 zm_830) rfl rfl rfl (by decide +kernel) ⟨(Nat.le_of_ble_eq_true rfl), (Nat.le_of_ble_eq_true rfl)⟩) hK hE hS hA hW [3, 4, 2] (by decide) rfl 0 rfl rfl rfl rfl hl.1 rfl (Nat.le_of_ble_eq_true rfl) dX9_odds_63 (Nat.le_of_ble_eq_true rfl) (Nat.le_of_ble_eq_true rfl)) hS hA hW [3, 4, 2] [0, 1, 5] rfl rfl (by decide) (by decide) (fun r33_ u H locs hw hW hS => ?_)
          have hW : zPD D A [(a0, .inr (8, [w3, w4, w5, w6, w7, w8, .ref a9, w10, w11])), (a22, .inr (5, [.int 0, w32, w33])), (a18, .inl (y 2, 4, .inl (upd (upd (upd (fun _ => 0) 0 1) 1 1) 2 1))), (a9, .inr (1, [.ref a12, .int 2, .int 20, w13, w14, w15, w16, w17, .ref a18])), (a12, .inr (6, [w19, .int 0, .int 20, .int 0, .int 0, w20, .int 0, .int 0, .ref a21, .ref a22, w23, w24])), (a21, .inr (2, [w25, .int 15, w26, w27, w28, w29, w30, w31]))] H := hW
          have hw : r33_ = 0 := hw
          subst hw
          refine lv_iload_n hx hb dX9_odds_66 rfl (lv_at hl 3 rfl) ?_
          refine lv_icmp_gt (tgt := 73) hx hb dX9_odds_67 (by decide) (fun c34_ => absurd c34_ c2_) (fun c34_ => ?_)
          refine lv_iinc (k := 1) (v := 3) (lv' := [(3, .int 3), (4, .int 2), (0, .ref a0), (1, .int p1), (2, .int p2)]) hx hb dX9_odds_70 hl rfl (by decide) (by decide) rfl (fun ls hl => ?_)
          refine lv_iinc (k := 1) (v := 3) (lv' := [(4, .int 3), (3, .int 3), (0, .ref a0), (1, .int p1), (2, .int p2)]) hx hb dX9_odds_73 hl rfl (by decide) (by decide) rfl (fun ls hl => ?_)
          refine lv_goto (tgt := 44) hx hb dX9_odds_76 (by decide) ?_
          refine lv_iload hx hb dX9_odds_44 (lv_at hl 0 rfl) ?_
          refine lv_iconst (v := 4) hx hb dX9_odds_46 (by decide) ?_
          refine lv_icmp_ge (tgt := 79) hx hb dX9_odds_47 (by decide) (fun c35_ => absurd c35_ (by decide)) (fun c35_ => ?_)
          refine lv_aload_n hx hb dX9_odds_50 rfl (lv_at hl 2 rfl) ?_
          refine zget hx hb ht inlX9 hown hK hW 0 rfl rfl 6 (by decide) zm_29 rfl dX9_odds_51 ?_
          refine lv_iload hx hb dX9_odds_54 (lv_at hl 0 rfl) ?_
          refine zgo_v (wr := [(a0, .inr (8, [w3, w4, w5, w6, w7, w8, .ref a9, w10, w11])), (a22, .inr (5, [.int 0, w32, w33])), (a21, .inr (2, [w25, .int 15, w26, w27, w28, w29, w30, w31]))]) (zrunV (As := [.int 3]) (rest := []) ⟨hx, hb, hml, hown, ht⟩ (zc_X1_turnTo_4 l D y a9 a12 (.int 20) w13 w14 w15 w16 w17 a18 w19 (.int 20) (.int 0) (.int 0) w20 (.int 0) (.int 0) (.ref a21) (.ref a22) w23 w24) (cwV 1 ht (zgV zm_983 zm_281 zm_282 zm_28 zm_283) rfl rfl rfl (by decide +kernel) ⟨(Nat.le_of_ble_eq_true rfl), (Nat.le_of_ble_eq_true rfl)⟩) hK hE hS hA hW [3, 4, 2] (by decide) rfl 0 rfl rfl rfl rfl hl.1 rfl (Nat.le_of_ble_eq_true rfl) dX9_odds_56 (Nat.le_of_ble_eq_true rfl) (Nat.le_of_ble_eq_true rfl)) hS hA hW [3, 4, 2] [0, 1, 5] rfl rfl (by decide) (by decide) (fun u H locs hw hW hS => ?_)
          have hW : zPD D A [(a0, .inr (8, [w3, w4, w5, w6, w7, w8, .ref a9, w10, w11])), (a22, .inr (5, [.int 0, w32, w33])), (a21, .inr (2, [w25, .int 15, w26, w27, w28, w29, w30, w31])), (a9, .inr (1, [.ref a12, .int 3, .int 20, w13, w14, w15, w16, w17, .ref a18])), (a12, .inr (6, [w19, .int 0, .int 20, .int 0, .int 0, w20, .int 0, .int 0, .ref a21, .ref a22, w23, w24])), (a18, .inl (y 2, 4, .inl (upd (upd (upd (upd (fun _ => 0) 0 1) 1 1) 2 1) 3 1)))] H := hW
          refine lv_aload_n hx hb dX9_odds_59 rfl (lv_at hl 2 rfl) ?_
          refine zget hx hb ht inlX9 hown hK hW 0 rfl rfl 6 (by decide) zm_29 rfl dX9_odds_60 ?_
          refine zgo_i (wr := [(a0, .inr (8, [w3, w4, w5, w6, w7, w8, .ref a9, w10, w11])), (a22, .inr (5, [.int 0, w32, w33])), (a18, .inl (y 2, 4, .inl (upd (upd (upd (upd (fun _ => 0) 0 1) 1 1) 2 1) 3 1)))]) (zrunV (As := []) (rest := []) ⟨hx, hb, hml, hown, ht⟩ (zc_X1_cost_0 l D y a9 a12 (.int 3) w13 w14 w15 w16 w17 (.ref a18) w19 (.int 20) (.int 0) w20 (.int 0) (.int 0) a21 (.ref a22) w23 w24 w25 w26 w27 w28 w29 w30 w31) (cwV 0 ht (zgV zm_827 zm_828 zm_829 zm_28 zm_830) rfl rfl rfl (by decide +kernel) ⟨(Nat.le_of_ble_eq_true rfl), (Nat.le_of_ble_eq_true rfl)⟩) hK hE hS hA hW [3, 4, 2] (by decide) rfl 0 rfl rfl rfl rfl hl.1 rfl (Nat.le_of_ble_eq_true rfl) dX9_odds_63 (Nat.le_of_ble_eq_true rfl) (Nat.le_of_ble_eq_true rfl)) hS hA hW [3, 4, 2] [0, 1, 5] rfl rfl (by decide) (by decide) (fun r37_ u H locs hw hW hS => ?_)
          have hW : zPD D A [(a0, .inr (8, [w3, w4, w5, w6, w7, w8, .ref a9, w10, w11])), (a22, .inr (5, [.int 0, w32, w33])), (a18, .inl (y 2, 4, .inl (upd (upd (upd (upd (fun _ => 0) 0 1) 1 1) 2 1) 3 1))), (a9, .inr (1, [.ref a12, .int 3, .int 20, w13, w14, w15, w16, w17, .ref a18])), (a12, .inr (6, [w19, .int 0, .int 20, .int 0, .int 0, w20, .int 0, .int 0, .ref a21, .ref a22, w23, w24])), (a21, .inr (2, [w25, .int 15, w26, w27, w28, w29, w30, w31]))] H := hW
          have hw : r37_ = 0 := hw
          subst hw
          refine lv_iload_n hx hb dX9_odds_66 rfl (lv_at hl 3 rfl) ?_
          refine lv_icmp_gt (tgt := 73) hx hb dX9_odds_67 (by decide) (fun c38_ => absurd c38_ c2_) (fun c38_ => ?_)
          refine lv_iinc (k := 1) (v := 4) (lv' := [(3, .int 4), (4, .int 3), (0, .ref a0), (1, .int p1), (2, .int p2)]) hx hb dX9_odds_70 hl rfl (by decide) (by decide) rfl (fun ls hl => ?_)
          refine lv_iinc (k := 1) (v := 4) (lv' := [(4, .int 4), (3, .int 4), (0, .ref a0), (1, .int p1), (2, .int p2)]) hx hb dX9_odds_73 hl rfl (by decide) (by decide) rfl (fun ls hl => ?_)
          refine lv_goto (tgt := 44) hx hb dX9_odds_76 (by decide) ?_
          refine lv_iload hx hb dX9_odds_44 (lv_at hl 0 rfl) ?_
          refine lv_iconst (v := 4) hx hb dX9_odds_46 (by decide) ?_
          refine lv_icmp_ge (tgt := 79) hx hb dX9_odds_47 (by decide) (fun c39_ => ?_) (fun c39_ => absurd (by decide) c39_)
          refine lv_iload_n hx hb dX9_odds_79 rfl (lv_at hl 1 rfl) ?_
          refine lv_iconst (v := 4) hx hb dX9_odds_80 (by decide) ?_
          refine lv_iload_n hx hb dX9_odds_81 rfl (lv_at hl 4 rfl) ?_
          refine zgo0_l (zrunS (As := [.int 4, .int 4, .int p2]) (rest := []) ⟨hx, hb, hml, hown, ht⟩ (zc_X9_partOf_0 l D y p2) (va_cwS 3 ht (zgS zm_1033 zm_1034 zm_2 zm_1035) rfl rfl rfl (by decide +kernel) ⟨(Nat.le_of_ble_eq_true rfl), (Nat.le_of_ble_eq_true rfl)⟩) hK hE hS hA hW [] (by decide) rfl rfl hl.1 rfl (Nat.le_of_ble_eq_true rfl) dX9_odds_82 (Nat.le_of_ble_eq_true rfl) (Nat.le_of_ble_eq_true rfl)) hS hA hW (fun r40_ u H locs hw hW hS => ?_)
          have hw : r40_ = 1 := hw
          subst hw
          exact zret_l (v := 1) hx hb hr hlocks hS () (by show _ = _; rw [if_neg c2_, if_neg c6_, if_neg c12_, if_neg c16_]) (hW.sub [] (by decide) rfl) (Nat.le_of_ble_eq_true rfl) (Nat.le_of_ble_eq_true rfl) dX9_odds_85
set_option maxHeartbeats 8000000 in
set_option maxRecDepth 100000 in
theorem zc_X10_costOfPath_4 (l : Launch) (D : va_G) (y : Nat → ClassId) (a0 : Nat) (w1 : Value) (w2 : Value) (w3 : Value) (w4 : Value) (w5 : Value) (w6 : Value) (w7 : Value) (w8 : Value) (a9 : Nat) (w10 : Value) (w11 : Value) (w12 : Value) (w13 : Value) (w14 : Value) (w15 : Value) (w16 : Value) (w17 : Value) (w18 : Value) (w19 : Value) (w20 : Value) (w21 : Value) (w22 : Value) (w23 : Value) (w24 : Value) (w25 : Value) (w26 : Value) (w27 : Value) (w28 : Value) (a29 : Nat) (w30 : Value) (w31 : Value) (w32 : Value) (w33 : Value) (w34 : Value) (w35 : Value) (w36 : Value) (w37 : Value) (w38 : Value) (w39 : Value) (w40 : Value) (w41 : Value) (w42 : Value) (w43 : Value) (w44 : Value) (w45 : Value) (w46 : Value) (w47 : Value) (w48 : Value) (w49 : Value) (w50 : Value) (w51 : Value) (w52 : Value) (w53 : Value) (w54 : Value) (w55 : Value) (w56 : Value) (w57 : Value) (w58 : Value) (w59 : Value) (w60 : Value) (w61 : Value) (w62 : Value) (w63 : Value) (w64 : Value) (w65 : Value) (w66 : Value) (w67 : Value) (w68 : Value) (w69 : Value) : zM l D y yX10_costOfPath (Cond.code yX10_costOfPath cX10_costOfPath 3 (some .int) :: zT) { frames := 5, cells := 0, slots := 0, locals := 108 } [.ref a0, .int 0] [(a0, .inr (9, [.int 0, .int 0, w1, .int 20, w2, .int 0, .int 0, w3, w4, w5, w6, w7, w8, .ref a9, w10, .int (-1), w11, w12, w13, w14, w15, w16, w17, w18, w19, w20, w21, w22, w23, w24, w25, w26, w27, w28, .ref a29, .int 0, w30, w31, w32, w33, w34, w35, w36, w37, w38, w39, w40, w41, w42, w43, w44, w45, w46, w47, w48, w49, w50, w51, w52, w53, w54, w55, w56, w57, w58, w59, w60, w61, w62, w63, w64, w65, w66, w67, w68, w69])), (a9, .inl (y 2, 7, .inl (fun _ => 0))), (a29, .inl (y 0, 7, .inl (upd (upd (upd (upd (upd (upd (upd (fun _ => 0) 0 99999) 1 99999) 2 99999) 3 99999) 4 99999) 5 99999) 6 99999)))] (zQi (S := Unit) D (fun r_ _ => r_ = 0) (fun _ => [(a0, .inr (9, [.int 0, .int 0, w1, .int 20, w2, .int 0, .int 0, w3, w4, w5, w6, w7, w8, .ref a9, w10, .int (-1), w11, w12, w13, w14, w15, w16, w17, w18, w19, w20, w21, w22, w23, w24, w25, w26, w27, w28, .ref a29, .int 0, w30, w31, w32, w33, w34, w35, w36, w37, w38, w39, w40, w41, w42, w43, w44, w45, w46, w47, w48, w49, w50, w51, w52, w53, w54, w55, w56, w57, w58, w59, w60, w61, w62, w63, w64, w65, w66, w67, w68, w69])), (a9, .inl (y 2, 7, .inl (fun _ => 0))), (a29, .inl (y 0, 7, .inl (upd (upd (upd (upd (upd (upd (upd (upd (upd (upd (upd (upd (upd (upd (fun _ => 0) 0 99999) 1 99999) 2 99999) 3 99999) 4 99999) 5 99999) 6 99999) 0 99999) 1 99999) 2 99999) 3 99999) 4 99999) 5 99999) 6 99999)))])) := by
  refine zent (cc := cX10_costOfPath) (maxL := 3) (ret := (some .int)) (by decide) (Nat.le_of_ble_eq_true rfl) ?_
  intro p e s m below meth c A H locs ls hx hb hml hr ht hown hlocks hin hA hK hE hS hW hl
  have hown : s.vm.findClass RX10 = some m.cls := hown
  have hW : zPD D A [(a0, .inr (9, [.int 0, .int 0, w1, .int 20, w2, .int 0, .int 0, w3, w4, w5, w6, w7, w8, .ref a9, w10, .int (-1), w11, w12, w13, w14, w15, w16, w17, w18, w19, w20, w21, w22, w23, w24, w25, w26, w27, w28, .ref a29, .int 0, w30, w31, w32, w33, w34, w35, w36, w37, w38, w39, w40, w41, w42, w43, w44, w45, w46, w47, w48, w49, w50, w51, w52, w53, w54, w55, w56, w57, w58, w59, w60, w61, w62, w63, w64, w65, w66, w67, w68, w69])), (a9, .inl (y 2, 7, .inl (fun _ => 0))), (a29, .inl (y 0, 7, .inl (upd (upd (upd (upd (upd (upd (upd (fun _ => 0) 0 99999) 1 99999) 2 99999) 3 99999) 4 99999) 5 99999) 6 99999)))] H := hW
  have hl : lv_has ls 3 [(0, .ref a0), (1, .int 0)] := hl
  refine lv_aload_n hx hb dX10_costOfPath_0 rfl (lv_at hl 0 rfl) ?_
  refine zgo_v (wr := []) (zrunV (As := []) (rest := []) ⟨hx, hb, hml, hown, ht⟩ (zc_X10_layOpen_1 l D y a0 (.int 0) (.int 0) w1 (.int 20) w2 (.int 0) (.int 0) w3 w4 w5 w6 w7 w8 a9 w10 (.int (-1)) w11 w12 w13 w14 w15 w16 w17 w18 w19 w20 w21 w22 w23 w24 w25 w26 w27 w28 a29 (.int 0) w30 w31 w32 w33 w34 w35 w36 w37 w38 w39 w40 w41 w42 w43 w44 w45 w46 w47 w48 w49 w50 w51 w52 w53 w54 w55 w56 w57 w58 w59 w60 w61 w62 w63 w64 w65 w66 w67 w68 w69) (cwV 0 ht (zgV zm_397 zm_398 zm_399 zm_5 zm_400) rfl rfl rfl (by decide +kernel) ⟨(Nat.le_of_ble_eq_true rfl), (Nat.le_of_ble_eq_true rfl)⟩) hK hE hS hA hW [0, 1, 2] (by decide) rfl 0 rfl rfl rfl rfl hl.1 rfl (Nat.le_of_ble_eq_true rfl) dX10_costOfPath_1 (Nat.le_of_ble_eq_true rfl) (Nat.le_of_ble_eq_true rfl)) hS hA hW [0, 1, 2] [] rfl rfl (by decide) (by decide) (fun u H locs hw hW hS => ?_)
  have hW : zPD D A [(a0, .inr (9, [.int 0, .int 0, w1, .int 20, w2, .int 0, .int 0, w3, w4, w5, w6, w7, w8, .ref a9, w10, .int (-1), w11, w12, w13, w14, w15, w16, w17, w18, w19, w20, w21, w22, w23, w24, w25, w26, w27, w28, .ref a29, .int 0, w30, w31, w32, w33, w34, w35, w36, w37, w38, w39, w40, w41, w42, w43, w44, w45, w46, w47, w48, w49, w50, w51, w52, w53, w54, w55, w56, w57, w58, w59, w60, w61, w62, w63, w64, w65, w66, w67, w68, w69])), (a9, .inl (y 2, 7, .inl (fun _ => 0))), (a29, .inl (y 0, 7, .inl (upd (upd (upd (upd (upd (upd (upd (upd (upd (upd (upd (upd (upd (upd (fun _ => 0) 0 99999) 1 99999) 2 99999) 3 99999) 4 99999) 5 99999) 6 99999) 0 99999) 1 99999) 2 99999) 3 99999) 4 99999) 5 99999) 6 99999)))] H := hW
  refine lv_aload_n hx hb dX10_costOfPath_4 rfl (lv_at hl 0 rfl) ?_
  refine lv_iconst (v := 0) hx hb dX10_costOfPath_5 (by decide) ?_
  refine lv_aload_n hx hb dX10_costOfPath_6 rfl (lv_at hl 0 rfl) ?_
  refine zget hx hb ht inlX10 hown hK hW 0 rfl rfl 35 (by decide) zm_175 rfl dX10_costOfPath_7 ?_
  refine lv_aload_n hx hb dX10_costOfPath_10 rfl (lv_at hl 0 rfl) ?_
  refine zget hx hb ht inlX10 hown hK hW 0 rfl rfl 1 (by decide) zm_141 rfl dX10_costOfPath_11 ?_
  refine lv_iload_n hx hb dX10_costOfPath_14 rfl (lv_at hl 1 rfl) ?_
  refine lv_iadd hx hb dX10_costOfPath_15 ?_
  refine ztop (w := .int 0) (congrArg Value.int (by decide)) ?_
  refine zgo_i (wr := [(a9, .inl (y 2, 7, .inl (fun _ => 0))), (a29, .inl (y 0, 7, .inl (upd (upd (upd (upd (upd (upd (upd (upd (upd (upd (upd (upd (upd (upd (fun _ => 0) 0 99999) 1 99999) 2 99999) 3 99999) 4 99999) 5 99999) 6 99999) 0 99999) 1 99999) 2 99999) 3 99999) 4 99999) 5 99999) 6 99999)))]) (zrunV (As := [.int 0, .int 0, .int 0]) (rest := []) ⟨hx, hb, hml, hown, ht⟩ (zc_X10_goes_0 l D y a0 (.int 0) (.int 0) w1 (.int 20) w2 w3 w4 w5 w6 w7 w8 (.ref a9) w10 (.int (-1)) w11 w12 w13 w14 w15 w16 w17 w18 w19 w20 w21 w22 w23 w24 w25 w26 w27 w28 (.ref a29) (.int 0) w30 w31 w32 w33 w34 w35 w36 w37 w38 w39 w40 w41 w42 w43 w44 w45 w46 w47 w48 w49 w50 w51 w52 w53 w54 w55 w56 w57 w58 w59 w60 w61 w62 w63 w64 w65 w66 w67 w68 w69) (cwV 3 ht (zgV zm_852 zm_853 zm_854 zm_5 zm_855) rfl rfl rfl (by decide +kernel) ⟨(Nat.le_of_ble_eq_true rfl), (Nat.le_of_ble_eq_true rfl)⟩) hK hE hS hA hW [0] (by decide) rfl 0 rfl rfl rfl rfl hl.1 rfl (Nat.le_of_ble_eq_true rfl) dX10_costOfPath_16 (Nat.le_of_ble_eq_true rfl) (Nat.le_of_ble_eq_true rfl)) hS hA hW [0] [1, 2] rfl rfl (by decide) (by decide) (fun r2_ u H locs hw hW hS => ?_)
  have hW : zPD D A [(a9, .inl (y 2, 7, .inl (fun _ => 0))), (a29, .inl (y 0, 7, .inl (upd (upd (upd (upd (upd (upd (upd (upd (upd (upd (upd (upd (upd (upd (fun _ => 0) 0 99999) 1 99999) 2 99999) 3 99999) 4 99999) 5 99999) 6 99999) 0 99999) 1 99999) 2 99999) 3 99999) 4 99999) 5 99999) 6 99999))), (a0, .inr (9, [.int 0, .int 0, w1, .int 20, w2, .int 0, .int 0, w3, w4, w5, w6, w7, w8, .ref a9, w10, .int (-1), w11, w12, w13, w14, w15, w16, w17, w18, w19, w20, w21, w22, w23, w24, w25, w26, w27, w28, .ref a29, .int 0, w30, w31, w32, w33, w34, w35, w36, w37, w38, w39, w40, w41, w42, w43, w44, w45, w46, w47, w48, w49, w50, w51, w52, w53, w54, w55, w56, w57, w58, w59, w60, w61, w62, w63, w64, w65, w66, w67, w68, w69]))] H := hW
  have hw : r2_ = 0 := hw
  subst hw
  refine lv_istore_n (lv' := [(2, .int 0), (0, .ref a0), (1, .int 0)]) hx hb dX10_costOfPath_19 rfl hl (by decide) rfl (fun ls hl => ?_)
  refine lv_aload_n hx hb dX10_costOfPath_20 rfl (lv_at hl 1 rfl) ?_
  refine zgo_i (wr := [(a9, .inl (y 2, 7, .inl (fun _ => 0))), (a29, .inl (y 0, 7, .inl (upd (upd (upd (upd (upd (upd (upd (upd (upd (upd (upd (upd (upd (upd (fun _ => 0) 0 99999) 1 99999) 2 99999) 3 99999) 4 99999) 5 99999) 6 99999) 0 99999) 1 99999) 2 99999) 3 99999) 4 99999) 5 99999) 6 99999)))]) (zrunV (As := []) (rest := []) ⟨hx, hb, hml, hown, ht⟩ (zc_X10_harmTillEnd_0 l D y a0 w1 w2 (.int 0) (.int 0) w3 w4 w5 w6 w7 w8 (.ref a9) w10 w11 w12 w13 w14 w15 w16 w17 w18 w19 w20 w21 w22 w23 w24 w25 w26 w27 w28 (.ref a29) (.int 0) w30 w31 w32 w33 w34 w35 w36 w37 w38 w39 w40 w41 w42 w43 w44 w45 w46 w47 w48 w49 w50 w51 w52 w53 w54 w55 w56 w57 w58 w59 w60 w61 w62 w63 w64 w65 w66 w67 w68 w69) (cwV 0 ht (zgV zm_856 zm_857 zm_858 zm_5 zm_859) rfl rfl rfl (by decide +kernel) ⟨(Nat.le_of_ble_eq_true rfl), (Nat.le_of_ble_eq_true rfl)⟩) hK hE hS hA hW [2] (by decide) rfl 0 rfl rfl rfl rfl hl.1 rfl (Nat.le_of_ble_eq_true rfl) dX10_costOfPath_21 (Nat.le_of_ble_eq_true rfl) (Nat.le_of_ble_eq_true rfl)) hS hA hW [2] [0, 1] rfl rfl (by decide) (by decide) (fun r3_ u H locs hw hW hS => ?_)
  have hW : zPD D A [(a9, .inl (y 2, 7, .inl (fun _ => 0))), (a29, .inl (y 0, 7, .inl (upd (upd (upd (upd (upd (upd (upd (upd (upd (upd (upd (upd (upd (upd (fun _ => 0) 0 99999) 1 99999) 2 99999) 3 99999) 4 99999) 5 99999) 6 99999) 0 99999) 1 99999) 2 99999) 3 99999) 4 99999) 5 99999) 6 99999))), (a0, .inr (9, [.int 0, .int 0, w1, .int 20, w2, .int 0, .int 0, w3, w4, w5, w6, w7, w8, .ref a9, w10, .int (-1), w11, w12, w13, w14, w15, w16, w17, w18, w19, w20, w21, w22, w23, w24, w25, w26, w27, w28, .ref a29, .int 0, w30, w31, w32, w33, w34, w35, w36, w37, w38, w39, w40, w41, w42, w43, w44, w45, w46, w47, w48, w49, w50, w51, w52, w53, w54, w55, w56, w57, w58, w59, w60, w61, w62, w63, w64, w65, w66, w67, w68, w69]))] H := hW
  have hw : r3_ = 0 := hw
  subst hw
  exact zret_i (v := 0) hx hb hr hlocks hS () rfl (hW.sub [2, 0, 1] (by decide) rfl) (Nat.le_of_ble_eq_true rfl) (Nat.le_of_ble_eq_true rfl) dX10_costOfPath_24
set_option maxHeartbeats 8000000 in
set_option maxRecDepth 100000 in
theorem zc_X10_costOfRound_1 (l : Launch) (D : va_G) (y : Nat → ClassId) (a0 : Nat) (w1 : Value) (w2 : Value) (w3 : Value) (w4 : Value) (w5 : Value) (w6 : Value) (w7 : Value) (w8 : Value) (a9 : Nat) (w10 : Value) (w11 : Value) (w12 : Value) (w13 : Value) (w14 : Value) (w15 : Value) (w16 : Value) (w17 : Value) (w18 : Value) (w19 : Value) (w20 : Value) (w21 : Value) (w22 : Value) (w23 : Value) (w24 : Value) (w25 : Value) (w26 : Value) (w27 : Value) (a28 : Nat) (a29 : Nat) (a30 : Nat) (w31 : Value) (w32 : Value) (w33 : Value) (w34 : Value) (w35 : Value) (w36 : Value) (w37 : Value) (w38 : Value) (w39 : Value) (w40 : Value) (w41 : Value) (w42 : Value) (w43 : Value) (w44 : Value) (w45 : Value) (w46 : Value) (w47 : Value) (w48 : Value) (w49 : Value) (w50 : Value) (w51 : Value) (w52 : Value) (w53 : Value) (w54 : Value) (w55 : Value) (w56 : Value) (w57 : Value) (w58 : Value) (w59 : Value) (w60 : Value) (w61 : Value) (w62 : Value) (w63 : Value) (w64 : Value) (w65 : Value) (w66 : Value) (w67 : Value) : zM l D y yX10_costOfRound (Cond.code yX10_costOfRound cX10_costOfRound 2 (some .int) :: zT) { frames := 6, cells := 0, slots := 0, locals := 130 } [.ref a0, .int 0] [(a0, .inr (9, [.int 0, .int 0, w1, .int 20, w2, .int 0, .int 0, w3, w4, w5, w6, w7, w8, .ref a9, w10, .int (-1), w11, w12, w13, w14, w15, w16, w17, w18, w19, w20, w21, w22, w23, w24, w25, w26, .int 0, w27, .ref a28, .int 0, .ref a29, .int 0, .ref a30, w31, w32, w33, w34, w35, w36, w37, w38, w39, w40, w41, w42, w43, w44, w45, w46, w47, w48, w49, w50, w51, w52, w53, w54, w55, w56, w57, w58, w59, w60, w61, w62, w63, w64, w65, w66, w67])), (a9, .inl (y 2, 7, .inl (fun _ => 0))), (a28, .inl (y 0, 7, .inl (upd (upd (upd (upd (upd (upd (upd (fun _ => 0) 0 99999) 1 99999) 2 99999) 3 99999) 4 99999) 5 99999) 6 99999))), (a29, .inl (y 0, 7, .inl (fun _ => 0))), (a30, .inl (y 0, 7, .inl (fun _ => 0)))] (zQi (S := Unit) D (fun r_ _ => r_ = 0) (fun _ => [(a0, .inr (9, [.int 0, .int 0, w1, .int 20, w2, .int 0, .int 0, w3, w4, w5, w6, w7, w8, .ref a9, w10, .int (-1), w11, w12, w13, w14, w15, w16, w17, w18, w19, w20, w21, w22, w23, w24, w25, w26, .int 0, w27, .ref a28, .int 0, .ref a29, .int 0, .ref a30, w31, w32, w33, w34, w35, w36, w37, w38, w39, w40, w41, w42, w43, w44, w45, w46, w47, w48, w49, w50, w51, w52, w53, w54, w55, w56, w57, w58, w59, w60, w61, w62, w63, w64, w65, w66, w67])), (a9, .inl (y 2, 7, .inl (fun _ => 0))), (a28, .inl (y 0, 7, .inl (upd (upd (upd (upd (upd (upd (upd (upd (upd (upd (upd (upd (upd (upd (fun _ => 0) 0 99999) 1 99999) 2 99999) 3 99999) 4 99999) 5 99999) 6 99999) 0 99999) 1 99999) 2 99999) 3 99999) 4 99999) 5 99999) 6 99999))), (a29, .inl (y 0, 7, .inl (fun _ => 0))), (a30, .inl (y 0, 7, .inl (fun _ => 0)))])) := by
  refine zent (cc := cX10_costOfRound) (maxL := 2) (ret := (some .int)) (by decide) (Nat.le_of_ble_eq_true rfl) ?_
  intro p e s m below meth c A H locs ls hx hb hml hr ht hown hlocks hin hA hK hE hS hW hl
  have hown : s.vm.findClass RX10 = some m.cls := hown
  have hW : zPD D A [(a0, .inr (9, [.int 0, .int 0, w1, .int 20, w2, .int 0, .int 0, w3, w4, w5, w6, w7, w8, .ref a9, w10, .int (-1), w11, w12, w13, w14, w15, w16, w17, w18, w19, w20, w21, w22, w23, w24, w25, w26, .int 0, w27, .ref a28, .int 0, .ref a29, .int 0, .ref a30, w31, w32, w33, w34, w35, w36, w37, w38, w39, w40, w41, w42, w43, w44, w45, w46, w47, w48, w49, w50, w51, w52, w53, w54, w55, w56, w57, w58, w59, w60, w61, w62, w63, w64, w65, w66, w67])), (a9, .inl (y 2, 7, .inl (fun _ => 0))), (a28, .inl (y 0, 7, .inl (upd (upd (upd (upd (upd (upd (upd (fun _ => 0) 0 99999) 1 99999) 2 99999) 3 99999) 4 99999) 5 99999) 6 99999))), (a29, .inl (y 0, 7, .inl (fun _ => 0))), (a30, .inl (y 0, 7, .inl (fun _ => 0)))] H := hW
  have hl : lv_has ls 2 [(0, .ref a0), (1, .int 0)] := hl
  refine lv_aload_n hx hb dX10_costOfRound_0 rfl (lv_at hl 0 rfl) ?_
  refine zgo_v (wr := [(a9, .inl (y 2, 7, .inl (fun _ => 0))), (a28, .inl (y 0, 7, .inl (upd (upd (upd (upd (upd (upd (upd (fun _ => 0) 0 99999) 1 99999) 2 99999) 3 99999) 4 99999) 5 99999) 6 99999))), (a29, .inl (y 0, 7, .inl (fun _ => 0))), (a30, .inl (y 0, 7, .inl (fun _ => 0)))]) (zrunV (As := []) (rest := []) ⟨hx, hb, hml, hown, ht⟩ (zc_X10_layRain_0 l D y a0 (.int 0) w1 (.int 20) w2 (.int 0) (.int 0) w3 w4 w5 w6 w7 w8 (.ref a9) w10 w11 w12 w13 w14 w15 w16 w17 w18 w19 w20 w21 w22 w23 w24 w25 w26 w27 (.ref a28) (.int 0) (.ref a29) (.int 0) (.ref a30) w31 w32 w33 w34 w35 w36 w37 w38 w39 w40 w41 w42 w43 w44 w45 w46 w47 w48 w49 w50 w51 w52 w53 w54 w55 w56 w57 w58 w59 w60 w61 w62 w63 w64 w65 w66 w67) (cwV 0 ht (zgV zm_377 zm_378 zm_379 zm_5 zm_380) rfl rfl rfl (by decide +kernel) ⟨(Nat.le_of_ble_eq_true rfl), (Nat.le_of_ble_eq_true rfl)⟩) hK hE hS hA hW [0] (by decide) rfl 0 rfl rfl rfl rfl hl.1 rfl (Nat.le_of_ble_eq_true rfl) dX10_costOfRound_1 (Nat.le_of_ble_eq_true rfl) (Nat.le_of_ble_eq_true rfl)) hS hA hW [0] [1, 2, 3, 4] rfl rfl (by decide) (by decide) (fun u H locs hw hW hS => ?_)
  have hW : zPD D A [(a9, .inl (y 2, 7, .inl (fun _ => 0))), (a28, .inl (y 0, 7, .inl (upd (upd (upd (upd (upd (upd (upd (fun _ => 0) 0 99999) 1 99999) 2 99999) 3 99999) 4 99999) 5 99999) 6 99999))), (a29, .inl (y 0, 7, .inl (fun _ => 0))), (a30, .inl (y 0, 7, .inl (fun _ => 0))), (a0, .inr (9, [.int 0, .int 0, w1, .int 20, w2, .int 0, .int 0, w3, w4, w5, w6, w7, w8, .ref a9, w10, .int (-1), w11, w12, w13, w14, w15, w16, w17, w18, w19, w20, w21, w22, w23, w24, w25, w26, .int 0, w27, .ref a28, .int 0, .ref a29, .int 0, .ref a30, w31, w32, w33, w34, w35, w36, w37, w38, w39, w40, w41, w42, w43, w44, w45, w46, w47, w48, w49, w50, w51, w52, w53, w54, w55, w56, w57, w58, w59, w60, w61, w62, w63, w64, w65, w66, w67]))] H := hW
  refine lv_aload_n hx hb dX10_costOfRound_4 rfl (lv_at hl 0 rfl) ?_
  refine zgo_v (wr := [(a9, .inl (y 2, 7, .inl (fun _ => 0))), (a28, .inl (y 0, 7, .inl (upd (upd (upd (upd (upd (upd (upd (fun _ => 0) 0 99999) 1 99999) 2 99999) 3 99999) 4 99999) 5 99999) 6 99999)))]) (zrunV (As := []) (rest := []) ⟨hx, hb, hml, hown, ht⟩ (zc_X10_layRound_0 l D y a0 (.int 0) (.int 0) w1 (.int 20) w2 (.int 0) (.int 0) w3 w4 w5 w6 w7 w8 (.ref a9) w10 (.int (-1)) w11 w12 w13 w14 w15 w16 w17 w18 w19 w20 w21 w22 w23 w24 w25 w26 (.int 0) w27 (.ref a28) a29 a30 w31 w32 w33 w34 w35 w36 w37 w38 w39 w40 w41 w42 w43 w44 w45 w46 w47 w48 w49 w50 w51 w52 w53 w54 w55 w56 w57 w58 w59 w60 w61 w62 w63 w64 w65 w66 w67) (cwV 0 ht (zgV zm_844 zm_845 zm_846 zm_5 zm_847) rfl rfl rfl (by decide +kernel) ⟨(Nat.le_of_ble_eq_true rfl), (Nat.le_of_ble_eq_true rfl)⟩) hK hE hS hA hW [4, 2, 3] (by decide) rfl 0 rfl rfl rfl rfl hl.1 rfl (Nat.le_of_ble_eq_true rfl) dX10_costOfRound_5 (Nat.le_of_ble_eq_true rfl) (Nat.le_of_ble_eq_true rfl)) hS hA hW [4, 2, 3] [0, 1] rfl rfl (by decide) (by decide) (fun u H locs hw hW hS => ?_)
  have hW : zPD D A [(a9, .inl (y 2, 7, .inl (fun _ => 0))), (a28, .inl (y 0, 7, .inl (upd (upd (upd (upd (upd (upd (upd (fun _ => 0) 0 99999) 1 99999) 2 99999) 3 99999) 4 99999) 5 99999) 6 99999))), (a0, .inr (9, [.int 0, .int 0, w1, .int 20, w2, .int 0, .int 0, w3, w4, w5, w6, w7, w8, .ref a9, w10, .int (-1), w11, w12, w13, w14, w15, w16, w17, w18, w19, w20, w21, w22, w23, w24, w25, w26, .int 0, w27, .ref a28, .int 0, .ref a29, .int 0, .ref a30, w31, w32, w33, w34, w35, w36, w37, w38, w39, w40, w41, w42, w43, w44, w45, w46, w47, w48, w49, w50, w51, w52, w53, w54, w55, w56, w57, w58, w59, w60, w61, w62, w63, w64, w65, w66, w67])), (a29, .inl (y 0, 7, .inl (fun _ => 0))), (a30, .inl (y 0, 7, .inl (fun _ => 0)))] H := hW
  refine lv_aload_n hx hb dX10_costOfRound_8 rfl (lv_at hl 0 rfl) ?_
  refine lv_iload_n hx hb dX10_costOfRound_9 rfl (lv_at hl 1 rfl) ?_
  refine zgo_i (wr := [(a29, .inl (y 0, 7, .inl (fun _ => 0))), (a30, .inl (y 0, 7, .inl (fun _ => 0)))]) (zrunV (As := [.int 0]) (rest := []) ⟨hx, hb, hml, hown, ht⟩ (zc_X10_costOfPath_4 l D y a0 w1 w2 w3 w4 w5 w6 w7 w8 a9 w10 w11 w12 w13 w14 w15 w16 w17 w18 w19 w20 w21 w22 w23 w24 w25 w26 (.int 0) w27 a28 (.ref a29) (.int 0) (.ref a30) w31 w32 w33 w34 w35 w36 w37 w38 w39 w40 w41 w42 w43 w44 w45 w46 w47 w48 w49 w50 w51 w52 w53 w54 w55 w56 w57 w58 w59 w60 w61 w62 w63 w64 w65 w66 w67) (cwV 1 ht (zgV zm_848 zm_849 zm_850 zm_5 zm_851) rfl rfl rfl (by decide +kernel) ⟨(Nat.le_of_ble_eq_true rfl), (Nat.le_of_ble_eq_true rfl)⟩) hK hE hS hA hW [2, 0, 1] (by decide) rfl 0 rfl rfl rfl rfl hl.1 rfl (Nat.le_of_ble_eq_true rfl) dX10_costOfRound_10 (Nat.le_of_ble_eq_true rfl) (Nat.le_of_ble_eq_true rfl)) hS hA hW [2, 0, 1] [3, 4] rfl rfl (by decide) (by decide) (fun r3_ u H locs hw hW hS => ?_)
  have hW : zPD D A [(a29, .inl (y 0, 7, .inl (fun _ => 0))), (a30, .inl (y 0, 7, .inl (fun _ => 0))), (a0, .inr (9, [.int 0, .int 0, w1, .int 20, w2, .int 0, .int 0, w3, w4, w5, w6, w7, w8, .ref a9, w10, .int (-1), w11, w12, w13, w14, w15, w16, w17, w18, w19, w20, w21, w22, w23, w24, w25, w26, .int 0, w27, .ref a28, .int 0, .ref a29, .int 0, .ref a30, w31, w32, w33, w34, w35, w36, w37, w38, w39, w40, w41, w42, w43, w44, w45, w46, w47, w48, w49, w50, w51, w52, w53, w54, w55, w56, w57, w58, w59, w60, w61, w62, w63, w64, w65, w66, w67])), (a9, .inl (y 2, 7, .inl (fun _ => 0))), (a28, .inl (y 0, 7, .inl (upd (upd (upd (upd (upd (upd (upd (upd (upd (upd (upd (upd (upd (upd (fun _ => 0) 0 99999) 1 99999) 2 99999) 3 99999) 4 99999) 5 99999) 6 99999) 0 99999) 1 99999) 2 99999) 3 99999) 4 99999) 5 99999) 6 99999)))] H := hW
  have hw : r3_ = 0 := hw
  subst hw
  exact zret_i (v := 0) hx hb hr hlocks hS () rfl (hW.sub [2, 3, 4, 0, 1] (by decide) rfl) (Nat.le_of_ble_eq_true rfl) (Nat.le_of_ble_eq_true rfl) dX10_costOfRound_13
set_option maxHeartbeats 8000000 in
set_option maxRecDepth 100000 in
theorem zc_X10_costOfPath_5 (l : Launch) (D : va_G) (y : Nat → ClassId) (a0 : Nat) (w1 : Value) (w2 : Value) (w3 : Value) (w4 : Value) (w5 : Value) (w6 : Value) (w7 : Value) (w8 : Value) (a9 : Nat) (w10 : Value) (w11 : Value) (w12 : Value) (w13 : Value) (w14 : Value) (w15 : Value) (w16 : Value) (w17 : Value) (w18 : Value) (w19 : Value) (w20 : Value) (w21 : Value) (w22 : Value) (w23 : Value) (w24 : Value) (w25 : Value) (w26 : Value) (w27 : Value) (w28 : Value) (a29 : Nat) (w30 : Value) (w31 : Value) (w32 : Value) (w33 : Value) (w34 : Value) (w35 : Value) (w36 : Value) (w37 : Value) (w38 : Value) (w39 : Value) (w40 : Value) (w41 : Value) (w42 : Value) (w43 : Value) (w44 : Value) (w45 : Value) (w46 : Value) (w47 : Value) (w48 : Value) (w49 : Value) (w50 : Value) (w51 : Value) (w52 : Value) (w53 : Value) (w54 : Value) (w55 : Value) (w56 : Value) (w57 : Value) (w58 : Value) (w59 : Value) (w60 : Value) (w61 : Value) (w62 : Value) (w63 : Value) (w64 : Value) (w65 : Value) (w66 : Value) (w67 : Value) (w68 : Value) (w69 : Value) : zM l D y yX10_costOfPath (Cond.code yX10_costOfPath cX10_costOfPath 3 (some .int) :: zT) { frames := 5, cells := 0, slots := 0, locals := 108 } [.ref a0, .int 0] [(a0, .inr (9, [.int 0, .int 0, w1, .int 20, w2, .int 0, .int 0, w3, w4, w5, w6, w7, w8, .ref a9, w10, .int (-1), w11, w12, w13, w14, w15, w16, w17, w18, w19, w20, w21, w22, w23, w24, w25, w26, w27, w28, .ref a29, .int 0, w30, w31, w32, w33, w34, w35, w36, w37, w38, w39, w40, w41, w42, w43, w44, w45, w46, w47, w48, w49, w50, w51, w52, w53, w54, w55, w56, w57, w58, w59, w60, w61, w62, w63, w64, w65, w66, w67, w68, w69])), (a9, .inl (y 2, 7, .inl (fun _ => 0))), (a29, .inl (y 0, 7, .inl (upd (upd (upd (upd (upd (upd (upd (upd (upd (upd (upd (upd (upd (upd (fun _ => 0) 0 99999) 1 99999) 2 99999) 3 99999) 4 99999) 5 99999) 6 99999) 0 99999) 1 99999) 2 99999) 3 99999) 4 99999) 5 99999) 6 99999)))] (zQi (S := Unit) D (fun r_ _ => r_ = 0) (fun _ => [(a0, .inr (9, [.int 0, .int 0, w1, .int 20, w2, .int 0, .int 0, w3, w4, w5, w6, w7, w8, .ref a9, w10, .int (-1), w11, w12, w13, w14, w15, w16, w17, w18, w19, w20, w21, w22, w23, w24, w25, w26, w27, w28, .ref a29, .int 0, w30, w31, w32, w33, w34, w35, w36, w37, w38, w39, w40, w41, w42, w43, w44, w45, w46, w47, w48, w49, w50, w51, w52, w53, w54, w55, w56, w57, w58, w59, w60, w61, w62, w63, w64, w65, w66, w67, w68, w69])), (a9, .inl (y 2, 7, .inl (fun _ => 0))), (a29, .inl (y 0, 7, .inl (upd (upd (upd (upd (upd (upd (upd (upd (upd (upd (upd (upd (upd (upd (upd (upd (upd (upd (upd (upd (upd (fun _ => 0) 0 99999) 1 99999) 2 99999) 3 99999) 4 99999) 5 99999) 6 99999) 0 99999) 1 99999) 2 99999) 3 99999) 4 99999) 5 99999) 6 99999) 0 99999) 1 99999) 2 99999) 3 99999) 4 99999) 5 99999) 6 99999)))])) := by
  refine zent (cc := cX10_costOfPath) (maxL := 3) (ret := (some .int)) (by decide) (Nat.le_of_ble_eq_true rfl) ?_
  intro p e s m below meth c A H locs ls hx hb hml hr ht hown hlocks hin hA hK hE hS hW hl
  have hown : s.vm.findClass RX10 = some m.cls := hown
  have hW : zPD D A [(a0, .inr (9, [.int 0, .int 0, w1, .int 20, w2, .int 0, .int 0, w3, w4, w5, w6, w7, w8, .ref a9, w10, .int (-1), w11, w12, w13, w14, w15, w16, w17, w18, w19, w20, w21, w22, w23, w24, w25, w26, w27, w28, .ref a29, .int 0, w30, w31, w32, w33, w34, w35, w36, w37, w38, w39, w40, w41, w42, w43, w44, w45, w46, w47, w48, w49, w50, w51, w52, w53, w54, w55, w56, w57, w58, w59, w60, w61, w62, w63, w64, w65, w66, w67, w68, w69])), (a9, .inl (y 2, 7, .inl (fun _ => 0))), (a29, .inl (y 0, 7, .inl (upd (upd (upd (upd (upd (upd (upd (upd (upd (upd (upd (upd (upd (upd (fun _ => 0) 0 99999) 1 99999) 2 99999) 3 99999) 4 99999) 5 99999) 6 99999) 0 99999) 1 99999) 2 99999) 3 99999) 4 99999) 5 99999) 6 99999)))] H := hW
  have hl : lv_has ls 3 [(0, .ref a0), (1, .int 0)] := hl
  refine lv_aload_n hx hb dX10_costOfPath_0 rfl (lv_at hl 0 rfl) ?_
  refine zgo_v (wr := []) (zrunV (As := []) (rest := []) ⟨hx, hb, hml, hown, ht⟩ (zc_X10_layOpen_2 l D y a0 (.int 0) (.int 0) w1 (.int 20) w2 (.int 0) (.int 0) w3 w4 w5 w6 w7 w8 a9 w10 (.int (-1)) w11 w12 w13 w14 w15 w16 w17 w18 w19 w20 w21 w22 w23 w24 w25 w26 w27 w28 a29 (.int 0) w30 w31 w32 w33 w34 w35 w36 w37 w38 w39 w40 w41 w42 w43 w44 w45 w46 w47 w48 w49 w50 w51 w52 w53 w54 w55 w56 w57 w58 w59 w60 w61 w62 w63 w64 w65 w66 w67 w68 w69) (cwV 0 ht (zgV zm_397 zm_398 zm_399 zm_5 zm_400) rfl rfl rfl (by decide +kernel) ⟨(Nat.le_of_ble_eq_true rfl), (Nat.le_of_ble_eq_true rfl)⟩) hK hE hS hA hW [0, 1, 2] (by decide) rfl 0 rfl rfl rfl rfl hl.1 rfl (Nat.le_of_ble_eq_true rfl) dX10_costOfPath_1 (Nat.le_of_ble_eq_true rfl) (Nat.le_of_ble_eq_true rfl)) hS hA hW [0, 1, 2] [] rfl rfl (by decide) (by decide) (fun u H locs hw hW hS => ?_)
  have hW : zPD D A [(a0, .inr (9, [.int 0, .int 0, w1, .int 20, w2, .int 0, .int 0, w3, w4, w5, w6, w7, w8, .ref a9, w10, .int (-1), w11, w12, w13, w14, w15, w16, w17, w18, w19, w20, w21, w22, w23, w24, w25, w26, w27, w28, .ref a29, .int 0, w30, w31, w32, w33, w34, w35, w36, w37, w38, w39, w40, w41, w42, w43, w44, w45, w46, w47, w48, w49, w50, w51, w52, w53, w54, w55, w56, w57, w58, w59, w60, w61, w62, w63, w64, w65, w66, w67, w68, w69])), (a9, .inl (y 2, 7, .inl (fun _ => 0))), (a29, .inl (y 0, 7, .inl (upd (upd (upd (upd (upd (upd (upd (upd (upd (upd (upd (upd (upd (upd (upd (upd (upd (upd (upd (upd (upd (fun _ => 0) 0 99999) 1 99999) 2 99999) 3 99999) 4 99999) 5 99999) 6 99999) 0 99999) 1 99999) 2 99999) 3 99999) 4 99999) 5 99999) 6 99999) 0 99999) 1 99999) 2 99999) 3 99999) 4 99999) 5 99999) 6 99999)))] H := hW
  refine lv_aload_n hx hb dX10_costOfPath_4 rfl (lv_at hl 0 rfl) ?_
  refine lv_iconst (v := 0) hx hb dX10_costOfPath_5 (by decide) ?_
  refine lv_aload_n hx hb dX10_costOfPath_6 rfl (lv_at hl 0 rfl) ?_
  refine zget hx hb ht inlX10 hown hK hW 0 rfl rfl 35 (by decide) zm_175 rfl dX10_costOfPath_7 ?_
  refine lv_aload_n hx hb dX10_costOfPath_10 rfl (lv_at hl 0 rfl) ?_
  refine zget hx hb ht inlX10 hown hK hW 0 rfl rfl 1 (by decide) zm_141 rfl dX10_costOfPath_11 ?_
  refine lv_iload_n hx hb dX10_costOfPath_14 rfl (lv_at hl 1 rfl) ?_
  refine lv_iadd hx hb dX10_costOfPath_15 ?_
  refine ztop (w := .int 0) (congrArg Value.int (by decide)) ?_
  refine zgo_i (wr := [(a9, .inl (y 2, 7, .inl (fun _ => 0))), (a29, .inl (y 0, 7, .inl (upd (upd (upd (upd (upd (upd (upd (upd (upd (upd (upd (upd (upd (upd (upd (upd (upd (upd (upd (upd (upd (fun _ => 0) 0 99999) 1 99999) 2 99999) 3 99999) 4 99999) 5 99999) 6 99999) 0 99999) 1 99999) 2 99999) 3 99999) 4 99999) 5 99999) 6 99999) 0 99999) 1 99999) 2 99999) 3 99999) 4 99999) 5 99999) 6 99999)))]) (zrunV (As := [.int 0, .int 0, .int 0]) (rest := []) ⟨hx, hb, hml, hown, ht⟩ (zc_X10_goes_0 l D y a0 (.int 0) (.int 0) w1 (.int 20) w2 w3 w4 w5 w6 w7 w8 (.ref a9) w10 (.int (-1)) w11 w12 w13 w14 w15 w16 w17 w18 w19 w20 w21 w22 w23 w24 w25 w26 w27 w28 (.ref a29) (.int 0) w30 w31 w32 w33 w34 w35 w36 w37 w38 w39 w40 w41 w42 w43 w44 w45 w46 w47 w48 w49 w50 w51 w52 w53 w54 w55 w56 w57 w58 w59 w60 w61 w62 w63 w64 w65 w66 w67 w68 w69) (cwV 3 ht (zgV zm_852 zm_853 zm_854 zm_5 zm_855) rfl rfl rfl (by decide +kernel) ⟨(Nat.le_of_ble_eq_true rfl), (Nat.le_of_ble_eq_true rfl)⟩) hK hE hS hA hW [0] (by decide) rfl 0 rfl rfl rfl rfl hl.1 rfl (Nat.le_of_ble_eq_true rfl) dX10_costOfPath_16 (Nat.le_of_ble_eq_true rfl) (Nat.le_of_ble_eq_true rfl)) hS hA hW [0] [1, 2] rfl rfl (by decide) (by decide) (fun r2_ u H locs hw hW hS => ?_)
  have hW : zPD D A [(a9, .inl (y 2, 7, .inl (fun _ => 0))), (a29, .inl (y 0, 7, .inl (upd (upd (upd (upd (upd (upd (upd (upd (upd (upd (upd (upd (upd (upd (upd (upd (upd (upd (upd (upd (upd (fun _ => 0) 0 99999) 1 99999) 2 99999) 3 99999) 4 99999) 5 99999) 6 99999) 0 99999) 1 99999) 2 99999) 3 99999) 4 99999) 5 99999) 6 99999) 0 99999) 1 99999) 2 99999) 3 99999) 4 99999) 5 99999) 6 99999))), (a0, .inr (9, [.int 0, .int 0, w1, .int 20, w2, .int 0, .int 0, w3, w4, w5, w6, w7, w8, .ref a9, w10, .int (-1), w11, w12, w13, w14, w15, w16, w17, w18, w19, w20, w21, w22, w23, w24, w25, w26, w27, w28, .ref a29, .int 0, w30, w31, w32, w33, w34, w35, w36, w37, w38, w39, w40, w41, w42, w43, w44, w45, w46, w47, w48, w49, w50, w51, w52, w53, w54, w55, w56, w57, w58, w59, w60, w61, w62, w63, w64, w65, w66, w67, w68, w69]))] H := hW
  have hw : r2_ = 0 := hw
  subst hw
  refine lv_istore_n (lv' := [(2, .int 0), (0, .ref a0), (1, .int 0)]) hx hb dX10_costOfPath_19 rfl hl (by decide) rfl (fun ls hl => ?_)
  refine lv_aload_n hx hb dX10_costOfPath_20 rfl (lv_at hl 1 rfl) ?_
  refine zgo_i (wr := [(a9, .inl (y 2, 7, .inl (fun _ => 0))), (a29, .inl (y 0, 7, .inl (upd (upd (upd (upd (upd (upd (upd (upd (upd (upd (upd (upd (upd (upd (upd (upd (upd (upd (upd (upd (upd (fun _ => 0) 0 99999) 1 99999) 2 99999) 3 99999) 4 99999) 5 99999) 6 99999) 0 99999) 1 99999) 2 99999) 3 99999) 4 99999) 5 99999) 6 99999) 0 99999) 1 99999) 2 99999) 3 99999) 4 99999) 5 99999) 6 99999)))]) (zrunV (As := []) (rest := []) ⟨hx, hb, hml, hown, ht⟩ (zc_X10_harmTillEnd_0 l D y a0 w1 w2 (.int 0) (.int 0) w3 w4 w5 w6 w7 w8 (.ref a9) w10 w11 w12 w13 w14 w15 w16 w17 w18 w19 w20 w21 w22 w23 w24 w25 w26 w27 w28 (.ref a29) (.int 0) w30 w31 w32 w33 w34 w35 w36 w37 w38 w39 w40 w41 w42 w43 w44 w45 w46 w47 w48 w49 w50 w51 w52 w53 w54 w55 w56 w57 w58 w59 w60 w61 w62 w63 w64 w65 w66 w67 w68 w69) (cwV 0 ht (zgV zm_856 zm_857 zm_858 zm_5 zm_859) rfl rfl rfl (by decide +kernel) ⟨(Nat.le_of_ble_eq_true rfl), (Nat.le_of_ble_eq_true rfl)⟩) hK hE hS hA hW [2] (by decide) rfl 0 rfl rfl rfl rfl hl.1 rfl (Nat.le_of_ble_eq_true rfl) dX10_costOfPath_21 (Nat.le_of_ble_eq_true rfl) (Nat.le_of_ble_eq_true rfl)) hS hA hW [2] [0, 1] rfl rfl (by decide) (by decide) (fun r3_ u H locs hw hW hS => ?_)
  have hW : zPD D A [(a9, .inl (y 2, 7, .inl (fun _ => 0))), (a29, .inl (y 0, 7, .inl (upd (upd (upd (upd (upd (upd (upd (upd (upd (upd (upd (upd (upd (upd (upd (upd (upd (upd (upd (upd (upd (fun _ => 0) 0 99999) 1 99999) 2 99999) 3 99999) 4 99999) 5 99999) 6 99999) 0 99999) 1 99999) 2 99999) 3 99999) 4 99999) 5 99999) 6 99999) 0 99999) 1 99999) 2 99999) 3 99999) 4 99999) 5 99999) 6 99999))), (a0, .inr (9, [.int 0, .int 0, w1, .int 20, w2, .int 0, .int 0, w3, w4, w5, w6, w7, w8, .ref a9, w10, .int (-1), w11, w12, w13, w14, w15, w16, w17, w18, w19, w20, w21, w22, w23, w24, w25, w26, w27, w28, .ref a29, .int 0, w30, w31, w32, w33, w34, w35, w36, w37, w38, w39, w40, w41, w42, w43, w44, w45, w46, w47, w48, w49, w50, w51, w52, w53, w54, w55, w56, w57, w58, w59, w60, w61, w62, w63, w64, w65, w66, w67, w68, w69]))] H := hW
  have hw : r3_ = 0 := hw
  subst hw
  exact zret_i (v := 0) hx hb hr hlocks hS () rfl (hW.sub [2, 0, 1] (by decide) rfl) (Nat.le_of_ble_eq_true rfl) (Nat.le_of_ble_eq_true rfl) dX10_costOfPath_24
set_option maxHeartbeats 8000000 in
set_option maxRecDepth 100000 in
theorem zc_X10_costOfRound_2 (l : Launch) (D : va_G) (y : Nat → ClassId) (a0 : Nat) (w1 : Value) (w2 : Value) (w3 : Value) (w4 : Value) (w5 : Value) (w6 : Value) (w7 : Value) (w8 : Value) (a9 : Nat) (w10 : Value) (w11 : Value) (w12 : Value) (w13 : Value) (w14 : Value) (w15 : Value) (w16 : Value) (w17 : Value) (w18 : Value) (w19 : Value) (w20 : Value) (w21 : Value) (w22 : Value) (w23 : Value) (w24 : Value) (w25 : Value) (w26 : Value) (w27 : Value) (a28 : Nat) (a29 : Nat) (a30 : Nat) (w31 : Value) (w32 : Value) (w33 : Value) (w34 : Value) (w35 : Value) (w36 : Value) (w37 : Value) (w38 : Value) (w39 : Value) (w40 : Value) (w41 : Value) (w42 : Value) (w43 : Value) (w44 : Value) (w45 : Value) (w46 : Value) (w47 : Value) (w48 : Value) (w49 : Value) (w50 : Value) (w51 : Value) (w52 : Value) (w53 : Value) (w54 : Value) (w55 : Value) (w56 : Value) (w57 : Value) (w58 : Value) (w59 : Value) (w60 : Value) (w61 : Value) (w62 : Value) (w63 : Value) (w64 : Value) (w65 : Value) (w66 : Value) (w67 : Value) : zM l D y yX10_costOfRound (Cond.code yX10_costOfRound cX10_costOfRound 2 (some .int) :: zT) { frames := 6, cells := 0, slots := 0, locals := 130 } [.ref a0, .int 0] [(a0, .inr (9, [.int 0, .int 0, w1, .int 20, w2, .int 0, .int 0, w3, w4, w5, w6, w7, w8, .ref a9, w10, .int (-1), w11, w12, w13, w14, w15, w16, w17, w18, w19, w20, w21, w22, w23, w24, w25, w26, .int 0, w27, .ref a28, .int 0, .ref a29, .int 0, .ref a30, w31, w32, w33, w34, w35, w36, w37, w38, w39, w40, w41, w42, w43, w44, w45, w46, w47, w48, w49, w50, w51, w52, w53, w54, w55, w56, w57, w58, w59, w60, w61, w62, w63, w64, w65, w66, w67])), (a9, .inl (y 2, 7, .inl (fun _ => 0))), (a28, .inl (y 0, 7, .inl (upd (upd (upd (upd (upd (upd (upd (upd (upd (upd (upd (upd (upd (upd (fun _ => 0) 0 99999) 1 99999) 2 99999) 3 99999) 4 99999) 5 99999) 6 99999) 0 99999) 1 99999) 2 99999) 3 99999) 4 99999) 5 99999) 6 99999))), (a29, .inl (y 0, 7, .inl (fun _ => 0))), (a30, .inl (y 0, 7, .inl (fun _ => 0)))] (zQi (S := Unit) D (fun r_ _ => r_ = 0) (fun _ => [(a0, .inr (9, [.int 0, .int 0, w1, .int 20, w2, .int 0, .int 0, w3, w4, w5, w6, w7, w8, .ref a9, w10, .int (-1), w11, w12, w13, w14, w15, w16, w17, w18, w19, w20, w21, w22, w23, w24, w25, w26, .int 0, w27, .ref a28, .int 0, .ref a29, .int 0, .ref a30, w31, w32, w33, w34, w35, w36, w37, w38, w39, w40, w41, w42, w43, w44, w45, w46, w47, w48, w49, w50, w51, w52, w53, w54, w55, w56, w57, w58, w59, w60, w61, w62, w63, w64, w65, w66, w67])), (a9, .inl (y 2, 7, .inl (fun _ => 0))), (a28, .inl (y 0, 7, .inl (upd (upd (upd (upd (upd (upd (upd (upd (upd (upd (upd (upd (upd (upd (upd (upd (upd (upd (upd (upd (upd (fun _ => 0) 0 99999) 1 99999) 2 99999) 3 99999) 4 99999) 5 99999) 6 99999) 0 99999) 1 99999) 2 99999) 3 99999) 4 99999) 5 99999) 6 99999) 0 99999) 1 99999) 2 99999) 3 99999) 4 99999) 5 99999) 6 99999))), (a29, .inl (y 0, 7, .inl (fun _ => 0))), (a30, .inl (y 0, 7, .inl (fun _ => 0)))])) := by
  refine zent (cc := cX10_costOfRound) (maxL := 2) (ret := (some .int)) (by decide) (Nat.le_of_ble_eq_true rfl) ?_
  intro p e s m below meth c A H locs ls hx hb hml hr ht hown hlocks hin hA hK hE hS hW hl
  have hown : s.vm.findClass RX10 = some m.cls := hown
  have hW : zPD D A [(a0, .inr (9, [.int 0, .int 0, w1, .int 20, w2, .int 0, .int 0, w3, w4, w5, w6, w7, w8, .ref a9, w10, .int (-1), w11, w12, w13, w14, w15, w16, w17, w18, w19, w20, w21, w22, w23, w24, w25, w26, .int 0, w27, .ref a28, .int 0, .ref a29, .int 0, .ref a30, w31, w32, w33, w34, w35, w36, w37, w38, w39, w40, w41, w42, w43, w44, w45, w46, w47, w48, w49, w50, w51, w52, w53, w54, w55, w56, w57, w58, w59, w60, w61, w62, w63, w64, w65, w66, w67])), (a9, .inl (y 2, 7, .inl (fun _ => 0))), (a28, .inl (y 0, 7, .inl (upd (upd (upd (upd (upd (upd (upd (upd (upd (upd (upd (upd (upd (upd (fun _ => 0) 0 99999) 1 99999) 2 99999) 3 99999) 4 99999) 5 99999) 6 99999) 0 99999) 1 99999) 2 99999) 3 99999) 4 99999) 5 99999) 6 99999))), (a29, .inl (y 0, 7, .inl (fun _ => 0))), (a30, .inl (y 0, 7, .inl (fun _ => 0)))] H := hW
  have hl : lv_has ls 2 [(0, .ref a0), (1, .int 0)] := hl
  refine lv_aload_n hx hb dX10_costOfRound_0 rfl (lv_at hl 0 rfl) ?_
  refine zgo_v (wr := [(a9, .inl (y 2, 7, .inl (fun _ => 0))), (a28, .inl (y 0, 7, .inl (upd (upd (upd (upd (upd (upd (upd (upd (upd (upd (upd (upd (upd (upd (fun _ => 0) 0 99999) 1 99999) 2 99999) 3 99999) 4 99999) 5 99999) 6 99999) 0 99999) 1 99999) 2 99999) 3 99999) 4 99999) 5 99999) 6 99999))), (a29, .inl (y 0, 7, .inl (fun _ => 0))), (a30, .inl (y 0, 7, .inl (fun _ => 0)))]) (zrunV (As := []) (rest := []) ⟨hx, hb, hml, hown, ht⟩ (zc_X10_layRain_0 l D y a0 (.int 0) w1 (.int 20) w2 (.int 0) (.int 0) w3 w4 w5 w6 w7 w8 (.ref a9) w10 w11 w12 w13 w14 w15 w16 w17 w18 w19 w20 w21 w22 w23 w24 w25 w26 w27 (.ref a28) (.int 0) (.ref a29) (.int 0) (.ref a30) w31 w32 w33 w34 w35 w36 w37 w38 w39 w40 w41 w42 w43 w44 w45 w46 w47 w48 w49 w50 w51 w52 w53 w54 w55 w56 w57 w58 w59 w60 w61 w62 w63 w64 w65 w66 w67) (cwV 0 ht (zgV zm_377 zm_378 zm_379 zm_5 zm_380) rfl rfl rfl (by decide +kernel) ⟨(Nat.le_of_ble_eq_true rfl), (Nat.le_of_ble_eq_true rfl)⟩) hK hE hS hA hW [0] (by decide) rfl 0 rfl rfl rfl rfl hl.1 rfl (Nat.le_of_ble_eq_true rfl) dX10_costOfRound_1 (Nat.le_of_ble_eq_true rfl) (Nat.le_of_ble_eq_true rfl)) hS hA hW [0] [1, 2, 3, 4] rfl rfl (by decide) (by decide) (fun u H locs hw hW hS => ?_)
  have hW : zPD D A [(a9, .inl (y 2, 7, .inl (fun _ => 0))), (a28, .inl (y 0, 7, .inl (upd (upd (upd (upd (upd (upd (upd (upd (upd (upd (upd (upd (upd (upd (fun _ => 0) 0 99999) 1 99999) 2 99999) 3 99999) 4 99999) 5 99999) 6 99999) 0 99999) 1 99999) 2 99999) 3 99999) 4 99999) 5 99999) 6 99999))), (a29, .inl (y 0, 7, .inl (fun _ => 0))), (a30, .inl (y 0, 7, .inl (fun _ => 0))), (a0, .inr (9, [.int 0, .int 0, w1, .int 20, w2, .int 0, .int 0, w3, w4, w5, w6, w7, w8, .ref a9, w10, .int (-1), w11, w12, w13, w14, w15, w16, w17, w18, w19, w20, w21, w22, w23, w24, w25, w26, .int 0, w27, .ref a28, .int 0, .ref a29, .int 0, .ref a30, w31, w32, w33, w34, w35, w36, w37, w38, w39, w40, w41, w42, w43, w44, w45, w46, w47, w48, w49, w50, w51, w52, w53, w54, w55, w56, w57, w58, w59, w60, w61, w62, w63, w64, w65, w66, w67]))] H := hW
  refine lv_aload_n hx hb dX10_costOfRound_4 rfl (lv_at hl 0 rfl) ?_
  refine zgo_v (wr := [(a9, .inl (y 2, 7, .inl (fun _ => 0))), (a28, .inl (y 0, 7, .inl (upd (upd (upd (upd (upd (upd (upd (upd (upd (upd (upd (upd (upd (upd (fun _ => 0) 0 99999) 1 99999) 2 99999) 3 99999) 4 99999) 5 99999) 6 99999) 0 99999) 1 99999) 2 99999) 3 99999) 4 99999) 5 99999) 6 99999)))]) (zrunV (As := []) (rest := []) ⟨hx, hb, hml, hown, ht⟩ (zc_X10_layRound_0 l D y a0 (.int 0) (.int 0) w1 (.int 20) w2 (.int 0) (.int 0) w3 w4 w5 w6 w7 w8 (.ref a9) w10 (.int (-1)) w11 w12 w13 w14 w15 w16 w17 w18 w19 w20 w21 w22 w23 w24 w25 w26 (.int 0) w27 (.ref a28) a29 a30 w31 w32 w33 w34 w35 w36 w37 w38 w39 w40 w41 w42 w43 w44 w45 w46 w47 w48 w49 w50 w51 w52 w53 w54 w55 w56 w57 w58 w59 w60 w61 w62 w63 w64 w65 w66 w67) (cwV 0 ht (zgV zm_844 zm_845 zm_846 zm_5 zm_847) rfl rfl rfl (by decide +kernel) ⟨(Nat.le_of_ble_eq_true rfl), (Nat.le_of_ble_eq_true rfl)⟩) hK hE hS hA hW [4, 2, 3] (by decide) rfl 0 rfl rfl rfl rfl hl.1 rfl (Nat.le_of_ble_eq_true rfl) dX10_costOfRound_5 (Nat.le_of_ble_eq_true rfl) (Nat.le_of_ble_eq_true rfl)) hS hA hW [4, 2, 3] [0, 1] rfl rfl (by decide) (by decide) (fun u H locs hw hW hS => ?_)
  have hW : zPD D A [(a9, .inl (y 2, 7, .inl (fun _ => 0))), (a28, .inl (y 0, 7, .inl (upd (upd (upd (upd (upd (upd (upd (upd (upd (upd (upd (upd (upd (upd (fun _ => 0) 0 99999) 1 99999) 2 99999) 3 99999) 4 99999) 5 99999) 6 99999) 0 99999) 1 99999) 2 99999) 3 99999) 4 99999) 5 99999) 6 99999))), (a0, .inr (9, [.int 0, .int 0, w1, .int 20, w2, .int 0, .int 0, w3, w4, w5, w6, w7, w8, .ref a9, w10, .int (-1), w11, w12, w13, w14, w15, w16, w17, w18, w19, w20, w21, w22, w23, w24, w25, w26, .int 0, w27, .ref a28, .int 0, .ref a29, .int 0, .ref a30, w31, w32, w33, w34, w35, w36, w37, w38, w39, w40, w41, w42, w43, w44, w45, w46, w47, w48, w49, w50, w51, w52, w53, w54, w55, w56, w57, w58, w59, w60, w61, w62, w63, w64, w65, w66, w67])), (a29, .inl (y 0, 7, .inl (fun _ => 0))), (a30, .inl (y 0, 7, .inl (fun _ => 0)))] H := hW
  refine lv_aload_n hx hb dX10_costOfRound_8 rfl (lv_at hl 0 rfl) ?_
  refine lv_iload_n hx hb dX10_costOfRound_9 rfl (lv_at hl 1 rfl) ?_
  refine zgo_i (wr := [(a29, .inl (y 0, 7, .inl (fun _ => 0))), (a30, .inl (y 0, 7, .inl (fun _ => 0)))]) (zrunV (As := [.int 0]) (rest := []) ⟨hx, hb, hml, hown, ht⟩ (zc_X10_costOfPath_5 l D y a0 w1 w2 w3 w4 w5 w6 w7 w8 a9 w10 w11 w12 w13 w14 w15 w16 w17 w18 w19 w20 w21 w22 w23 w24 w25 w26 (.int 0) w27 a28 (.ref a29) (.int 0) (.ref a30) w31 w32 w33 w34 w35 w36 w37 w38 w39 w40 w41 w42 w43 w44 w45 w46 w47 w48 w49 w50 w51 w52 w53 w54 w55 w56 w57 w58 w59 w60 w61 w62 w63 w64 w65 w66 w67) (cwV 1 ht (zgV zm_848 zm_849 zm_850 zm_5 zm_851) rfl rfl rfl (by decide +kernel) ⟨(Nat.le_of_ble_eq_true rfl), (Nat.le_of_ble_eq_true rfl)⟩) hK hE hS hA hW [2, 0, 1] (by decide) rfl 0 rfl rfl rfl rfl hl.1 rfl (Nat.le_of_ble_eq_true rfl) dX10_costOfRound_10 (Nat.le_of_ble_eq_true rfl) (Nat.le_of_ble_eq_true rfl)) hS hA hW [2, 0, 1] [3, 4] rfl rfl (by decide) (by decide) (fun r3_ u H locs hw hW hS => ?_)
  have hW : zPD D A [(a29, .inl (y 0, 7, .inl (fun _ => 0))), (a30, .inl (y 0, 7, .inl (fun _ => 0))), (a0, .inr (9, [.int 0, .int 0, w1, .int 20, w2, .int 0, .int 0, w3, w4, w5, w6, w7, w8, .ref a9, w10, .int (-1), w11, w12, w13, w14, w15, w16, w17, w18, w19, w20, w21, w22, w23, w24, w25, w26, .int 0, w27, .ref a28, .int 0, .ref a29, .int 0, .ref a30, w31, w32, w33, w34, w35, w36, w37, w38, w39, w40, w41, w42, w43, w44, w45, w46, w47, w48, w49, w50, w51, w52, w53, w54, w55, w56, w57, w58, w59, w60, w61, w62, w63, w64, w65, w66, w67])), (a9, .inl (y 2, 7, .inl (fun _ => 0))), (a28, .inl (y 0, 7, .inl (upd (upd (upd (upd (upd (upd (upd (upd (upd (upd (upd (upd (upd (upd (upd (upd (upd (upd (upd (upd (upd (fun _ => 0) 0 99999) 1 99999) 2 99999) 3 99999) 4 99999) 5 99999) 6 99999) 0 99999) 1 99999) 2 99999) 3 99999) 4 99999) 5 99999) 6 99999) 0 99999) 1 99999) 2 99999) 3 99999) 4 99999) 5 99999) 6 99999)))] H := hW
  have hw : r3_ = 0 := hw
  subst hw
  exact zret_i (v := 0) hx hb hr hlocks hS () rfl (hW.sub [2, 3, 4, 0, 1] (by decide) rfl) (Nat.le_of_ble_eq_true rfl) (Nat.le_of_ble_eq_true rfl) dX10_costOfRound_13
set_option maxHeartbeats 8000000 in
set_option maxRecDepth 100000 in
theorem zc_X10_costOfPath_6 (l : Launch) (D : va_G) (y : Nat → ClassId) (a0 : Nat) (w1 : Value) (w2 : Value) (w3 : Value) (w4 : Value) (w5 : Value) (w6 : Value) (w7 : Value) (w8 : Value) (a9 : Nat) (w10 : Value) (w11 : Value) (w12 : Value) (w13 : Value) (w14 : Value) (w15 : Value) (w16 : Value) (w17 : Value) (w18 : Value) (w19 : Value) (w20 : Value) (w21 : Value) (w22 : Value) (w23 : Value) (w24 : Value) (w25 : Value) (w26 : Value) (w27 : Value) (w28 : Value) (a29 : Nat) (w30 : Value) (w31 : Value) (w32 : Value) (w33 : Value) (w34 : Value) (w35 : Value) (w36 : Value) (w37 : Value) (w38 : Value) (w39 : Value) (w40 : Value) (w41 : Value) (w42 : Value) (w43 : Value) (w44 : Value) (w45 : Value) (w46 : Value) (w47 : Value) (w48 : Value) (w49 : Value) (w50 : Value) (w51 : Value) (w52 : Value) (w53 : Value) (w54 : Value) (w55 : Value) (w56 : Value) (w57 : Value) (w58 : Value) (w59 : Value) (w60 : Value) (w61 : Value) (w62 : Value) (w63 : Value) (w64 : Value) (w65 : Value) (w66 : Value) (w67 : Value) (w68 : Value) (w69 : Value) : zM l D y yX10_costOfPath (Cond.code yX10_costOfPath cX10_costOfPath 3 (some .int) :: zT) { frames := 5, cells := 0, slots := 0, locals := 108 } [.ref a0, .int 0] [(a0, .inr (9, [.int 0, .int 0, w1, .int 20, w2, .int 0, .int 0, w3, w4, w5, w6, w7, w8, .ref a9, w10, .int (-1), w11, w12, w13, w14, w15, w16, w17, w18, w19, w20, w21, w22, w23, w24, w25, w26, w27, w28, .ref a29, .int 0, w30, w31, w32, w33, w34, w35, w36, w37, w38, w39, w40, w41, w42, w43, w44, w45, w46, w47, w48, w49, w50, w51, w52, w53, w54, w55, w56, w57, w58, w59, w60, w61, w62, w63, w64, w65, w66, w67, w68, w69])), (a9, .inl (y 2, 7, .inl (fun _ => 0))), (a29, .inl (y 0, 7, .inl (upd (upd (upd (upd (upd (upd (upd (upd (upd (upd (upd (upd (upd (upd (upd (upd (upd (upd (upd (upd (upd (fun _ => 0) 0 99999) 1 99999) 2 99999) 3 99999) 4 99999) 5 99999) 6 99999) 0 99999) 1 99999) 2 99999) 3 99999) 4 99999) 5 99999) 6 99999) 0 99999) 1 99999) 2 99999) 3 99999) 4 99999) 5 99999) 6 99999)))] (zQi (S := Unit) D (fun r_ _ => r_ = 0) (fun _ => [(a0, .inr (9, [.int 0, .int 0, w1, .int 20, w2, .int 0, .int 0, w3, w4, w5, w6, w7, w8, .ref a9, w10, .int (-1), w11, w12, w13, w14, w15, w16, w17, w18, w19, w20, w21, w22, w23, w24, w25, w26, w27, w28, .ref a29, .int 0, w30, w31, w32, w33, w34, w35, w36, w37, w38, w39, w40, w41, w42, w43, w44, w45, w46, w47, w48, w49, w50, w51, w52, w53, w54, w55, w56, w57, w58, w59, w60, w61, w62, w63, w64, w65, w66, w67, w68, w69])), (a9, .inl (y 2, 7, .inl (fun _ => 0))), (a29, .inl (y 0, 7, .inl (upd (upd (upd (upd (upd (upd (upd (upd (upd (upd (upd (upd (upd (upd (upd (upd (upd (upd (upd (upd (upd (upd (upd (upd (upd (upd (upd (upd (fun _ => 0) 0 99999) 1 99999) 2 99999) 3 99999) 4 99999) 5 99999) 6 99999) 0 99999) 1 99999) 2 99999) 3 99999) 4 99999) 5 99999) 6 99999) 0 99999) 1 99999) 2 99999) 3 99999) 4 99999) 5 99999) 6 99999) 0 99999) 1 99999) 2 99999) 3 99999) 4 99999) 5 99999) 6 99999)))])) := by
  refine zent (cc := cX10_costOfPath) (maxL := 3) (ret := (some .int)) (by decide) (Nat.le_of_ble_eq_true rfl) ?_
  intro p e s m below meth c A H locs ls hx hb hml hr ht hown hlocks hin hA hK hE hS hW hl
  have hown : s.vm.findClass RX10 = some m.cls := hown
  have hW : zPD D A [(a0, .inr (9, [.int 0, .int 0, w1, .int 20, w2, .int 0, .int 0, w3, w4, w5, w6, w7, w8, .ref a9, w10, .int (-1), w11, w12, w13, w14, w15, w16, w17, w18, w19, w20, w21, w22, w23, w24, w25, w26, w27, w28, .ref a29, .int 0, w30, w31, w32, w33, w34, w35, w36, w37, w38, w39, w40, w41, w42, w43, w44, w45, w46, w47, w48, w49, w50, w51, w52, w53, w54, w55, w56, w57, w58, w59, w60, w61, w62, w63, w64, w65, w66, w67, w68, w69])), (a9, .inl (y 2, 7, .inl (fun _ => 0))), (a29, .inl (y 0, 7, .inl (upd (upd (upd (upd (upd (upd (upd (upd (upd (upd (upd (upd (upd (upd (upd (upd (upd (upd (upd (upd (upd (fun _ => 0) 0 99999) 1 99999) 2 99999) 3 99999) 4 99999) 5 99999) 6 99999) 0 99999) 1 99999) 2 99999) 3 99999) 4 99999) 5 99999) 6 99999) 0 99999) 1 99999) 2 99999) 3 99999) 4 99999) 5 99999) 6 99999)))] H := hW
  have hl : lv_has ls 3 [(0, .ref a0), (1, .int 0)] := hl
  refine lv_aload_n hx hb dX10_costOfPath_0 rfl (lv_at hl 0 rfl) ?_
  refine zgo_v (wr := []) (zrunV (As := []) (rest := []) ⟨hx, hb, hml, hown, ht⟩ (zc_X10_layOpen_3 l D y a0 (.int 0) (.int 0) w1 (.int 20) w2 (.int 0) (.int 0) w3 w4 w5 w6 w7 w8 a9 w10 (.int (-1)) w11 w12 w13 w14 w15 w16 w17 w18 w19 w20 w21 w22 w23 w24 w25 w26 w27 w28 a29 (.int 0) w30 w31 w32 w33 w34 w35 w36 w37 w38 w39 w40 w41 w42 w43 w44 w45 w46 w47 w48 w49 w50 w51 w52 w53 w54 w55 w56 w57 w58 w59 w60 w61 w62 w63 w64 w65 w66 w67 w68 w69) (cwV 0 ht (zgV zm_397 zm_398 zm_399 zm_5 zm_400) rfl rfl rfl (by decide +kernel) ⟨(Nat.le_of_ble_eq_true rfl), (Nat.le_of_ble_eq_true rfl)⟩) hK hE hS hA hW [0, 1, 2] (by decide) rfl 0 rfl rfl rfl rfl hl.1 rfl (Nat.le_of_ble_eq_true rfl) dX10_costOfPath_1 (Nat.le_of_ble_eq_true rfl) (Nat.le_of_ble_eq_true rfl)) hS hA hW [0, 1, 2] [] rfl rfl (by decide) (by decide) (fun u H locs hw hW hS => ?_)
  have hW : zPD D A [(a0, .inr (9, [.int 0, .int 0, w1, .int 20, w2, .int 0, .int 0, w3, w4, w5, w6, w7, w8, .ref a9, w10, .int (-1), w11, w12, w13, w14, w15, w16, w17, w18, w19, w20, w21, w22, w23, w24, w25, w26, w27, w28, .ref a29, .int 0, w30, w31, w32, w33, w34, w35, w36, w37, w38, w39, w40, w41, w42, w43, w44, w45, w46, w47, w48, w49, w50, w51, w52, w53, w54, w55, w56, w57, w58, w59, w60, w61, w62, w63, w64, w65, w66, w67, w68, w69])), (a9, .inl (y 2, 7, .inl (fun _ => 0))), (a29, .inl (y 0, 7, .inl (upd (upd (upd (upd (upd (upd (upd (upd (upd (upd (upd (upd (upd (upd (upd (upd (upd (upd (upd (upd (upd (upd (upd (upd (upd (upd (upd (upd (fun _ => 0) 0 99999) 1 99999) 2 99999) 3 99999) 4 99999) 5 99999) 6 99999) 0 99999) 1 99999) 2 99999) 3 99999) 4 99999) 5 99999) 6 99999) 0 99999) 1 99999) 2 99999) 3 99999) 4 99999) 5 99999) 6 99999) 0 99999) 1 99999) 2 99999) 3 99999) 4 99999) 5 99999) 6 99999)))] H := hW
  refine lv_aload_n hx hb dX10_costOfPath_4 rfl (lv_at hl 0 rfl) ?_
  refine lv_iconst (v := 0) hx hb dX10_costOfPath_5 (by decide) ?_
  refine lv_aload_n hx hb dX10_costOfPath_6 rfl (lv_at hl 0 rfl) ?_
  refine zget hx hb ht inlX10 hown hK hW 0 rfl rfl 35 (by decide) zm_175 rfl dX10_costOfPath_7 ?_
  refine lv_aload_n hx hb dX10_costOfPath_10 rfl (lv_at hl 0 rfl) ?_
  refine zget hx hb ht inlX10 hown hK hW 0 rfl rfl 1 (by decide) zm_141 rfl dX10_costOfPath_11 ?_
  refine lv_iload_n hx hb dX10_costOfPath_14 rfl (lv_at hl 1 rfl) ?_
  refine lv_iadd hx hb dX10_costOfPath_15 ?_
  refine ztop (w := .int 0) (congrArg Value.int (by decide)) ?_
  refine zgo_i (wr := [(a9, .inl (y 2, 7, .inl (fun _ => 0))), (a29, .inl (y 0, 7, .inl (upd (upd (upd (upd (upd (upd (upd (upd (upd (upd (upd (upd (upd (upd (upd (upd (upd (upd (upd (upd (upd (upd (upd (upd (upd (upd (upd (upd (fun _ => 0) 0 99999) 1 99999) 2 99999) 3 99999) 4 99999) 5 99999) 6 99999) 0 99999) 1 99999) 2 99999) 3 99999) 4 99999) 5 99999) 6 99999) 0 99999) 1 99999) 2 99999) 3 99999) 4 99999) 5 99999) 6 99999) 0 99999) 1 99999) 2 99999) 3 99999) 4 99999) 5 99999) 6 99999)))]) (zrunV (As := [.int 0, .int 0, .int 0]) (rest := []) ⟨hx, hb, hml, hown, ht⟩ (zc_X10_goes_0 l D y a0 (.int 0) (.int 0) w1 (.int 20) w2 w3 w4 w5 w6 w7 w8 (.ref a9) w10 (.int (-1)) w11 w12 w13 w14 w15 w16 w17 w18 w19 w20 w21 w22 w23 w24 w25 w26 w27 w28 (.ref a29) (.int 0) w30 w31 w32 w33 w34 w35 w36 w37 w38 w39 w40 w41 w42 w43 w44 w45 w46 w47 w48 w49 w50 w51 w52 w53 w54 w55 w56 w57 w58 w59 w60 w61 w62 w63 w64 w65 w66 w67 w68 w69) (cwV 3 ht (zgV zm_852 zm_853 zm_854 zm_5 zm_855) rfl rfl rfl (by decide +kernel) ⟨(Nat.le_of_ble_eq_true rfl), (Nat.le_of_ble_eq_true rfl)⟩) hK hE hS hA hW [0] (by decide) rfl 0 rfl rfl rfl rfl hl.1 rfl (Nat.le_of_ble_eq_true rfl) dX10_costOfPath_16 (Nat.le_of_ble_eq_true rfl) (Nat.le_of_ble_eq_true rfl)) hS hA hW [0] [1, 2] rfl rfl (by decide) (by decide) (fun r2_ u H locs hw hW hS => ?_)
  have hW : zPD D A [(a9, .inl (y 2, 7, .inl (fun _ => 0))), (a29, .inl (y 0, 7, .inl (upd (upd (upd (upd (upd (upd (upd (upd (upd (upd (upd (upd (upd (upd (upd (upd (upd (upd (upd (upd (upd (upd (upd (upd (upd (upd (upd (upd (fun _ => 0) 0 99999) 1 99999) 2 99999) 3 99999) 4 99999) 5 99999) 6 99999) 0 99999) 1 99999) 2 99999) 3 99999) 4 99999) 5 99999) 6 99999) 0 99999) 1 99999) 2 99999) 3 99999) 4 99999) 5 99999) 6 99999) 0 99999) 1 99999) 2 99999) 3 99999) 4 99999) 5 99999) 6 99999))), (a0, .inr (9, [.int 0, .int 0, w1, .int 20, w2, .int 0, .int 0, w3, w4, w5, w6, w7, w8, .ref a9, w10, .int (-1), w11, w12, w13, w14, w15, w16, w17, w18, w19, w20, w21, w22, w23, w24, w25, w26, w27, w28, .ref a29, .int 0, w30, w31, w32, w33, w34, w35, w36, w37, w38, w39, w40, w41, w42, w43, w44, w45, w46, w47, w48, w49, w50, w51, w52, w53, w54, w55, w56, w57, w58, w59, w60, w61, w62, w63, w64, w65, w66, w67, w68, w69]))] H := hW
  have hw : r2_ = 0 := hw
  subst hw
  refine lv_istore_n (lv' := [(2, .int 0), (0, .ref a0), (1, .int 0)]) hx hb dX10_costOfPath_19 rfl hl (by decide) rfl (fun ls hl => ?_)
  refine lv_aload_n hx hb dX10_costOfPath_20 rfl (lv_at hl 1 rfl) ?_
  refine zgo_i (wr := [(a9, .inl (y 2, 7, .inl (fun _ => 0))), (a29, .inl (y 0, 7, .inl (upd (upd (upd (upd (upd (upd (upd (upd (upd (upd (upd (upd (upd (upd (upd (upd (upd (upd (upd (upd (upd (upd (upd (upd (upd (upd (upd (upd (fun _ => 0) 0 99999) 1 99999) 2 99999) 3 99999) 4 99999) 5 99999) 6 99999) 0 99999) 1 99999) 2 99999) 3 99999) 4 99999) 5 99999) 6 99999) 0 99999) 1 99999) 2 99999) 3 99999) 4 99999) 5 99999) 6 99999) 0 99999) 1 99999) 2 99999) 3 99999) 4 99999) 5 99999) 6 99999)))]) (zrunV (As := []) (rest := []) ⟨hx, hb, hml, hown, ht⟩ (zc_X10_harmTillEnd_0 l D y a0 w1 w2 (.int 0) (.int 0) w3 w4 w5 w6 w7 w8 (.ref a9) w10 w11 w12 w13 w14 w15 w16 w17 w18 w19 w20 w21 w22 w23 w24 w25 w26 w27 w28 (.ref a29) (.int 0) w30 w31 w32 w33 w34 w35 w36 w37 w38 w39 w40 w41 w42 w43 w44 w45 w46 w47 w48 w49 w50 w51 w52 w53 w54 w55 w56 w57 w58 w59 w60 w61 w62 w63 w64 w65 w66 w67 w68 w69) (cwV 0 ht (zgV zm_856 zm_857 zm_858 zm_5 zm_859) rfl rfl rfl (by decide +kernel) ⟨(Nat.le_of_ble_eq_true rfl), (Nat.le_of_ble_eq_true rfl)⟩) hK hE hS hA hW [2] (by decide) rfl 0 rfl rfl rfl rfl hl.1 rfl (Nat.le_of_ble_eq_true rfl) dX10_costOfPath_21 (Nat.le_of_ble_eq_true rfl) (Nat.le_of_ble_eq_true rfl)) hS hA hW [2] [0, 1] rfl rfl (by decide) (by decide) (fun r3_ u H locs hw hW hS => ?_)
  have hW : zPD D A [(a9, .inl (y 2, 7, .inl (fun _ => 0))), (a29, .inl (y 0, 7, .inl (upd (upd (upd (upd (upd (upd (upd (upd (upd (upd (upd (upd (upd (upd (upd (upd (upd (upd (upd (upd (upd (upd (upd (upd (upd (upd (upd (upd (fun _ => 0) 0 99999) 1 99999) 2 99999) 3 99999) 4 99999) 5 99999) 6 99999) 0 99999) 1 99999) 2 99999) 3 99999) 4 99999) 5 99999) 6 99999) 0 99999) 1 99999) 2 99999) 3 99999) 4 99999) 5 99999) 6 99999) 0 99999) 1 99999) 2 99999) 3 99999) 4 99999) 5 99999) 6 99999))), (a0, .inr (9, [.int 0, .int 0, w1, .int 20, w2, .int 0, .int 0, w3, w4, w5, w6, w7, w8, .ref a9, w10, .int (-1), w11, w12, w13, w14, w15, w16, w17, w18, w19, w20, w21, w22, w23, w24, w25, w26, w27, w28, .ref a29, .int 0, w30, w31, w32, w33, w34, w35, w36, w37, w38, w39, w40, w41, w42, w43, w44, w45, w46, w47, w48, w49, w50, w51, w52, w53, w54, w55, w56, w57, w58, w59, w60, w61, w62, w63, w64, w65, w66, w67, w68, w69]))] H := hW
  have hw : r3_ = 0 := hw
  subst hw
  exact zret_i (v := 0) hx hb hr hlocks hS () rfl (hW.sub [2, 0, 1] (by decide) rfl) (Nat.le_of_ble_eq_true rfl) (Nat.le_of_ble_eq_true rfl) dX10_costOfPath_24
set_option maxHeartbeats 8000000 in
set_option maxRecDepth 100000 in
theorem zc_X10_costOfRound_3 (l : Launch) (D : va_G) (y : Nat → ClassId) (a0 : Nat) (w1 : Value) (w2 : Value) (w3 : Value) (w4 : Value) (w5 : Value) (w6 : Value) (w7 : Value) (w8 : Value) (a9 : Nat) (w10 : Value) (w11 : Value) (w12 : Value) (w13 : Value) (w14 : Value) (w15 : Value) (w16 : Value) (w17 : Value) (w18 : Value) (w19 : Value) (w20 : Value) (w21 : Value) (w22 : Value) (w23 : Value) (w24 : Value) (w25 : Value) (w26 : Value) (w27 : Value) (a28 : Nat) (a29 : Nat) (a30 : Nat) (w31 : Value) (w32 : Value) (w33 : Value) (w34 : Value) (w35 : Value) (w36 : Value) (w37 : Value) (w38 : Value) (w39 : Value) (w40 : Value) (w41 : Value) (w42 : Value) (w43 : Value) (w44 : Value) (w45 : Value) (w46 : Value) (w47 : Value) (w48 : Value) (w49 : Value) (w50 : Value) (w51 : Value) (w52 : Value) (w53 : Value) (w54 : Value) (w55 : Value) (w56 : Value) (w57 : Value) (w58 : Value) (w59 : Value) (w60 : Value) (w61 : Value) (w62 : Value) (w63 : Value) (w64 : Value) (w65 : Value) (w66 : Value) (w67 : Value) : zM l D y yX10_costOfRound (Cond.code yX10_costOfRound cX10_costOfRound 2 (some .int) :: zT) { frames := 6, cells := 0, slots := 0, locals := 130 } [.ref a0, .int 0] [(a0, .inr (9, [.int 0, .int 0, w1, .int 20, w2, .int 0, .int 0, w3, w4, w5, w6, w7, w8, .ref a9, w10, .int (-1), w11, w12, w13, w14, w15, w16, w17, w18, w19, w20, w21, w22, w23, w24, w25, w26, .int 0, w27, .ref a28, .int 0, .ref a29, .int 0, .ref a30, w31, w32, w33, w34, w35, w36, w37, w38, w39, w40, w41, w42, w43, w44, w45, w46, w47, w48, w49, w50, w51, w52, w53, w54, w55, w56, w57, w58, w59, w60, w61, w62, w63, w64, w65, w66, w67])), (a9, .inl (y 2, 7, .inl (fun _ => 0))), (a28, .inl (y 0, 7, .inl (upd (upd (upd (upd (upd (upd (upd (upd (upd (upd (upd (upd (upd (upd (upd (upd (upd (upd (upd (upd (upd (fun _ => 0) 0 99999) 1 99999) 2 99999) 3 99999) 4 99999) 5 99999) 6 99999) 0 99999) 1 99999) 2 99999) 3 99999) 4 99999) 5 99999) 6 99999) 0 99999) 1 99999) 2 99999) 3 99999) 4 99999) 5 99999) 6 99999))), (a29, .inl (y 0, 7, .inl (fun _ => 0))), (a30, .inl (y 0, 7, .inl (fun _ => 0)))] (zQi (S := Unit) D (fun r_ _ => r_ = 0) (fun _ => [(a0, .inr (9, [.int 0, .int 0, w1, .int 20, w2, .int 0, .int 0, w3, w4, w5, w6, w7, w8, .ref a9, w10, .int (-1), w11, w12, w13, w14, w15, w16, w17, w18, w19, w20, w21, w22, w23, w24, w25, w26, .int 0, w27, .ref a28, .int 0, .ref a29, .int 0, .ref a30, w31, w32, w33, w34, w35, w36, w37, w38, w39, w40, w41, w42, w43, w44, w45, w46, w47, w48, w49, w50, w51, w52, w53, w54, w55, w56, w57, w58, w59, w60, w61, w62, w63, w64, w65, w66, w67])), (a9, .inl (y 2, 7, .inl (fun _ => 0))), (a28, .inl (y 0, 7, .inl (upd (upd (upd (upd (upd (upd (upd (upd (upd (upd (upd (upd (upd (upd (upd (upd (upd (upd (upd (upd (upd (upd (upd (upd (upd (upd (upd (upd (fun _ => 0) 0 99999) 1 99999) 2 99999) 3 99999) 4 99999) 5 99999) 6 99999) 0 99999) 1 99999) 2 99999) 3 99999) 4 99999) 5 99999) 6 99999) 0 99999) 1 99999) 2 99999) 3 99999) 4 99999) 5 99999) 6 99999) 0 99999) 1 99999) 2 99999) 3 99999) 4 99999) 5 99999) 6 99999))), (a29, .inl (y 0, 7, .inl (fun _ => 0))), (a30, .inl (y 0, 7, .inl (fun _ => 0)))])) := by
  refine zent (cc := cX10_costOfRound) (maxL := 2) (ret := (some .int)) (by decide) (Nat.le_of_ble_eq_true rfl) ?_
  intro p e s m below meth c A H locs ls hx hb hml hr ht hown hlocks hin hA hK hE hS hW hl
  have hown : s.vm.findClass RX10 = some m.cls := hown
  have hW : zPD D A [(a0, .inr (9, [.int 0, .int 0, w1, .int 20, w2, .int 0, .int 0, w3, w4, w5, w6, w7, w8, .ref a9, w10, .int (-1), w11, w12, w13, w14, w15, w16, w17, w18, w19, w20, w21, w22, w23, w24, w25, w26, .int 0, w27, .ref a28, .int 0, .ref a29, .int 0, .ref a30, w31, w32, w33, w34, w35, w36, w37, w38, w39, w40, w41, w42, w43, w44, w45, w46, w47, w48, w49, w50, w51, w52, w53, w54, w55, w56, w57, w58, w59, w60, w61, w62, w63, w64, w65, w66, w67])), (a9, .inl (y 2, 7, .inl (fun _ => 0))), (a28, .inl (y 0, 7, .inl (upd (upd (upd (upd (upd (upd (upd (upd (upd (upd (upd (upd (upd (upd (upd (upd (upd (upd (upd (upd (upd (fun _ => 0) 0 99999) 1 99999) 2 99999) 3 99999) 4 99999) 5 99999) 6 99999) 0 99999) 1 99999) 2 99999) 3 99999) 4 99999) 5 99999) 6 99999) 0 99999) 1 99999) 2 99999) 3 99999) 4 99999) 5 99999) 6 99999))), (a29, .inl (y 0, 7, .inl (fun _ => 0))), (a30, .inl (y 0, 7, .inl (fun _ => 0)))] H := hW
  have hl : lv_has ls 2 [(0, .ref a0), (1, .int 0)] := hl
  refine lv_aload_n hx hb dX10_costOfRound_0 rfl (lv_at hl 0 rfl) ?_
  refine zgo_v (wr := [(a9, .inl (y 2, 7, .inl (fun _ => 0))), (a28, .inl (y 0, 7, .inl (upd (upd (upd (upd (upd (upd (upd (upd (upd (upd (upd (upd (upd (upd (upd (upd (upd (upd (upd (upd (upd (fun _ => 0) 0 99999) 1 99999) 2 99999) 3 99999) 4 99999) 5 99999) 6 99999) 0 99999) 1 99999) 2 99999) 3 99999) 4 99999) 5 99999) 6 99999) 0 99999) 1 99999) 2 99999) 3 99999) 4 99999) 5 99999) 6 99999))), (a29, .inl (y 0, 7, .inl (fun _ => 0))), (a30, .inl (y 0, 7, .inl (fun _ => 0)))]) (zrunV (As := []) (rest := []) ⟨hx, hb, hml, hown, ht⟩ (zc_X10_layRain_0 l D y a0 (.int 0) w1 (.int 20) w2 (.int 0) (.int 0) w3 w4 w5 w6 w7 w8 (.ref a9) w10 w11 w12 w13 w14 w15 w16 w17 w18 w19 w20 w21 w22 w23 w24 w25 w26 w27 (.ref a28) (.int 0) (.ref a29) (.int 0) (.ref a30) w31 w32 w33 w34 w35 w36 w37 w38 w39 w40 w41 w42 w43 w44 w45 w46 w47 w48 w49 w50 w51 w52 w53 w54 w55 w56 w57 w58 w59 w60 w61 w62 w63 w64 w65 w66 w67) (cwV 0 ht (zgV zm_377 zm_378 zm_379 zm_5 zm_380) rfl rfl rfl (by decide +kernel) ⟨(Nat.le_of_ble_eq_true rfl), (Nat.le_of_ble_eq_true rfl)⟩) hK hE hS hA hW [0] (by decide) rfl 0 rfl rfl rfl rfl hl.1 rfl (Nat.le_of_ble_eq_true rfl) dX10_costOfRound_1 (Nat.le_of_ble_eq_true rfl) (Nat.le_of_ble_eq_true rfl)) hS hA hW [0] [1, 2, 3, 4] rfl rfl (by decide) (by decide) (fun u H locs hw hW hS => ?_)
  have hW : zPD D A [(a9, .inl (y 2, 7, .inl (fun _ => 0))), (a28, .inl (y 0, 7, .inl (upd (upd (upd (upd (upd (upd (upd (upd (upd (upd (upd (upd (upd (upd (upd (upd (upd (upd (upd (upd (upd (fun _ => 0) 0 99999) 1 99999) 2 99999) 3 99999) 4 99999) 5 99999) 6 99999) 0 99999) 1 99999) 2 99999) 3 99999) 4 99999) 5 99999) 6 99999) 0 99999) 1 99999) 2 99999) 3 99999) 4 99999) 5 99999) 6 99999))), (a29, .inl (y 0, 7, .inl (fun _ => 0))), (a30, .inl (y 0, 7, .inl (fun _ => 0))), (a0, .inr (9, [.int 0, .int 0, w1, .int 20, w2, .int 0, .int 0, w3, w4, w5, w6, w7, w8, .ref a9, w10, .int (-1), w11, w12, w13, w14, w15, w16, w17, w18, w19, w20, w21, w22, w23, w24, w25, w26, .int 0, w27, .ref a28, .int 0, .ref a29, .int 0, .ref a30, w31, w32, w33, w34, w35, w36, w37, w38, w39, w40, w41, w42, w43, w44, w45, w46, w47, w48, w49, w50, w51, w52, w53, w54, w55, w56, w57, w58, w59, w60, w61, w62, w63, w64, w65, w66, w67]))] H := hW
  refine lv_aload_n hx hb dX10_costOfRound_4 rfl (lv_at hl 0 rfl) ?_
  refine zgo_v (wr := [(a9, .inl (y 2, 7, .inl (fun _ => 0))), (a28, .inl (y 0, 7, .inl (upd (upd (upd (upd (upd (upd (upd (upd (upd (upd (upd (upd (upd (upd (upd (upd (upd (upd (upd (upd (upd (fun _ => 0) 0 99999) 1 99999) 2 99999) 3 99999) 4 99999) 5 99999) 6 99999) 0 99999) 1 99999) 2 99999) 3 99999) 4 99999) 5 99999) 6 99999) 0 99999) 1 99999) 2 99999) 3 99999) 4 99999) 5 99999) 6 99999)))]) (zrunV (As := []) (rest := []) ⟨hx, hb, hml, hown, ht⟩ (zc_X10_layRound_0 l D y a0 (.int 0) (.int 0) w1 (.int 20) w2 (.int 0) (.int 0) w3 w4 w5 w6 w7 w8 (.ref a9) w10 (.int (-1)) w11 w12 w13 w14 w15 w16 w17 w18 w19 w20 w21 w22 w23 w24 w25 w26 (.int 0) w27 (.ref a28) a29 a30 w31 w32 w33 w34 w35 w36 w37 w38 w39 w40 w41 w42 w43 w44 w45 w46 w47 w48 w49 w50 w51 w52 w53 w54 w55 w56 w57 w58 w59 w60 w61 w62 w63 w64 w65 w66 w67) (cwV 0 ht (zgV zm_844 zm_845 zm_846 zm_5 zm_847) rfl rfl rfl (by decide +kernel) ⟨(Nat.le_of_ble_eq_true rfl), (Nat.le_of_ble_eq_true rfl)⟩) hK hE hS hA hW [4, 2, 3] (by decide) rfl 0 rfl rfl rfl rfl hl.1 rfl (Nat.le_of_ble_eq_true rfl) dX10_costOfRound_5 (Nat.le_of_ble_eq_true rfl) (Nat.le_of_ble_eq_true rfl)) hS hA hW [4, 2, 3] [0, 1] rfl rfl (by decide) (by decide) (fun u H locs hw hW hS => ?_)
  have hW : zPD D A [(a9, .inl (y 2, 7, .inl (fun _ => 0))), (a28, .inl (y 0, 7, .inl (upd (upd (upd (upd (upd (upd (upd (upd (upd (upd (upd (upd (upd (upd (upd (upd (upd (upd (upd (upd (upd (fun _ => 0) 0 99999) 1 99999) 2 99999) 3 99999) 4 99999) 5 99999) 6 99999) 0 99999) 1 99999) 2 99999) 3 99999) 4 99999) 5 99999) 6 99999) 0 99999) 1 99999) 2 99999) 3 99999) 4 99999) 5 99999) 6 99999))), (a0, .inr (9, [.int 0, .int 0, w1, .int 20, w2, .int 0, .int 0, w3, w4, w5, w6, w7, w8, .ref a9, w10, .int (-1), w11, w12, w13, w14, w15, w16, w17, w18, w19, w20, w21, w22, w23, w24, w25, w26, .int 0, w27, .ref a28, .int 0, .ref a29, .int 0, .ref a30, w31, w32, w33, w34, w35, w36, w37, w38, w39, w40, w41, w42, w43, w44, w45, w46, w47, w48, w49, w50, w51, w52, w53, w54, w55, w56, w57, w58, w59, w60, w61, w62, w63, w64, w65, w66, w67])), (a29, .inl (y 0, 7, .inl (fun _ => 0))), (a30, .inl (y 0, 7, .inl (fun _ => 0)))] H := hW
  refine lv_aload_n hx hb dX10_costOfRound_8 rfl (lv_at hl 0 rfl) ?_
  refine lv_iload_n hx hb dX10_costOfRound_9 rfl (lv_at hl 1 rfl) ?_
  refine zgo_i (wr := [(a29, .inl (y 0, 7, .inl (fun _ => 0))), (a30, .inl (y 0, 7, .inl (fun _ => 0)))]) (zrunV (As := [.int 0]) (rest := []) ⟨hx, hb, hml, hown, ht⟩ (zc_X10_costOfPath_6 l D y a0 w1 w2 w3 w4 w5 w6 w7 w8 a9 w10 w11 w12 w13 w14 w15 w16 w17 w18 w19 w20 w21 w22 w23 w24 w25 w26 (.int 0) w27 a28 (.ref a29) (.int 0) (.ref a30) w31 w32 w33 w34 w35 w36 w37 w38 w39 w40 w41 w42 w43 w44 w45 w46 w47 w48 w49 w50 w51 w52 w53 w54 w55 w56 w57 w58 w59 w60 w61 w62 w63 w64 w65 w66 w67) (cwV 1 ht (zgV zm_848 zm_849 zm_850 zm_5 zm_851) rfl rfl rfl (by decide +kernel) ⟨(Nat.le_of_ble_eq_true rfl), (Nat.le_of_ble_eq_true rfl)⟩) hK hE hS hA hW [2, 0, 1] (by decide) rfl 0 rfl rfl rfl rfl hl.1 rfl (Nat.le_of_ble_eq_true rfl) dX10_costOfRound_10 (Nat.le_of_ble_eq_true rfl) (Nat.le_of_ble_eq_true rfl)) hS hA hW [2, 0, 1] [3, 4] rfl rfl (by decide) (by decide) (fun r3_ u H locs hw hW hS => ?_)
  have hW : zPD D A [(a29, .inl (y 0, 7, .inl (fun _ => 0))), (a30, .inl (y 0, 7, .inl (fun _ => 0))), (a0, .inr (9, [.int 0, .int 0, w1, .int 20, w2, .int 0, .int 0, w3, w4, w5, w6, w7, w8, .ref a9, w10, .int (-1), w11, w12, w13, w14, w15, w16, w17, w18, w19, w20, w21, w22, w23, w24, w25, w26, .int 0, w27, .ref a28, .int 0, .ref a29, .int 0, .ref a30, w31, w32, w33, w34, w35, w36, w37, w38, w39, w40, w41, w42, w43, w44, w45, w46, w47, w48, w49, w50, w51, w52, w53, w54, w55, w56, w57, w58, w59, w60, w61, w62, w63, w64, w65, w66, w67])), (a9, .inl (y 2, 7, .inl (fun _ => 0))), (a28, .inl (y 0, 7, .inl (upd (upd (upd (upd (upd (upd (upd (upd (upd (upd (upd (upd (upd (upd (upd (upd (upd (upd (upd (upd (upd (upd (upd (upd (upd (upd (upd (upd (fun _ => 0) 0 99999) 1 99999) 2 99999) 3 99999) 4 99999) 5 99999) 6 99999) 0 99999) 1 99999) 2 99999) 3 99999) 4 99999) 5 99999) 6 99999) 0 99999) 1 99999) 2 99999) 3 99999) 4 99999) 5 99999) 6 99999) 0 99999) 1 99999) 2 99999) 3 99999) 4 99999) 5 99999) 6 99999)))] H := hW
  have hw : r3_ = 0 := hw
  subst hw
  exact zret_i (v := 0) hx hb hr hlocks hS () rfl (hW.sub [2, 3, 4, 0, 1] (by decide) rfl) (Nat.le_of_ble_eq_true rfl) (Nat.le_of_ble_eq_true rfl) dX10_costOfRound_13
set_option maxHeartbeats 8000000 in
set_option maxRecDepth 100000 in
theorem zc_X10_divisor_0 (l : Launch) (D : va_G) (y : Nat → ClassId) (a0 : Nat) (w1 : Value) (w2 : Value) (w3 : Value) (w4 : Value) (w5 : Value) (w6 : Value) (w7 : Value) (w8 : Value) (w9 : Value) (w10 : Value) (w11 : Value) (w12 : Value) (w13 : Value) (w14 : Value) (w15 : Value) (w16 : Value) (w17 : Value) (w18 : Value) (w19 : Value) (w20 : Value) (w21 : Value) (w22 : Value) (w23 : Value) (w24 : Value) (w25 : Value) (w26 : Value) (w27 : Value) (w28 : Value) (w29 : Value) (w30 : Value) (w31 : Value) (w32 : Value) (w33 : Value) (w34 : Value) (w35 : Value) (w36 : Value) (w37 : Value) (w38 : Value) (w39 : Value) (w40 : Value) (w41 : Value) (w42 : Value) (w43 : Value) (w44 : Value) (w45 : Value) (w46 : Value) (w47 : Value) (w48 : Value) (w49 : Value) (w50 : Value) (w51 : Value) (w52 : Value) (w53 : Value) (w54 : Value) (w55 : Value) (w56 : Value) (w57 : Value) (w58 : Value) (w59 : Value) (w60 : Value) (w61 : Value) (w62 : Value) (w63 : Value) (w64 : Value) (w65 : Value) (w66 : Value) (w67 : Value) (w68 : Value) (w69 : Value) (w70 : Value) (w71 : Value) (w72 : Value) (w73 : Value) (w74 : Value) (w75 : Value) (w76 : Value) : zM l D y yX10_divisor (Cond.code yX10_divisor cX10_divisor 6 (some .int) :: zT) { frames := 0, cells := 0, slots := 0, locals := 0 } [.ref a0, .int 4, .int 4] [(a0, .inr (9, [w1, w2, w3, w4, w5, w6, w7, w8, w9, w10, w11, w12, w13, w14, w15, w16, w17, w18, w19, w20, w21, w22, w23, w24, w25, w26, w27, w28, w29, w30, w31, w32, w33, w34, w35, w36, w37, w38, w39, w40, w41, w42, w43, w44, w45, w46, w47, w48, w49, w50, w51, w52, w53, w54, w55, w56, w57, w58, w59, w60, w61, w62, w63, w64, w65, w66, w67, w68, w69, w70, w71, w72, w73, w74, w75, w76]))] (zQi (S := Unit) D (fun r_ _ => r_ = 4) (fun _ => [(a0, .inr (9, [w1, w2, w3, w4, w5, w6, w7, w8, w9, w10, w11, w12, w13, w14, w15, w16, w17, w18, w19, w20, w21, w22, w23, w24, w25, w26, w27, w28, w29, w30, w31, w32, w33, w34, w35, w36, w37, w38, w39, w40, w41, w42, w43, w44, w45, w46, w47, w48, w49, w50, w51, w52, w53, w54, w55, w56, w57, w58, w59, w60, w61, w62, w63, w64, w65, w66, w67, w68, w69, w70, w71, w72, w73, w74, w75, w76]))])) := by
  refine zent (cc := cX10_divisor) (maxL := 6) (ret := (some .int)) (by decide) (Nat.le_of_ble_eq_true rfl) ?_
  intro p e s m below meth c A H locs ls hx hb hml hr ht hown hlocks hin hA hK hE hS hW hl
  have hown : s.vm.findClass RX10 = some m.cls := hown
  have hW : zPD D A [(a0, .inr (9, [w1, w2, w3, w4, w5, w6, w7, w8, w9, w10, w11, w12, w13, w14, w15, w16, w17, w18, w19, w20, w21, w22, w23, w24, w25, w26, w27, w28, w29, w30, w31, w32, w33, w34, w35, w36, w37, w38, w39, w40, w41, w42, w43, w44, w45, w46, w47, w48, w49, w50, w51, w52, w53, w54, w55, w56, w57, w58, w59, w60, w61, w62, w63, w64, w65, w66, w67, w68, w69, w70, w71, w72, w73, w74, w75, w76]))] H := hW
  have hl : lv_has ls 6 [(0, .ref a0), (1, .int 4), (2, .int 4)] := hl
  refine lv_iload_n hx hb dX10_divisor_0 rfl (lv_at hl 1 rfl) ?_
  refine lv_istore_n (lv' := [(3, .int 4), (0, .ref a0), (1, .int 4), (2, .int 4)]) hx hb dX10_divisor_1 rfl hl (by decide) rfl (fun ls hl => ?_)
  refine lv_iload_n hx hb dX10_divisor_2 rfl (lv_at hl 3 rfl) ?_
  refine lv_istore (lv' := [(4, .int 4), (3, .int 4), (0, .ref a0), (1, .int 4), (2, .int 4)]) hx hb dX10_divisor_3 hl (by decide) rfl (fun ls hl => ?_)
  refine lv_iload hx hb dX10_divisor_5 (lv_at hl 0 rfl) ?_
  refine lv_if_eq (tgt := 26) hx hb dX10_divisor_7 (by decide) (fun c1_ => absurd c1_ (by decide)) (fun c1_ => ?_)
  refine lv_iload_n hx hb dX10_divisor_10 rfl (lv_at hl 1 rfl) ?_
  refine lv_iload hx hb dX10_divisor_11 (lv_at hl 0 rfl) ?_
  refine lv_irem hx hb dX10_divisor_13 (by decide) ?_
  refine ztop (w := .int 0) (congrArg Value.int (by decide)) ?_
  refine lv_istore (lv' := [(5, .int 0), (4, .int 4), (3, .int 4), (0, .ref a0), (1, .int 4), (2, .int 4)]) hx hb dX10_divisor_14 hl (by decide) rfl (fun ls hl => ?_)
  refine lv_iload hx hb dX10_divisor_16 (lv_at hl 1 rfl) ?_
  refine lv_istore_n (lv' := [(3, .int 4), (5, .int 0), (4, .int 4), (0, .ref a0), (1, .int 4), (2, .int 4)]) hx hb dX10_divisor_18 rfl hl (by decide) rfl (fun ls hl => ?_)
  refine lv_iload hx hb dX10_divisor_19 (lv_at hl 1 rfl) ?_
  refine lv_istore (lv' := [(4, .int 0), (3, .int 4), (5, .int 0), (0, .ref a0), (1, .int 4), (2, .int 4)]) hx hb dX10_divisor_21 hl (by decide) rfl (fun ls hl => ?_)
  refine lv_goto (tgt := 5) hx hb dX10_divisor_23 (by decide) ?_
  refine lv_iload hx hb dX10_divisor_5 (lv_at hl 0 rfl) ?_
  refine lv_if_eq (tgt := 26) hx hb dX10_divisor_7 (by decide) (fun c2_ => ?_) (fun c2_ => absurd (by decide) c2_)
  refine lv_iload_n hx hb dX10_divisor_26 rfl (lv_at hl 1 rfl) ?_
  exact zret_i (v := 4) hx hb hr hlocks hS () rfl hW (Nat.le_of_ble_eq_true rfl) (Nat.le_of_ble_eq_true rfl) dX10_divisor_27
set_option maxHeartbeats 8000000 in
set_option maxRecDepth 100000 in
theorem zc_X10_lowest_0 (l : Launch) (D : va_G) (y : Nat → ClassId) (a0 : Nat) (p1 : Int32) (w2 : Value) (w3 : Value) (w4 : Value) (w5 : Value) (w6 : Value) (w7 : Value) (w8 : Value) (w9 : Value) (w10 : Value) (w11 : Value) (w12 : Value) (w13 : Value) (w14 : Value) (w15 : Value) (w16 : Value) (w17 : Value) (w18 : Value) (w19 : Value) (w20 : Value) (w21 : Value) (w22 : Value) (w23 : Value) (w24 : Value) (w25 : Value) (w26 : Value) (w27 : Value) (w28 : Value) (w29 : Value) (w30 : Value) (w31 : Value) (w32 : Value) (w33 : Value) (w34 : Value) (w35 : Value) (w36 : Value) (w37 : Value) (w38 : Value) (w39 : Value) (w40 : Value) (w41 : Value) (w42 : Value) (w43 : Value) (w44 : Value) (w45 : Value) (w46 : Value) (w47 : Value) (w48 : Value) (w49 : Value) (w50 : Value) (w51 : Value) (w52 : Value) (w53 : Value) (w54 : Value) (w55 : Value) (w56 : Value) (w57 : Value) (w58 : Value) (w59 : Value) (w60 : Value) (w61 : Value) (w62 : Value) (w63 : Value) (w64 : Value) (w65 : Value) (w66 : Value) (w67 : Value) (w68 : Value) (w69 : Value) (w70 : Value) (w71 : Value) (w72 : Value) (w73 : Value) (w74 : Value) (w75 : Value) (w76 : Value) (w77 : Value) : zM l D y yX10_lowest (Cond.code yX10_lowest cX10_lowest 5 (some .long) :: zT) { frames := 1, cells := 0, slots := 0, locals := 25 } [.ref a0, .int 4, .int 4, .int p1] [(a0, .inr (9, [w2, w3, w4, w5, w6, w7, w8, w9, w10, w11, w12, w13, w14, w15, w16, w17, w18, w19, w20, w21, w22, w23, w24, w25, w26, w27, w28, w29, w30, w31, w32, w33, w34, w35, w36, w37, w38, w39, w40, w41, w42, w43, w44, w45, w46, w47, w48, w49, w50, w51, w52, w53, w54, w55, w56, w57, w58, w59, w60, w61, w62, w63, w64, w65, w66, w67, w68, w69, w70, w71, w72, w73, w74, w75, w76, w77]))] (zQl (S := Unit) D (fun r_ _ => r_ = 1) (fun _ => [(a0, .inr (9, [w2, w3, w4, w5, w6, w7, w8, w9, w10, w11, w12, w13, w14, w15, w16, w17, w18, w19, w20, w21, w22, w23, w24, w25, w26, w27, w28, w29, w30, w31, w32, w33, w34, w35, w36, w37, w38, w39, w40, w41, w42, w43, w44, w45, w46, w47, w48, w49, w50, w51, w52, w53, w54, w55, w56, w57, w58, w59, w60, w61, w62, w63, w64, w65, w66, w67, w68, w69, w70, w71, w72, w73, w74, w75, w76, w77]))])) := by
  refine zent (cc := cX10_lowest) (maxL := 5) (ret := (some .long)) (by decide) (Nat.le_of_ble_eq_true rfl) ?_
  intro p e s m below meth c A H locs ls hx hb hml hr ht hown hlocks hin hA hK hE hS hW hl
  have hown : s.vm.findClass RX10 = some m.cls := hown
  have hW : zPD D A [(a0, .inr (9, [w2, w3, w4, w5, w6, w7, w8, w9, w10, w11, w12, w13, w14, w15, w16, w17, w18, w19, w20, w21, w22, w23, w24, w25, w26, w27, w28, w29, w30, w31, w32, w33, w34, w35, w36, w37, w38, w39, w40, w41, w42, w43, w44, w45, w46, w47, w48, w49, w50, w51, w52, w53, w54, w55, w56, w57, w58, w59, w60, w61, w62, w63, w64, w65, w66, w67, w68, w69, w70, w71, w72, w73, w74, w75, w76, w77]))] H := hW
  have hl : lv_has ls 5 [(0, .ref a0), (1, .int 4), (2, .int 4), (3, .int p1)] := hl
  refine lv_aload_n hx hb dX10_lowest_0 rfl (lv_at hl 0 rfl) ?_
  refine lv_iload_n hx hb dX10_lowest_1 rfl (lv_at hl 1 rfl) ?_
  refine lv_iload_n hx hb dX10_lowest_2 rfl (lv_at hl 2 rfl) ?_
  refine zgo_i (wr := []) (zrunV (As := [.int 4, .int 4]) (rest := []) ⟨hx, hb, hml, hown, ht⟩ (zc_X10_divisor_0 l D y a0 w2 w3 w4 w5 w6 w7 w8 w9 w10 w11 w12 w13 w14 w15 w16 w17 w18 w19 w20 w21 w22 w23 w24 w25 w26 w27 w28 w29 w30 w31 w32 w33 w34 w35 w36 w37 w38 w39 w40 w41 w42 w43 w44 w45 w46 w47 w48 w49 w50 w51 w52 w53 w54 w55 w56 w57 w58 w59 w60 w61 w62 w63 w64 w65 w66 w67 w68 w69 w70 w71 w72 w73 w74 w75 w76 w77) (cwV 2 ht (zgV zm_1049 zm_1050 zm_1051 zm_5 zm_1052) rfl rfl rfl (by decide +kernel) ⟨(Nat.le_of_ble_eq_true rfl), (Nat.le_of_ble_eq_true rfl)⟩) hK hE hS hA hW [0] (by decide) rfl 0 rfl rfl rfl rfl hl.1 rfl (Nat.le_of_ble_eq_true rfl) dX10_lowest_3 (Nat.le_of_ble_eq_true rfl) (Nat.le_of_ble_eq_true rfl)) hS hA hW [0] [] rfl rfl (by decide) (by decide) (fun r1_ u H locs hw hW hS => ?_)
  have hW : zPD D A [(a0, .inr (9, [w2, w3, w4, w5, w6, w7, w8, w9, w10, w11, w12, w13, w14, w15, w16, w17, w18, w19, w20, w21, w22, w23, w24, w25, w26, w27, w28, w29, w30, w31, w32, w33, w34, w35, w36, w37, w38, w39, w40, w41, w42, w43, w44, w45, w46, w47, w48, w49, w50, w51, w52, w53, w54, w55, w56, w57, w58, w59, w60, w61, w62, w63, w64, w65, w66, w67, w68, w69, w70, w71, w72, w73, w74, w75, w76, w77]))] H := hW
  have hw : r1_ = 4 := hw
  subst hw
  refine lv_istore (lv' := [(4, .int 4), (0, .ref a0), (1, .int 4), (2, .int 4), (3, .int p1)]) hx hb dX10_lowest_6 hl (by decide) rfl (fun ls hl => ?_)
  refine lv_iload_n hx hb dX10_lowest_8 rfl (lv_at hl 4 rfl) ?_
  refine lv_if_ne (tgt := 20) hx hb dX10_lowest_9 (by decide) (fun c2_ => ?_) (fun c2_ => ?_)
  · have b3_ : (-2147483648) ≤ Int32.toInt p1 ∧ Int32.toInt p1 ≤ 2147483647 := (by have u0 := zbnd p1; have u1 := (not_congr (zi_eq _ _)).mp c2_; have u2 : (0 : Int32).toInt = 0 := (by decide); omega)
    refine lv_iload_n hx hb dX10_lowest_20 rfl (lv_at hl 3 rfl) ?_
    refine lv_iload hx hb dX10_lowest_21 (lv_at hl 0 rfl) ?_
    refine lv_idiv hx hb dX10_lowest_23 (by decide) ?_
    refine ztop (w := .int 1) (congrArg Value.int (by decide)) ?_
    refine lv_i2l (v := 1) hx hb dX10_lowest_24 (by decide) ?_
    exact zret_l (v := 1) hx hb hr hlocks hS () rfl hW (Nat.le_of_ble_eq_true rfl) (Nat.le_of_ble_eq_true rfl) dX10_lowest_25
  · have b4_ : 0 ≤ Int32.toInt p1 ∧ Int32.toInt p1 ≤ 0 := (by have u0 := zbnd p1; have u1 := (zi_eq _ _).mp c2_; have u2 : (0 : Int32).toInt = 0 := (by decide); omega)
    refine lv_iload_n hx hb dX10_lowest_12 rfl (lv_at hl 2 rfl) ?_
    refine lv_iload hx hb dX10_lowest_13 (lv_at hl 0 rfl) ?_
    refine lv_idiv hx hb dX10_lowest_15 (by decide) ?_
    refine ztop (w := .int 1) (congrArg Value.int (by decide)) ?_
    refine lv_i2l (v := 1) hx hb dX10_lowest_16 (by decide) ?_
    refine lv_goto (tgt := 25) hx hb dX10_lowest_17 (by decide) ?_
    exact zret_l (v := 1) hx hb hr hlocks hS () rfl hW (Nat.le_of_ble_eq_true rfl) (Nat.le_of_ble_eq_true rfl) dX10_lowest_25
set_option maxHeartbeats 8000000 in
set_option maxRecDepth 100000 in
theorem zc_X10_odds_0 (l : Launch) (D : va_G) (y : Nat → ClassId) (a0 : Nat) (p1 : Int32) (p2 : Int32) (w3 : Value) (w4 : Value) (w5 : Value) (w6 : Value) (w7 : Value) (w8 : Value) (w9 : Value) (a10 : Nat) (w11 : Value) (w12 : Value) (w13 : Value) (w14 : Value) (w15 : Value) (w16 : Value) (w17 : Value) (w18 : Value) (w19 : Value) (w20 : Value) (w21 : Value) (w22 : Value) (w23 : Value) (w24 : Value) (w25 : Value) (w26 : Value) (w27 : Value) (w28 : Value) (a29 : Nat) (a30 : Nat) (a31 : Nat) (w32 : Value) (w33 : Value) (w34 : Value) (w35 : Value) (w36 : Value) (w37 : Value) (w38 : Value) (w39 : Value) (w40 : Value) (w41 : Value) (w42 : Value) (w43 : Value) (w44 : Value) (w45 : Value) (w46 : Value) (w47 : Value) (w48 : Value) (w49 : Value) (w50 : Value) (w51 : Value) (w52 : Value) (w53 : Value) (w54 : Value) (w55 : Value) (w56 : Value) (w57 : Value) (w58 : Value) (w59 : Value) (w60 : Value) (w61 : Value) (w62 : Value) (w63 : Value) (w64 : Value) (w65 : Value) (w66 : Value) (w67 : Value) (w68 : Value) : zM l D y yX10_odds (Cond.code yX10_odds cX10_odds 5 (some .long) :: zT) { frames := 7, cells := 0, slots := 0, locals := 151 } [.ref a0, .int p1, .int p2] [(a0, .inr (9, [.int 0, .int 0, w3, .int 20, .int 0, .int 0, .int 0, w4, w5, w6, w7, w8, w9, .ref a10, w11, .int (-1), w12, w13, w14, w15, w16, w17, w18, w19, w20, w21, w22, w23, w24, w25, w26, w27, .int 0, w28, .ref a29, .int 0, .ref a30, .int 0, .ref a31, w32, w33, w34, w35, w36, w37, w38, w39, w40, w41, w42, w43, w44, w45, w46, w47, w48, w49, w50, w51, w52, w53, w54, w55, w56, w57, w58, w59, w60, w61, w62, w63, w64, w65, w66, w67, w68])), (a10, .inl (y 2, 7, .inl (fun _ => 0))), (a29, .inl (y 0, 7, .inl (fun _ => 0))), (a30, .inl (y 0, 7, .inl (fun _ => 0))), (a31, .inl (y 0, 7, .inl (fun _ => 0)))] (zQl (S := Unit) D (fun r_ _ => r_ = (if p1 < 0 then (-9223372036854775808) else (if 99999 < p1 then (-9223372036854775808) else (if p2 < 0 then (-9223372036854775808) else (if 1 < p2 then (-9223372036854775808) else 1))))) (fun _ => [])) := by
  refine zent (cc := cX10_odds) (maxL := 5) (ret := (some .long)) (by decide) (Nat.le_of_ble_eq_true rfl) ?_
  intro p e s m below meth c A H locs ls hx hb hml hr ht hown hlocks hin hA hK hE hS hW hl
  have hown : s.vm.findClass RX10 = some m.cls := hown
  have hW : zPD D A [(a0, .inr (9, [.int 0, .int 0, w3, .int 20, .int 0, .int 0, .int 0, w4, w5, w6, w7, w8, w9, .ref a10, w11, .int (-1), w12, w13, w14, w15, w16, w17, w18, w19, w20, w21, w22, w23, w24, w25, w26, w27, .int 0, w28, .ref a29, .int 0, .ref a30, .int 0, .ref a31, w32, w33, w34, w35, w36, w37, w38, w39, w40, w41, w42, w43, w44, w45, w46, w47, w48, w49, w50, w51, w52, w53, w54, w55, w56, w57, w58, w59, w60, w61, w62, w63, w64, w65, w66, w67, w68])), (a10, .inl (y 2, 7, .inl (fun _ => 0))), (a29, .inl (y 0, 7, .inl (fun _ => 0))), (a30, .inl (y 0, 7, .inl (fun _ => 0))), (a31, .inl (y 0, 7, .inl (fun _ => 0)))] H := hW
  have hl : lv_has ls 5 [(0, .ref a0), (1, .int p1), (2, .int p2)] := hl
  refine lv_aload_n hx hb dX10_odds_0 rfl (lv_at hl 0 rfl) ?_
  refine lv_iload_n hx hb dX10_odds_1 rfl (lv_at hl 1 rfl) ?_
  refine zgo_i (wr := [(a10, .inl (y 2, 7, .inl (fun _ => 0))), (a29, .inl (y 0, 7, .inl (fun _ => 0))), (a30, .inl (y 0, 7, .inl (fun _ => 0))), (a31, .inl (y 0, 7, .inl (fun _ => 0)))]) (zrunV (As := [.int p1]) (rest := []) ⟨hx, hb, hml, hown, ht⟩ (zc_X10_isLimit_0 l D y a0 p1 (.int 0) (.int 0) w3 (.int 20) (.int 0) (.int 0) (.int 0) w4 w5 w6 w7 w8 w9 (.ref a10) w11 (.int (-1)) w12 w13 w14 w15 w16 w17 w18 w19 w20 w21 w22 w23 w24 w25 w26 w27 (.int 0) w28 (.ref a29) (.int 0) (.ref a30) (.int 0) (.ref a31) w32 w33 w34 w35 w36 w37 w38 w39 w40 w41 w42 w43 w44 w45 w46 w47 w48 w49 w50 w51 w52 w53 w54 w55 w56 w57 w58 w59 w60 w61 w62 w63 w64 w65 w66 w67 w68) (cwV 1 ht (zgV zm_937 zm_938 zm_939 zm_5 zm_940) rfl rfl rfl (by decide +kernel) ⟨(Nat.le_of_ble_eq_true rfl), (Nat.le_of_ble_eq_true rfl)⟩) hK hE hS hA hW [0] (by decide) rfl 0 rfl rfl rfl rfl hl.1 rfl (Nat.le_of_ble_eq_true rfl) dX10_odds_2 (Nat.le_of_ble_eq_true rfl) (Nat.le_of_ble_eq_true rfl)) hS hA hW [0] [1, 2, 3, 4] rfl rfl (by decide) (by decide) (fun r1_ u H locs hw hW hS => ?_)
  have hW : zPD D A [(a10, .inl (y 2, 7, .inl (fun _ => 0))), (a29, .inl (y 0, 7, .inl (fun _ => 0))), (a30, .inl (y 0, 7, .inl (fun _ => 0))), (a31, .inl (y 0, 7, .inl (fun _ => 0))), (a0, .inr (9, [.int 0, .int 0, w3, .int 20, .int 0, .int 0, .int 0, w4, w5, w6, w7, w8, w9, .ref a10, w11, .int (-1), w12, w13, w14, w15, w16, w17, w18, w19, w20, w21, w22, w23, w24, w25, w26, w27, .int 0, w28, .ref a29, .int 0, .ref a30, .int 0, .ref a31, w32, w33, w34, w35, w36, w37, w38, w39, w40, w41, w42, w43, w44, w45, w46, w47, w48, w49, w50, w51, w52, w53, w54, w55, w56, w57, w58, w59, w60, w61, w62, w63, w64, w65, w66, w67, w68]))] H := hW
  have hw : r1_ = (if p1 < 0 then 0 else (if 99999 < p1 then 0 else 1)) := hw
  by_cases c2_ : p1 < 0
  · have b3_ : (-2147483648) ≤ Int32.toInt p1 ∧ Int32.toInt p1 ≤ (-1) := (by have u0 := zbnd p1; have u1 := (zi_lt _ _).mp c2_; have u2 : (0 : Int32).toInt = 0 := (by decide); omega)
    rw [if_pos c2_] at hw
    subst hw
    refine lv_if_eq (tgt := 18) hx hb dX10_odds_5 (by decide) (fun c4_ => ?_) (fun c4_ => absurd (by decide) c4_)
    refine lv_ldc2 (v := (-9223372036854775808)) hx hb hown (ht _ zm_1044) dX10_odds_18 ?_
    exact zret_l (v := (-9223372036854775808)) hx hb hr hlocks hS () (by show _ = _; rw [if_pos c2_]) (hW.sub [] (by decide) rfl) (Nat.le_of_ble_eq_true rfl) (Nat.le_of_ble_eq_true rfl) dX10_odds_21
  · have b5_ : 0 ≤ Int32.toInt p1 ∧ Int32.toInt p1 ≤ 2147483647 := (by have u0 := zbnd p1; have u1 := (not_congr (zi_lt _ _)).mp c2_; have u2 : (0 : Int32).toInt = 0 := (by decide); omega)
    rw [if_neg c2_] at hw
    by_cases c6_ : 99999 < p1
    · have b7_ : 100000 ≤ Int32.toInt p1 ∧ Int32.toInt p1 ≤ 2147483647 := (by have u0 := b5_; have u1 := (zi_lt _ _).mp c6_; have u2 : (99999 : Int32).toInt = 99999 := (by decide); omega)
      rw [if_pos c6_] at hw
      subst hw
      refine lv_if_eq (tgt := 18) hx hb dX10_odds_5 (by decide) (fun c8_ => ?_) (fun c8_ => absurd (by decide) c8_)
      refine lv_ldc2 (v := (-9223372036854775808)) hx hb hown (ht _ zm_1044) dX10_odds_18 ?_
      exact zret_l (v := (-9223372036854775808)) hx hb hr hlocks hS () (by show _ = _; rw [if_neg c2_, if_pos c6_]) (hW.sub [] (by decide) rfl) (Nat.le_of_ble_eq_true rfl) (Nat.le_of_ble_eq_true rfl) dX10_odds_21
    · have b9_ : 0 ≤ Int32.toInt p1 ∧ Int32.toInt p1 ≤ 99999 := (by have u0 := b5_; have u1 := (not_congr (zi_lt _ _)).mp c6_; have u2 : (99999 : Int32).toInt = 99999 := (by decide); omega)
      rw [if_neg c6_] at hw
      subst hw
      refine lv_if_eq (tgt := 18) hx hb dX10_odds_5 (by decide) (fun c10_ => absurd c10_ (by decide)) (fun c10_ => ?_)
      refine lv_aload_n hx hb dX10_odds_8 rfl (lv_at hl 0 rfl) ?_
      refine lv_iload_n hx hb dX10_odds_9 rfl (lv_at hl 2 rfl) ?_
      refine lv_iconst (v := 0) hx hb dX10_odds_10 (by decide) ?_
      refine lv_iconst (v := 1) hx hb dX10_odds_11 (by decide) ?_
      refine zgo_i (wr := [(a10, .inl (y 2, 7, .inl (fun _ => 0))), (a29, .inl (y 0, 7, .inl (fun _ => 0))), (a30, .inl (y 0, 7, .inl (fun _ => 0))), (a31, .inl (y 0, 7, .inl (fun _ => 0)))]) (zrunV (As := [.int p2, .int 0, .int 1]) (rest := []) ⟨hx, hb, hml, hown, ht⟩ (zc_X10_in_11 l D y a0 p2 (.int 0) (.int 0) w3 (.int 20) (.int 0) (.int 0) (.int 0) w4 w5 w6 w7 w8 w9 (.ref a10) w11 (.int (-1)) w12 w13 w14 w15 w16 w17 w18 w19 w20 w21 w22 w23 w24 w25 w26 w27 (.int 0) w28 (.ref a29) (.int 0) (.ref a30) (.int 0) (.ref a31) w32 w33 w34 w35 w36 w37 w38 w39 w40 w41 w42 w43 w44 w45 w46 w47 w48 w49 w50 w51 w52 w53 w54 w55 w56 w57 w58 w59 w60 w61 w62 w63 w64 w65 w66 w67 w68) (cwV 3 ht (zgV zm_240 zm_241 zm_242 zm_5 zm_243) rfl rfl rfl (by decide +kernel) ⟨(Nat.le_of_ble_eq_true rfl), (Nat.le_of_ble_eq_true rfl)⟩) hK hE hS hA hW [4] (by decide) rfl 0 rfl rfl rfl rfl hl.1 rfl (Nat.le_of_ble_eq_true rfl) dX10_odds_12 (Nat.le_of_ble_eq_true rfl) (Nat.le_of_ble_eq_true rfl)) hS hA hW [4] [0, 1, 2, 3] rfl rfl (by decide) (by decide) (fun r11_ u H locs hw hW hS => ?_)
      have hW : zPD D A [(a10, .inl (y 2, 7, .inl (fun _ => 0))), (a29, .inl (y 0, 7, .inl (fun _ => 0))), (a30, .inl (y 0, 7, .inl (fun _ => 0))), (a31, .inl (y 0, 7, .inl (fun _ => 0))), (a0, .inr (9, [.int 0, .int 0, w3, .int 20, .int 0, .int 0, .int 0, w4, w5, w6, w7, w8, w9, .ref a10, w11, .int (-1), w12, w13, w14, w15, w16, w17, w18, w19, w20, w21, w22, w23, w24, w25, w26, w27, .int 0, w28, .ref a29, .int 0, .ref a30, .int 0, .ref a31, w32, w33, w34, w35, w36, w37, w38, w39, w40, w41, w42, w43, w44, w45, w46, w47, w48, w49, w50, w51, w52, w53, w54, w55, w56, w57, w58, w59, w60, w61, w62, w63, w64, w65, w66, w67, w68]))] H := hW
      have hw : r11_ = (if p2 < 0 then 0 else (if 1 < p2 then 0 else 1)) := hw
      by_cases c12_ : p2 < 0
      · have b13_ : (-2147483648) ≤ Int32.toInt p2 ∧ Int32.toInt p2 ≤ (-1) := (by have u0 := zbnd p2; have u1 := (zi_lt _ _).mp c12_; have u2 : (0 : Int32).toInt = 0 := (by decide); omega)
        rw [if_pos c12_] at hw
        subst hw
        refine lv_if_ne (tgt := 22) hx hb dX10_odds_15 (by decide) (fun c14_ => absurd (by decide) c14_) (fun c14_ => ?_)
        refine lv_ldc2 (v := (-9223372036854775808)) hx hb hown (ht _ zm_1044) dX10_odds_18 ?_
        exact zret_l (v := (-9223372036854775808)) hx hb hr hlocks hS () (by show _ = _; rw [if_neg c2_, if_neg c6_, if_pos c12_]) (hW.sub [] (by decide) rfl) (Nat.le_of_ble_eq_true rfl) (Nat.le_of_ble_eq_true rfl) dX10_odds_21
      · have b15_ : 0 ≤ Int32.toInt p2 ∧ Int32.toInt p2 ≤ 2147483647 := (by have u0 := zbnd p2; have u1 := (not_congr (zi_lt _ _)).mp c12_; have u2 : (0 : Int32).toInt = 0 := (by decide); omega)
        rw [if_neg c12_] at hw
        by_cases c16_ : 1 < p2
        · have b17_ : 2 ≤ Int32.toInt p2 ∧ Int32.toInt p2 ≤ 2147483647 := (by have u0 := b15_; have u1 := (zi_lt _ _).mp c16_; have u2 : (1 : Int32).toInt = 1 := (by decide); omega)
          rw [if_pos c16_] at hw
          subst hw
          refine lv_if_ne (tgt := 22) hx hb dX10_odds_15 (by decide) (fun c18_ => absurd (by decide) c18_) (fun c18_ => ?_)
          refine lv_ldc2 (v := (-9223372036854775808)) hx hb hown (ht _ zm_1044) dX10_odds_18 ?_
          exact zret_l (v := (-9223372036854775808)) hx hb hr hlocks hS () (by show _ = _; rw [if_neg c2_, if_neg c6_, if_neg c12_, if_pos c16_]) (hW.sub [] (by decide) rfl) (Nat.le_of_ble_eq_true rfl) (Nat.le_of_ble_eq_true rfl) dX10_odds_21
        · have b19_ : 0 ≤ Int32.toInt p2 ∧ Int32.toInt p2 ≤ 1 := (by have u0 := b15_; have u1 := (not_congr (zi_lt _ _)).mp c16_; have u2 : (1 : Int32).toInt = 1 := (by decide); omega)
          rw [if_neg c16_] at hw
          subst hw
          refine lv_if_ne (tgt := 22) hx hb dX10_odds_15 (by decide) (fun c20_ => ?_) (fun c20_ => absurd c20_ (by decide))
          refine lv_aload_n hx hb dX10_odds_22 rfl (lv_at hl 0 rfl) ?_
          refine zget hx hb ht inlX10 hown hK hW 4 rfl rfl 4 (by decide) zm_144 rfl dX10_odds_23 ?_
          refine lv_istore_n (lv' := [(3, .int 0), (0, .ref a0), (1, .int p1), (2, .int p2)]) hx hb dX10_odds_26 rfl hl (by decide) rfl (fun ls hl => ?_)
          refine lv_iconst (v := 0) hx hb dX10_odds_27 (by decide) ?_
          refine lv_istore (lv' := [(4, .int 0), (3, .int 0), (0, .ref a0), (1, .int p1), (2, .int p2)]) hx hb dX10_odds_28 hl (by decide) rfl (fun ls hl => ?_)
          refine lv_aload_n hx hb dX10_odds_30 rfl (lv_at hl 2 rfl) ?_
          refine lv_iconst (v := 0) hx hb dX10_odds_31 (by decide) ?_
          refine zput (ws' := [(a10, .inl (y 2, 7, .inl (fun _ => 0))), (a29, .inl (y 0, 7, .inl (fun _ => 0))), (a30, .inl (y 0, 7, .inl (fun _ => 0))), (a31, .inl (y 0, 7, .inl (fun _ => 0))), (a0, .inr (9, [.int 0, .int 0, w3, .int 20, .int 0, .int 0, .int 0, w4, w5, w6, w7, w8, w9, .ref a10, w11, .int (-1), w12, w13, w14, w15, w16, w17, w18, w19, w20, w21, w22, w23, w24, w25, w26, w27, .int 0, w28, .ref a29, .int 0, .ref a30, .int 0, .ref a31, w32, w33, w34, w35, w36, w37, w38, w39, w40, w41, w42, w43, w44, w45, w46, w47, w48, w49, w50, w51, w52, w53, w54, w55, w56, w57, w58, w59, w60, w61, w62, w63, w64, w65, w66, w67, w68]))]) hx hb ht inlX10 tyX10 tyX10_ok nmX10 hown hK hS hW 4 rfl rfl 4 (by decide) zm_144 rfl rfl rfl (Nat.le_of_ble_eq_true rfl) rfl dX10_odds_32 (fun H locs hW hS => ?_)
          refine lv_aload_n hx hb dX10_odds_35 rfl (lv_at hl 2 rfl) ?_
          refine zget hx hb ht inlX10 hown hK hW 4 rfl rfl 4 (by decide) zm_144 rfl dX10_odds_36 ?_
          refine lv_iconst (v := 4) hx hb dX10_odds_39 (by decide) ?_
          refine lv_icmp_ge (tgt := 75) hx hb dX10_odds_40 (by decide) (fun c21_ => absurd c21_ (by decide)) (fun c21_ => ?_)
          refine lv_iload hx hb dX10_odds_43 (lv_at hl 0 rfl) ?_
          refine lv_aload_n hx hb dX10_odds_45 rfl (lv_at hl 2 rfl) ?_
          refine lv_iconst (v := 0) hx hb dX10_odds_46 (by decide) ?_
          refine zgo_i (wr := []) (zrunV (As := [.int 0]) (rest := [.int 0]) ⟨hx, hb, hml, hown, ht⟩ (zc_X10_costOfRound_0 l D y a0 w3 (.int 0) w4 w5 w6 w7 w8 w9 a10 w11 w12 w13 w14 w15 w16 w17 w18 w19 w20 w21 w22 w23 w24 w25 w26 w27 w28 a29 a30 a31 w32 w33 w34 w35 w36 w37 w38 w39 w40 w41 w42 w43 w44 w45 w46 w47 w48 w49 w50 w51 w52 w53 w54 w55 w56 w57 w58 w59 w60 w61 w62 w63 w64 w65 w66 w67 w68) (cwV 1 ht (zgV zm_840 zm_841 zm_842 zm_5 zm_843) rfl rfl rfl (by decide +kernel) ⟨(Nat.le_of_ble_eq_true rfl), (Nat.le_of_ble_eq_true rfl)⟩) hK hE hS hA hW [4, 0, 1, 2, 3] (by decide) rfl 0 rfl rfl rfl rfl hl.1 rfl (Nat.le_of_ble_eq_true rfl) dX10_odds_47 (Nat.le_of_ble_eq_true rfl) (Nat.le_of_ble_eq_true rfl)) hS hA hW [4, 0, 1, 2, 3] [] rfl rfl (by decide) (by decide) (fun r22_ u H locs hw hW hS => ?_)
          have hW : zPD D A [(a0, .inr (9, [.int 0, .int 0, w3, .int 20, .int 0, .int 0, .int 0, w4, w5, w6, w7, w8, w9, .ref a10, w11, .int (-1), w12, w13, w14, w15, w16, w17, w18, w19, w20, w21, w22, w23, w24, w25, w26, w27, .int 0, w28, .ref a29, .int 0, .ref a30, .int 0, .ref a31, w32, w33, w34, w35, w36, w37, w38, w39, w40, w41, w42, w43, w44, w45, w46, w47, w48, w49, w50, w51, w52, w53, w54, w55, w56, w57, w58, w59, w60, w61, w62, w63, w64, w65, w66, w67, w68])), (a10, .inl (y 2, 7, .inl (fun _ => 0))), (a29, .inl (y 0, 7, .inl (upd (upd (upd (upd (upd (upd (upd (fun _ => 0) 0 99999) 1 99999) 2 99999) 3 99999) 4 99999) 5 99999) 6 99999))), (a30, .inl (y 0, 7, .inl (fun _ => 0))), (a31, .inl (y 0, 7, .inl (fun _ => 0)))] H := hW
          have hw : r22_ = 0 := hw
          subst hw
          refine lv_iload_n hx hb dX10_odds_50 rfl (lv_at hl 3 rfl) ?_
          refine lv_icmp_gt (tgt := 58) hx hb dX10_odds_51 (by decide) (fun c23_ => absurd c23_ c2_) (fun c23_ => ?_)
          refine lv_iconst (v := 1) hx hb dX10_odds_54 (by decide) ?_
          refine lv_goto (tgt := 59) hx hb dX10_odds_55 (by decide) ?_
          refine lv_iadd hx hb dX10_odds_59 ?_
          refine ztop (w := .int 1) (congrArg Value.int (by decide)) ?_
          refine lv_istore (lv' := [(4, .int 1), (3, .int 0), (0, .ref a0), (1, .int p1), (2, .int p2)]) hx hb dX10_odds_60 hl (by decide) rfl (fun ls hl => ?_)
          refine lv_aload_n hx hb dX10_odds_62 rfl (lv_at hl 2 rfl) ?_
          refine lv_dup hx hb dX10_odds_63 rfl ?_
          refine zget hx hb ht inlX10 hown hK hW 0 rfl rfl 4 (by decide) zm_144 rfl dX10_odds_64 ?_
          refine lv_iconst (v := 1) hx hb dX10_odds_67 (by decide) ?_
          refine lv_iadd hx hb dX10_odds_68 ?_
          refine ztop (w := .int 1) (congrArg Value.int (by decide)) ?_
          refine zput (ws' := [(a0, .inr (9, [.int 0, .int 0, w3, .int 20, .int 1, .int 0, .int 0, w4, w5, w6, w7, w8, w9, .ref a10, w11, .int (-1), w12, w13, w14, w15, w16, w17, w18, w19, w20, w21, w22, w23, w24, w25, w26, w27, .int 0, w28, .ref a29, .int 0, .ref a30, .int 0, .ref a31, w32, w33, w34, w35, w36, w37, w38, w39, w40, w41, w42, w43, w44, w45, w46, w47, w48, w49, w50, w51, w52, w53, w54, w55, w56, w57, w58, w59, w60, w61, w62, w63, w64, w65, w66, w67, w68])), (a10, .inl (y 2, 7, .inl (fun _ => 0))), (a29, .inl (y 0, 7, .inl (upd (upd (upd (upd (upd (upd (upd (fun _ => 0) 0 99999) 1 99999) 2 99999) 3 99999) 4 99999) 5 99999) 6 99999))), (a30, .inl (y 0, 7, .inl (fun _ => 0))), (a31, .inl (y 0, 7, .inl (fun _ => 0)))]) hx hb ht inlX10 tyX10 tyX10_ok nmX10 hown hK hS hW 0 rfl rfl 4 (by decide) zm_144 rfl rfl rfl (Nat.le_of_ble_eq_true rfl) rfl dX10_odds_69 (fun H locs hW hS => ?_)
          refine lv_goto (tgt := 35) hx hb dX10_odds_72 (by decide) ?_
          refine lv_aload_n hx hb dX10_odds_35 rfl (lv_at hl 2 rfl) ?_
          refine zget hx hb ht inlX10 hown hK hW 0 rfl rfl 4 (by decide) zm_144 rfl dX10_odds_36 ?_
          refine lv_iconst (v := 4) hx hb dX10_odds_39 (by decide) ?_
          refine lv_icmp_ge (tgt := 75) hx hb dX10_odds_40 (by decide) (fun c24_ => absurd c24_ (by decide)) (fun c24_ => ?_)
          refine lv_iload hx hb dX10_odds_43 (lv_at hl 0 rfl) ?_
          refine lv_aload_n hx hb dX10_odds_45 rfl (lv_at hl 2 rfl) ?_
          refine lv_iconst (v := 0) hx hb dX10_odds_46 (by decide) ?_
          refine zgo_i (wr := []) (zrunV (As := [.int 0]) (rest := [.int 1]) ⟨hx, hb, hml, hown, ht⟩ (zc_X10_costOfRound_1 l D y a0 w3 (.int 1) w4 w5 w6 w7 w8 w9 a10 w11 w12 w13 w14 w15 w16 w17 w18 w19 w20 w21 w22 w23 w24 w25 w26 w27 w28 a29 a30 a31 w32 w33 w34 w35 w36 w37 w38 w39 w40 w41 w42 w43 w44 w45 w46 w47 w48 w49 w50 w51 w52 w53 w54 w55 w56 w57 w58 w59 w60 w61 w62 w63 w64 w65 w66 w67 w68) (cwV 1 ht (zgV zm_840 zm_841 zm_842 zm_5 zm_843) rfl rfl rfl (by decide +kernel) ⟨(Nat.le_of_ble_eq_true rfl), (Nat.le_of_ble_eq_true rfl)⟩) hK hE hS hA hW [0, 1, 2, 3, 4] (by decide) rfl 0 rfl rfl rfl rfl hl.1 rfl (Nat.le_of_ble_eq_true rfl) dX10_odds_47 (Nat.le_of_ble_eq_true rfl) (Nat.le_of_ble_eq_true rfl)) hS hA hW [0, 1, 2, 3, 4] [] rfl rfl (by decide) (by decide) (fun r25_ u H locs hw hW hS => ?_)
          have hW : zPD D A [(a0, .inr (9, [.int 0, .int 0, w3, .int 20, .int 1, .int 0, .int 0, w4, w5, w6, w7, w8, w9, .ref a10, w11, .int (-1), w12, w13, w14, w15, w16, w17, w18, w19, w20, w21, w22, w23, w24, w25, w26, w27, .int 0, w28, .ref a29, .int 0, .ref a30, .int 0, .ref a31, w32, w33, w34, w35, w36, w37, w38, w39, w40, w41, w42, w43, w44, w45, w46, w47, w48, w49, w50, w51, w52, w53, w54, w55, w56, w57, w58, w59, w60, w61, w62, w63, w64, w65, w66, w67, w68])), (a10, .inl (y 2, 7, .inl (fun _ => 0))), (a29, .inl (y 0, 7, .inl (upd (upd (upd (upd (upd (upd (upd (upd (upd (upd (upd (upd (upd (upd (fun _ => 0) 0 99999) 1 99999) 2 99999) 3 99999) 4 99999) 5 99999) 6 99999) 0 99999) 1 99999) 2 99999) 3 99999) 4 99999) 5 99999) 6 99999))), (a30, .inl (y 0, 7, .inl (fun _ => 0))), (a31, .inl (y 0, 7, .inl (fun _ => 0)))] H := hW
          have hw : r25_ = 0 := hw
          subst hw
          refine lv_iload_n hx hb dX10_odds_50 rfl (lv_at hl 3 rfl) ?_
          refine lv_icmp_gt (tgt := 58) hx hb dX10_odds_51 (by decide) (fun c26_ => absurd c26_ c2_) (fun c26_ => ?_)
          refine lv_iconst (v := 1) hx hb dX10_odds_54 (by decide) ?_
          refine lv_goto (tgt := 59) hx hb dX10_odds_55 (by decide) ?_
          refine lv_iadd hx hb dX10_odds_59 ?_
          refine ztop (w := .int 2) (congrArg Value.int (by decide)) ?_
          refine lv_istore (lv' := [(4, .int 2), (3, .int 0), (0, .ref a0), (1, .int p1), (2, .int p2)]) hx hb dX10_odds_60 hl (by decide) rfl (fun ls hl => ?_)
          refine lv_aload_n hx hb dX10_odds_62 rfl (lv_at hl 2 rfl) ?_
          refine lv_dup hx hb dX10_odds_63 rfl ?_
          refine zget hx hb ht inlX10 hown hK hW 0 rfl rfl 4 (by decide) zm_144 rfl dX10_odds_64 ?_
          refine lv_iconst (v := 1) hx hb dX10_odds_67 (by decide) ?_
          refine lv_iadd hx hb dX10_odds_68 ?_
          refine ztop (w := .int 2) (congrArg Value.int (by decide)) ?_
          refine zput (ws' := [(a0, .inr (9, [.int 0, .int 0, w3, .int 20, .int 2, .int 0, .int 0, w4, w5, w6, w7, w8, w9, .ref a10, w11, .int (-1), w12, w13, w14, w15, w16, w17, w18, w19, w20, w21, w22, w23, w24, w25, w26, w27, .int 0, w28, .ref a29, .int 0, .ref a30, .int 0, .ref a31, w32, w33, w34, w35, w36, w37, w38, w39, w40, w41, w42, w43, w44, w45, w46, w47, w48, w49, w50, w51, w52, w53, w54, w55, w56, w57, w58, w59, w60, w61, w62, w63, w64, w65, w66, w67, w68])), (a10, .inl (y 2, 7, .inl (fun _ => 0))), (a29, .inl (y 0, 7, .inl (upd (upd (upd (upd (upd (upd (upd (upd (upd (upd (upd (upd (upd (upd (fun _ => 0) 0 99999) 1 99999) 2 99999) 3 99999) 4 99999) 5 99999) 6 99999) 0 99999) 1 99999) 2 99999) 3 99999) 4 99999) 5 99999) 6 99999))), (a30, .inl (y 0, 7, .inl (fun _ => 0))), (a31, .inl (y 0, 7, .inl (fun _ => 0)))]) hx hb ht inlX10 tyX10 tyX10_ok nmX10 hown hK hS hW 0 rfl rfl 4 (by decide) zm_144 rfl rfl rfl (Nat.le_of_ble_eq_true rfl) rfl dX10_odds_69 (fun H locs hW hS => ?_)
          refine lv_goto (tgt := 35) hx hb dX10_odds_72 (by decide) ?_
          refine lv_aload_n hx hb dX10_odds_35 rfl (lv_at hl 2 rfl) ?_
          refine zget hx hb ht inlX10 hown hK hW 0 rfl rfl 4 (by decide) zm_144 rfl dX10_odds_36 ?_
          refine lv_iconst (v := 4) hx hb dX10_odds_39 (by decide) ?_
          refine lv_icmp_ge (tgt := 75) hx hb dX10_odds_40 (by decide) (fun c27_ => absurd c27_ (by decide)) (fun c27_ => ?_)
          refine lv_iload hx hb dX10_odds_43 (lv_at hl 0 rfl) ?_
          refine lv_aload_n hx hb dX10_odds_45 rfl (lv_at hl 2 rfl) ?_
          refine lv_iconst (v := 0) hx hb dX10_odds_46 (by decide) ?_
          refine zgo_i (wr := []) (zrunV (As := [.int 0]) (rest := [.int 2]) ⟨hx, hb, hml, hown, ht⟩ (zc_X10_costOfRound_2 l D y a0 w3 (.int 2) w4 w5 w6 w7 w8 w9 a10 w11 w12 w13 w14 w15 w16 w17 w18 w19 w20 w21 w22 w23 w24 w25 w26 w27 w28 a29 a30 a31 w32 w33 w34 w35 w36 w37 w38 w39 w40 w41 w42 w43 w44 w45 w46 w47 w48 w49 w50 w51 w52 w53 w54 w55 w56 w57 w58 w59 w60 w61 w62 w63 w64 w65 w66 w67 w68) (cwV 1 ht (zgV zm_840 zm_841 zm_842 zm_5 zm_843) rfl rfl rfl (by decide +kernel) ⟨(Nat.le_of_ble_eq_true rfl), (Nat.le_of_ble_eq_true rfl)⟩) hK hE hS hA hW [0, 1, 2, 3, 4] (by decide) rfl 0 rfl rfl rfl rfl hl.1 rfl (Nat.le_of_ble_eq_true rfl) dX10_odds_47 (Nat.le_of_ble_eq_true rfl) (Nat.le_of_ble_eq_true rfl)) hS hA hW [0, 1, 2, 3, 4] [] rfl rfl (by decide) (by decide) (fun r28_ u H locs hw hW hS => ?_)
          have hW : zPD D A [(a0, .inr (9, [.int 0, .int 0, w3, .int 20, .int 2, .int 0, .int 0, w4, w5, w6, w7, w8, w9, .ref a10, w11, .int (-1), w12, w13, w14, w15, w16, w17, w18, w19, w20, w21, w22, w23, w24, w25, w26, w27, .int 0, w28, .ref a29, .int 0, .ref a30, .int 0, .ref a31, w32, w33, w34, w35, w36, w37, w38, w39, w40, w41, w42, w43, w44, w45, w46, w47, w48, w49, w50, w51, w52, w53, w54, w55, w56, w57, w58, w59, w60, w61, w62, w63, w64, w65, w66, w67, w68])), (a10, .inl (y 2, 7, .inl (fun _ => 0))), (a29, .inl (y 0, 7, .inl (upd (upd (upd (upd (upd (upd (upd (upd (upd (upd (upd (upd (upd (upd (upd (upd (upd (upd (upd (upd (upd (fun _ => 0) 0 99999) 1 99999) 2 99999) 3 99999) 4 99999) 5 99999) 6 99999) 0 99999) 1 99999) 2 99999) 3 99999) 4 99999) 5 99999) 6 99999) 0 99999) 1 99999) 2 99999) 3 99999) 4 99999) 5 99999) 6 99999))), (a30, .inl (y 0, 7, .inl (fun _ => 0))), (a31, .inl (y 0, 7, .inl (fun _ => 0)))] H := hW
          have hw : r28_ = 0 := hw
          subst hw
          refine lv_iload_n hx hb dX10_odds_50 rfl (lv_at hl 3 rfl) ?_
          refine lv_icmp_gt (tgt := 58) hx hb dX10_odds_51 (by decide) (fun c29_ => absurd c29_ c2_) (fun c29_ => ?_)
          refine lv_iconst (v := 1) hx hb dX10_odds_54 (by decide) ?_
          refine lv_goto (tgt := 59) hx hb dX10_odds_55 (by decide) ?_
          refine lv_iadd hx hb dX10_odds_59 ?_
          refine ztop (w := .int 3) (congrArg Value.int (by decide)) ?_
          refine lv_istore (lv' := [(4, .int 3), (3, .int 0), (0, .ref a0), (1, .int p1), (2, .int p2)]) hx hb dX10_odds_60 hl (by decide) rfl (fun ls hl => ?_)
          refine lv_aload_n hx hb dX10_odds_62 rfl (lv_at hl 2 rfl) ?_
          refine lv_dup hx hb dX10_odds_63 rfl ?_
          refine zget hx hb ht inlX10 hown hK hW 0 rfl rfl 4 (by decide) zm_144 rfl dX10_odds_64 ?_
          refine lv_iconst (v := 1) hx hb dX10_odds_67 (by decide) ?_
          refine lv_iadd hx hb dX10_odds_68 ?_
          refine ztop (w := .int 3) (congrArg Value.int (by decide)) ?_
          refine zput (ws' := [(a0, .inr (9, [.int 0, .int 0, w3, .int 20, .int 3, .int 0, .int 0, w4, w5, w6, w7, w8, w9, .ref a10, w11, .int (-1), w12, w13, w14, w15, w16, w17, w18, w19, w20, w21, w22, w23, w24, w25, w26, w27, .int 0, w28, .ref a29, .int 0, .ref a30, .int 0, .ref a31, w32, w33, w34, w35, w36, w37, w38, w39, w40, w41, w42, w43, w44, w45, w46, w47, w48, w49, w50, w51, w52, w53, w54, w55, w56, w57, w58, w59, w60, w61, w62, w63, w64, w65, w66, w67, w68])), (a10, .inl (y 2, 7, .inl (fun _ => 0))), (a29, .inl (y 0, 7, .inl (upd (upd (upd (upd (upd (upd (upd (upd (upd (upd (upd (upd (upd (upd (upd (upd (upd (upd (upd (upd (upd (fun _ => 0) 0 99999) 1 99999) 2 99999) 3 99999) 4 99999) 5 99999) 6 99999) 0 99999) 1 99999) 2 99999) 3 99999) 4 99999) 5 99999) 6 99999) 0 99999) 1 99999) 2 99999) 3 99999) 4 99999) 5 99999) 6 99999))), (a30, .inl (y 0, 7, .inl (fun _ => 0))), (a31, .inl (y 0, 7, .inl (fun _ => 0)))]) hx hb ht inlX10 tyX10 tyX10_ok nmX10 hown hK hS hW 0 rfl rfl 4 (by decide) zm_144 rfl rfl rfl (Nat.le_of_ble_eq_true rfl) rfl dX10_odds_69 (fun H locs hW hS => ?_)
          refine lv_goto (tgt := 35) hx hb dX10_odds_72 (by decide) ?_
          refine lv_aload_n hx hb dX10_odds_35 rfl (lv_at hl 2 rfl) ?_
          refine zget hx hb ht inlX10 hown hK hW 0 rfl rfl 4 (by decide) zm_144 rfl dX10_odds_36 ?_
          refine lv_iconst (v := 4) hx hb dX10_odds_39 (by decide) ?_
          refine lv_icmp_ge (tgt := 75) hx hb dX10_odds_40 (by decide) (fun c30_ => absurd c30_ (by decide)) (fun c30_ => ?_)
          refine lv_iload hx hb dX10_odds_43 (lv_at hl 0 rfl) ?_
          refine lv_aload_n hx hb dX10_odds_45 rfl (lv_at hl 2 rfl) ?_
          refine lv_iconst (v := 0) hx hb dX10_odds_46 (by decide) ?_
          refine zgo_i (wr := []) (zrunV (As := [.int 0]) (rest := [.int 3]) ⟨hx, hb, hml, hown, ht⟩ (zc_X10_costOfRound_3 l D y a0 w3 (.int 3) w4 w5 w6 w7 w8 w9 a10 w11 w12 w13 w14 w15 w16 w17 w18 w19 w20 w21 w22 w23 w24 w25 w26 w27 w28 a29 a30 a31 w32 w33 w34 w35 w36 w37 w38 w39 w40 w41 w42 w43 w44 w45 w46 w47 w48 w49 w50 w51 w52 w53 w54 w55 w56 w57 w58 w59 w60 w61 w62 w63 w64 w65 w66 w67 w68) (cwV 1 ht (zgV zm_840 zm_841 zm_842 zm_5 zm_843) rfl rfl rfl (by decide +kernel) ⟨(Nat.le_of_ble_eq_true rfl), (Nat.le_of_ble_eq_true rfl)⟩) hK hE hS hA hW [0, 1, 2, 3, 4] (by decide) rfl 0 rfl rfl rfl rfl hl.1 rfl (Nat.le_of_ble_eq_true rfl) dX10_odds_47 (Nat.le_of_ble_eq_true rfl) (Nat.le_of_ble_eq_true rfl)) hS hA hW [0, 1, 2, 3, 4] [] rfl rfl (by decide) (by decide) (fun r31_ u H locs hw hW hS => ?_)
          have hW : zPD D A [(a0, .inr (9, [.int 0, .int 0, w3, .int 20, .int 3, .int 0, .int 0, w4, w5, w6, w7, w8, w9, .ref a10, w11, .int (-1), w12, w13, w14, w15, w16, w17, w18, w19, w20, w21, w22, w23, w24, w25, w26, w27, .int 0, w28, .ref a29, .int 0, .ref a30, .int 0, .ref a31, w32, w33, w34, w35, w36, w37, w38, w39, w40, w41, w42, w43, w44, w45, w46, w47, w48, w49, w50, w51, w52, w53, w54, w55, w56, w57, w58, w59, w60, w61, w62, w63, w64, w65, w66, w67, w68])), (a10, .inl (y 2, 7, .inl (fun _ => 0))), (a29, .inl (y 0, 7, .inl (upd (upd (upd (upd (upd (upd (upd (upd (upd (upd (upd (upd (upd (upd (upd (upd (upd (upd (upd (upd (upd (upd (upd (upd (upd (upd (upd (upd (fun _ => 0) 0 99999) 1 99999) 2 99999) 3 99999) 4 99999) 5 99999) 6 99999) 0 99999) 1 99999) 2 99999) 3 99999) 4 99999) 5 99999) 6 99999) 0 99999) 1 99999) 2 99999) 3 99999) 4 99999) 5 99999) 6 99999) 0 99999) 1 99999) 2 99999) 3 99999) 4 99999) 5 99999) 6 99999))), (a30, .inl (y 0, 7, .inl (fun _ => 0))), (a31, .inl (y 0, 7, .inl (fun _ => 0)))] H := hW
          have hw : r31_ = 0 := hw
          subst hw
          refine lv_iload_n hx hb dX10_odds_50 rfl (lv_at hl 3 rfl) ?_
          refine lv_icmp_gt (tgt := 58) hx hb dX10_odds_51 (by decide) (fun c32_ => absurd c32_ c2_) (fun c32_ => ?_)
          refine lv_iconst (v := 1) hx hb dX10_odds_54 (by decide) ?_
          refine lv_goto (tgt := 59) hx hb dX10_odds_55 (by decide) ?_
          refine lv_iadd hx hb dX10_odds_59 ?_
          refine ztop (w := .int 4) (congrArg Value.int (by decide)) ?_
          refine lv_istore (lv' := [(4, .int 4), (3, .int 0), (0, .ref a0), (1, .int p1), (2, .int p2)]) hx hb dX10_odds_60 hl (by decide) rfl (fun ls hl => ?_)
          refine lv_aload_n hx hb dX10_odds_62 rfl (lv_at hl 2 rfl) ?_
          refine lv_dup hx hb dX10_odds_63 rfl ?_
          refine zget hx hb ht inlX10 hown hK hW 0 rfl rfl 4 (by decide) zm_144 rfl dX10_odds_64 ?_
          refine lv_iconst (v := 1) hx hb dX10_odds_67 (by decide) ?_
          refine lv_iadd hx hb dX10_odds_68 ?_
          refine ztop (w := .int 4) (congrArg Value.int (by decide)) ?_
          refine zput (ws' := [(a0, .inr (9, [.int 0, .int 0, w3, .int 20, .int 4, .int 0, .int 0, w4, w5, w6, w7, w8, w9, .ref a10, w11, .int (-1), w12, w13, w14, w15, w16, w17, w18, w19, w20, w21, w22, w23, w24, w25, w26, w27, .int 0, w28, .ref a29, .int 0, .ref a30, .int 0, .ref a31, w32, w33, w34, w35, w36, w37, w38, w39, w40, w41, w42, w43, w44, w45, w46, w47, w48, w49, w50, w51, w52, w53, w54, w55, w56, w57, w58, w59, w60, w61, w62, w63, w64, w65, w66, w67, w68])), (a10, .inl (y 2, 7, .inl (fun _ => 0))), (a29, .inl (y 0, 7, .inl (upd (upd (upd (upd (upd (upd (upd (upd (upd (upd (upd (upd (upd (upd (upd (upd (upd (upd (upd (upd (upd (upd (upd (upd (upd (upd (upd (upd (fun _ => 0) 0 99999) 1 99999) 2 99999) 3 99999) 4 99999) 5 99999) 6 99999) 0 99999) 1 99999) 2 99999) 3 99999) 4 99999) 5 99999) 6 99999) 0 99999) 1 99999) 2 99999) 3 99999) 4 99999) 5 99999) 6 99999) 0 99999) 1 99999) 2 99999) 3 99999) 4 99999) 5 99999) 6 99999))), (a30, .inl (y 0, 7, .inl (fun _ => 0))), (a31, .inl (y 0, 7, .inl (fun _ => 0)))]) hx hb ht inlX10 tyX10 tyX10_ok nmX10 hown hK hS hW 0 rfl rfl 4 (by decide) zm_144 rfl rfl rfl (Nat.le_of_ble_eq_true rfl) rfl dX10_odds_69 (fun H locs hW hS => ?_)
          refine lv_goto (tgt := 35) hx hb dX10_odds_72 (by decide) ?_
          refine lv_aload_n hx hb dX10_odds_35 rfl (lv_at hl 2 rfl) ?_
          refine zget hx hb ht inlX10 hown hK hW 0 rfl rfl 4 (by decide) zm_144 rfl dX10_odds_36 ?_
          refine lv_iconst (v := 4) hx hb dX10_odds_39 (by decide) ?_
          refine lv_icmp_ge (tgt := 75) hx hb dX10_odds_40 (by decide) (fun c33_ => ?_) (fun c33_ => absurd (by decide) c33_)
          refine lv_aload_n hx hb dX10_odds_75 rfl (lv_at hl 2 rfl) ?_
          refine lv_iload_n hx hb dX10_odds_76 rfl (lv_at hl 1 rfl) ?_
          refine zput (ws' := [(a0, .inr (9, [.int 0, .int 0, w3, .int 20, .int 0, .int 0, .int 0, w4, w5, w6, w7, w8, w9, .ref a10, w11, .int (-1), w12, w13, w14, w15, w16, w17, w18, w19, w20, w21, w22, w23, w24, w25, w26, w27, .int 0, w28, .ref a29, .int 0, .ref a30, .int 0, .ref a31, w32, w33, w34, w35, w36, w37, w38, w39, w40, w41, w42, w43, w44, w45, w46, w47, w48, w49, w50, w51, w52, w53, w54, w55, w56, w57, w58, w59, w60, w61, w62, w63, w64, w65, w66, w67, w68])), (a10, .inl (y 2, 7, .inl (fun _ => 0))), (a29, .inl (y 0, 7, .inl (upd (upd (upd (upd (upd (upd (upd (upd (upd (upd (upd (upd (upd (upd (upd (upd (upd (upd (upd (upd (upd (upd (upd (upd (upd (upd (upd (upd (fun _ => 0) 0 99999) 1 99999) 2 99999) 3 99999) 4 99999) 5 99999) 6 99999) 0 99999) 1 99999) 2 99999) 3 99999) 4 99999) 5 99999) 6 99999) 0 99999) 1 99999) 2 99999) 3 99999) 4 99999) 5 99999) 6 99999) 0 99999) 1 99999) 2 99999) 3 99999) 4 99999) 5 99999) 6 99999))), (a30, .inl (y 0, 7, .inl (fun _ => 0))), (a31, .inl (y 0, 7, .inl (fun _ => 0)))]) hx hb ht inlX10 tyX10 tyX10_ok nmX10 hown hK hS hW 0 rfl rfl 4 (by decide) zm_144 rfl rfl rfl (Nat.le_of_ble_eq_true rfl) rfl dX10_odds_77 (fun H locs hW hS => ?_)
          refine lv_aload_n hx hb dX10_odds_80 rfl (lv_at hl 2 rfl) ?_
          refine lv_iload hx hb dX10_odds_81 (lv_at hl 0 rfl) ?_
          refine lv_iconst (v := 4) hx hb dX10_odds_83 (by decide) ?_
          refine lv_iload_n hx hb dX10_odds_84 rfl (lv_at hl 4 rfl) ?_
          refine zgo_l (wr := [(a10, .inl (y 2, 7, .inl (fun _ => 0))), (a29, .inl (y 0, 7, .inl (upd (upd (upd (upd (upd (upd (upd (upd (upd (upd (upd (upd (upd (upd (upd (upd (upd (upd (upd (upd (upd (upd (upd (upd (upd (upd (upd (upd (fun _ => 0) 0 99999) 1 99999) 2 99999) 3 99999) 4 99999) 5 99999) 6 99999) 0 99999) 1 99999) 2 99999) 3 99999) 4 99999) 5 99999) 6 99999) 0 99999) 1 99999) 2 99999) 3 99999) 4 99999) 5 99999) 6 99999) 0 99999) 1 99999) 2 99999) 3 99999) 4 99999) 5 99999) 6 99999))), (a30, .inl (y 0, 7, .inl (fun _ => 0))), (a31, .inl (y 0, 7, .inl (fun _ => 0)))]) (zrunV (As := [.int 4, .int 4, .int p2]) (rest := []) ⟨hx, hb, hml, hown, ht⟩ (zc_X10_lowest_0 l D y a0 p2 (.int 0) (.int 0) w3 (.int 20) (.int 0) (.int 0) (.int 0) w4 w5 w6 w7 w8 w9 (.ref a10) w11 (.int (-1)) w12 w13 w14 w15 w16 w17 w18 w19 w20 w21 w22 w23 w24 w25 w26 w27 (.int 0) w28 (.ref a29) (.int 0) (.ref a30) (.int 0) (.ref a31) w32 w33 w34 w35 w36 w37 w38 w39 w40 w41 w42 w43 w44 w45 w46 w47 w48 w49 w50 w51 w52 w53 w54 w55 w56 w57 w58 w59 w60 w61 w62 w63 w64 w65 w66 w67 w68) (cwV 3 ht (zgV zm_1045 zm_1046 zm_1047 zm_5 zm_1048) rfl rfl rfl (by decide +kernel) ⟨(Nat.le_of_ble_eq_true rfl), (Nat.le_of_ble_eq_true rfl)⟩) hK hE hS hA hW [0] (by decide) rfl 0 rfl rfl rfl rfl hl.1 rfl (Nat.le_of_ble_eq_true rfl) dX10_odds_85 (Nat.le_of_ble_eq_true rfl) (Nat.le_of_ble_eq_true rfl)) hS hA hW [0] [1, 2, 3, 4] rfl rfl (by decide) (by decide) (fun r34_ u H locs hw hW hS => ?_)
          have hW : zPD D A [(a10, .inl (y 2, 7, .inl (fun _ => 0))), (a29, .inl (y 0, 7, .inl (upd (upd (upd (upd (upd (upd (upd (upd (upd (upd (upd (upd (upd (upd (upd (upd (upd (upd (upd (upd (upd (upd (upd (upd (upd (upd (upd (upd (fun _ => 0) 0 99999) 1 99999) 2 99999) 3 99999) 4 99999) 5 99999) 6 99999) 0 99999) 1 99999) 2 99999) 3 99999) 4 99999) 5 99999) 6 99999) 0 99999) 1 99999) 2 99999) 3 99999) 4 99999) 5 99999) 6 99999) 0 99999) 1 99999) 2 99999) 3 99999) 4 99999) 5 99999) 6 99999))), (a30, .inl (y 0, 7, .inl (fun _ => 0))), (a31, .inl (y 0, 7, .inl (fun _ => 0))), (a0, .inr (9, [.int 0, .int 0, w3, .int 20, .int 0, .int 0, .int 0, w4, w5, w6, w7, w8, w9, .ref a10, w11, .int (-1), w12, w13, w14, w15, w16, w17, w18, w19, w20, w21, w22, w23, w24, w25, w26, w27, .int 0, w28, .ref a29, .int 0, .ref a30, .int 0, .ref a31, w32, w33, w34, w35, w36, w37, w38, w39, w40, w41, w42, w43, w44, w45, w46, w47, w48, w49, w50, w51, w52, w53, w54, w55, w56, w57, w58, w59, w60, w61, w62, w63, w64, w65, w66, w67, w68]))] H := hW
          have hw : r34_ = 1 := hw
          subst hw
          exact zret_l (v := 1) hx hb hr hlocks hS () (by show _ = _; rw [if_neg c2_, if_neg c6_, if_neg c12_, if_neg c16_]) (hW.sub [] (by decide) rfl) (Nat.le_of_ble_eq_true rfl) (Nat.le_of_ble_eq_true rfl) dX10_odds_88
set_option maxHeartbeats 8000000 in
set_option maxRecDepth 100000 in
theorem zc_X1_stormEnd_3 (l : Launch) (D : va_G) (y : Nat → ClassId) (a0 : Nat) (a1 : Nat) (w2 : Value) (w3 : Value) (w4 : Value) (w5 : Value) (w6 : Value) (w7 : Value) (w8 : Value) (w9 : Value) (w10 : Value) (w11 : Value) (w12 : Value) (w13 : Value) (w14 : Value) (w15 : Value) (w16 : Value) (a17 : Nat) (w18 : Value) (w19 : Value) (w20 : Value) (w21 : Value) (w22 : Value) (w23 : Value) (w24 : Value) (w25 : Value) (w26 : Value) (w27 : Value) : zM l D y yX1_stormEnd (Cond.code yX1_stormEnd cX1_stormEnd 1 (some .int) :: zT) { frames := 0, cells := 0, slots := 0, locals := 0 } [.ref a0] [(a0, .inr (1, [.ref a1, w2, .int 21, w3, w4, w5, w6, w7, w8])), (a1, .inr (6, [w9, w10, w11, w12, w13, w14, w15, w16, .ref a17, w18, w19, w20])), (a17, .inr (2, [w21, .int 15, w22, w23, w24, w25, w26, w27]))] (zQi (S := Unit) D (fun r_ _ => r_ = 36) (fun _ => [(a0, .inr (1, [.ref a1, w2, .int 21, w3, w4, w5, w6, w7, w8])), (a1, .inr (6, [w9, w10, w11, w12, w13, w14, w15, w16, .ref a17, w18, w19, w20])), (a17, .inr (2, [w21, .int 15, w22, w23, w24, w25, w26, w27]))])) := by
  refine zent (cc := cX1_stormEnd) (maxL := 1) (ret := (some .int)) (by decide) (Nat.le_of_ble_eq_true rfl) ?_
  intro p e s m below meth c A H locs ls hx hb hml hr ht hown hlocks hin hA hK hE hS hW hl
  have hown : s.vm.findClass RX1 = some m.cls := hown
  have hW : zPD D A [(a0, .inr (1, [.ref a1, w2, .int 21, w3, w4, w5, w6, w7, w8])), (a1, .inr (6, [w9, w10, w11, w12, w13, w14, w15, w16, .ref a17, w18, w19, w20])), (a17, .inr (2, [w21, .int 15, w22, w23, w24, w25, w26, w27]))] H := hW
  have hl : lv_has ls 1 [(0, .ref a0)] := hl
  refine lv_aload_n hx hb dX1_stormEnd_0 rfl (lv_at hl 0 rfl) ?_
  refine zget hx hb ht inlX1 hown hK hW 0 rfl rfl 2 (by decide) zm_110 rfl dX1_stormEnd_1 ?_
  refine lv_aload_n hx hb dX1_stormEnd_4 rfl (lv_at hl 0 rfl) ?_
  refine zget hx hb ht inlX1 hown hK hW 0 rfl rfl 0 (by decide) zm_119 rfl dX1_stormEnd_5 ?_
  refine zget hx hb ht inlX7 hown hK hW 1 rfl rfl 8 (by decide) zm_290 rfl dX1_stormEnd_8 ?_
  refine zget hx hb ht inlX2 hown hK hW 2 rfl rfl 1 (by decide) zm_291 rfl dX1_stormEnd_11 ?_
  refine lv_iadd hx hb dX1_stormEnd_14 ?_
  refine ztop (w := .int 36) (congrArg Value.int (by decide)) ?_
  exact zret_i (v := 36) hx hb hr hlocks hS () rfl hW (Nat.le_of_ble_eq_true rfl) (Nat.le_of_ble_eq_true rfl) dX1_stormEnd_15
set_option maxHeartbeats 8000000 in
set_option maxRecDepth 100000 in
theorem zc_X1_harmOfAll_3 (l : Launch) (D : va_G) (y : Nat → ClassId) (a0 : Nat) (a1 : Nat) (w2 : Value) (w3 : Value) (w4 : Value) (w5 : Value) (w6 : Value) (w7 : Value) (w8 : Value) (w9 : Value) (w10 : Value) (w11 : Value) (w12 : Value) (w13 : Value) (w14 : Value) (w15 : Value) (w16 : Value) (w17 : Value) (w18 : Value) (w19 : Value) (w20 : Value) : zM l D y yX1_harmOfAll (Cond.code yX1_harmOfAll cX1_harmOfAll 5 (some .int) :: zT) { frames := 0, cells := 0, slots := 0, locals := 0 } [.ref a0, .int 0, .int 36] [(a0, .inr (1, [.ref a1, w2, w3, w4, w5, w6, w7, w8, w9])), (a1, .inr (6, [w10, .int 0, w11, w12, w13, w14, w15, w16, w17, w18, w19, w20]))] (zQi (S := Unit) D (fun r_ _ => r_ = 0) (fun _ => [(a0, .inr (1, [.ref a1, w2, w3, w4, w5, w6, w7, w8, w9])), (a1, .inr (6, [w10, .int 0, w11, w12, w13, w14, w15, w16, w17, w18, w19, w20]))])) := by
  refine zent (cc := cX1_harmOfAll) (maxL := 5) (ret := (some .int)) (by decide) (Nat.le_of_ble_eq_true rfl) ?_
  intro p e s m below meth c A H locs ls hx hb hml hr ht hown hlocks hin hA hK hE hS hW hl
  have hown : s.vm.findClass RX1 = some m.cls := hown
  have hW : zPD D A [(a0, .inr (1, [.ref a1, w2, w3, w4, w5, w6, w7, w8, w9])), (a1, .inr (6, [w10, .int 0, w11, w12, w13, w14, w15, w16, w17, w18, w19, w20]))] H := hW
  have hl : lv_has ls 5 [(0, .ref a0), (1, .int 0), (2, .int 36)] := hl
  refine lv_iconst (v := 0) hx hb dX1_harmOfAll_0 (by decide) ?_
  refine lv_istore_n (lv' := [(3, .int 0), (0, .ref a0), (1, .int 0), (2, .int 36)]) hx hb dX1_harmOfAll_1 rfl hl (by decide) rfl (fun ls hl => ?_)
  refine lv_iconst (v := 0) hx hb dX1_harmOfAll_2 (by decide) ?_
  refine lv_istore (lv' := [(4, .int 0), (3, .int 0), (0, .ref a0), (1, .int 0), (2, .int 36)]) hx hb dX1_harmOfAll_3 hl (by decide) rfl (fun ls hl => ?_)
  refine lv_iload hx hb dX1_harmOfAll_5 (lv_at hl 0 rfl) ?_
  refine lv_aload_n hx hb dX1_harmOfAll_7 rfl (lv_at hl 2 rfl) ?_
  refine zget hx hb ht inlX1 hown hK hW 0 rfl rfl 0 (by decide) zm_119 rfl dX1_harmOfAll_8 ?_
  refine zget hx hb ht inlX7 hown hK hW 1 rfl rfl 1 (by decide) zm_284 rfl dX1_harmOfAll_11 ?_
  refine lv_icmp_ge (tgt := 34) hx hb dX1_harmOfAll_14 (by decide) (fun c1_ => ?_) (fun c1_ => absurd (by decide) c1_)
  refine lv_iload_n hx hb dX1_harmOfAll_34 rfl (lv_at hl 1 rfl) ?_
  exact zret_i (v := 0) hx hb hr hlocks hS () rfl hW (Nat.le_of_ble_eq_true rfl) (Nat.le_of_ble_eq_true rfl) dX1_harmOfAll_35
set_option maxHeartbeats 8000000 in
set_option maxRecDepth 100000 in
theorem zc_X1_cost_3 (l : Launch) (D : va_G) (y : Nat → ClassId) (a0 : Nat) (a1 : Nat) (w2 : Value) (w3 : Value) (w4 : Value) (w5 : Value) (w6 : Value) (w7 : Value) (w8 : Value) (w9 : Value) (w10 : Value) (w11 : Value) (w12 : Value) (w13 : Value) (w14 : Value) (a15 : Nat) (w16 : Value) (w17 : Value) (w18 : Value) (w19 : Value) (w20 : Value) (w21 : Value) (w22 : Value) (w23 : Value) (w24 : Value) (w25 : Value) : zM l D y yX1_cost (Cond.code yX1_cost cX1_cost 1 (some .int) :: zT) { frames := 1, cells := 0, slots := 0, locals := 24 } [.ref a0] [(a0, .inr (1, [.ref a1, w2, .int 21, w3, w4, w5, w6, w7, w8])), (a1, .inr (6, [w9, .int 0, w10, w11, .int 0, w12, w13, w14, .ref a15, w16, w17, w18])), (a15, .inr (2, [w19, .int 15, w20, w21, w22, w23, w24, w25]))] (zQi (S := Unit) D (fun r_ _ => r_ = 0) (fun _ => [(a0, .inr (1, [.ref a1, w2, .int 21, w3, w4, w5, w6, w7, w8])), (a1, .inr (6, [w9, .int 0, w10, w11, .int 0, w12, w13, w14, .ref a15, w16, w17, w18])), (a15, .inr (2, [w19, .int 15, w20, w21, w22, w23, w24, w25]))])) := by
  refine zent (cc := cX1_cost) (maxL := 1) (ret := (some .int)) (by decide) (Nat.le_of_ble_eq_true rfl) ?_
  intro p e s m below meth c A H locs ls hx hb hml hr ht hown hlocks hin hA hK hE hS hW hl
  have hown : s.vm.findClass RX1 = some m.cls := hown
  have hW : zPD D A [(a0, .inr (1, [.ref a1, w2, .int 21, w3, w4, w5, w6, w7, w8])), (a1, .inr (6, [w9, .int 0, w10, w11, .int 0, w12, w13, w14, .ref a15, w16, w17, w18])), (a15, .inr (2, [w19, .int 15, w20, w21, w22, w23, w24, w25]))] H := hW
  have hl : lv_has ls 1 [(0, .ref a0)] := hl
  refine lv_aload_n hx hb dX1_cost_0 rfl (lv_at hl 0 rfl) ?_
  refine lv_aload_n hx hb dX1_cost_1 rfl (lv_at hl 0 rfl) ?_
  refine zget hx hb ht inlX1 hown hK hW 0 rfl rfl 0 (by decide) zm_119 rfl dX1_cost_2 ?_
  refine zget hx hb ht inlX7 hown hK hW 1 rfl rfl 4 (by decide) zm_815 rfl dX1_cost_5 ?_
  refine lv_aload_n hx hb dX1_cost_8 rfl (lv_at hl 0 rfl) ?_
  refine zgo_i (wr := []) (zrunV (As := []) (rest := [.int 0, .ref a0]) ⟨hx, hb, hml, hown, ht⟩ (zc_X1_stormEnd_3 l D y a0 a1 w2 w3 w4 w5 w6 w7 w8 w9 (.int 0) w10 w11 (.int 0) w12 w13 w14 a15 w16 w17 w18 w19 w20 w21 w22 w23 w24 w25) (cwV 0 ht (zgV zm_337 zm_338 zm_339 zm_28 zm_340) rfl rfl rfl (by decide +kernel) ⟨(Nat.le_of_ble_eq_true rfl), (Nat.le_of_ble_eq_true rfl)⟩) hK hE hS hA hW [0, 1, 2] (by decide) rfl 0 rfl rfl rfl rfl hl.1 rfl (Nat.le_of_ble_eq_true rfl) dX1_cost_9 (Nat.le_of_ble_eq_true rfl) (Nat.le_of_ble_eq_true rfl)) hS hA hW [0, 1, 2] [] rfl rfl (by decide) (by decide) (fun r1_ u H locs hw hW hS => ?_)
  have hW : zPD D A [(a0, .inr (1, [.ref a1, w2, .int 21, w3, w4, w5, w6, w7, w8])), (a1, .inr (6, [w9, .int 0, w10, w11, .int 0, w12, w13, w14, .ref a15, w16, w17, w18])), (a15, .inr (2, [w19, .int 15, w20, w21, w22, w23, w24, w25]))] H := hW
  have hw : r1_ = 36 := hw
  subst hw
  refine zgo_i (wr := [(a15, .inr (2, [w19, .int 15, w20, w21, w22, w23, w24, w25]))]) (zrunV (As := [.int 0, .int 36]) (rest := []) ⟨hx, hb, hml, hown, ht⟩ (zc_X1_harmOfAll_3 l D y a0 a1 w2 (.int 21) w3 w4 w5 w6 w7 w8 w9 w10 w11 (.int 0) w12 w13 w14 (.ref a15) w16 w17 w18) (cwV 2 ht (zgV zm_831 zm_733 zm_734 zm_28 zm_735) rfl rfl rfl (by decide +kernel) ⟨(Nat.le_of_ble_eq_true rfl), (Nat.le_of_ble_eq_true rfl)⟩) hK hE hS hA hW [0, 1] (by decide) rfl 0 rfl rfl rfl rfl hl.1 rfl (Nat.le_of_ble_eq_true rfl) dX1_cost_12 (Nat.le_of_ble_eq_true rfl) (Nat.le_of_ble_eq_true rfl)) hS hA hW [0, 1] [2] rfl rfl (by decide) (by decide) (fun r2_ u H locs hw hW hS => ?_)
  have hW : zPD D A [(a15, .inr (2, [w19, .int 15, w20, w21, w22, w23, w24, w25])), (a0, .inr (1, [.ref a1, w2, .int 21, w3, w4, w5, w6, w7, w8])), (a1, .inr (6, [w9, .int 0, w10, w11, .int 0, w12, w13, w14, .ref a15, w16, w17, w18]))] H := hW
  have hw : r2_ = 0 := hw
  subst hw
  exact zret_i (v := 0) hx hb hr hlocks hS () rfl (hW.sub [1, 2, 0] (by decide) rfl) (Nat.le_of_ble_eq_true rfl) (Nat.le_of_ble_eq_true rfl) dX1_cost_15
set_option maxHeartbeats 8000000 in
set_option maxRecDepth 100000 in
theorem zc_X1_stormEnd_4 (l : Launch) (D : va_G) (y : Nat → ClassId) (a0 : Nat) (a1 : Nat) (w2 : Value) (w3 : Value) (w4 : Value) (w5 : Value) (w6 : Value) (w7 : Value) (w8 : Value) (w9 : Value) (w10 : Value) (w11 : Value) (w12 : Value) (w13 : Value) (w14 : Value) (w15 : Value) (w16 : Value) (a17 : Nat) (w18 : Value) (w19 : Value) (w20 : Value) (w21 : Value) (w22 : Value) (w23 : Value) (w24 : Value) (w25 : Value) (w26 : Value) (w27 : Value) : zM l D y yX1_stormEnd (Cond.code yX1_stormEnd cX1_stormEnd 1 (some .int) :: zT) { frames := 0, cells := 0, slots := 0, locals := 0 } [.ref a0] [(a0, .inr (1, [.ref a1, w2, .int 22, w3, w4, w5, w6, w7, w8])), (a1, .inr (6, [w9, w10, w11, w12, w13, w14, w15, w16, .ref a17, w18, w19, w20])), (a17, .inr (2, [w21, .int 15, w22, w23, w24, w25, w26, w27]))] (zQi (S := Unit) D (fun r_ _ => r_ = 37) (fun _ => [(a0, .inr (1, [.ref a1, w2, .int 22, w3, w4, w5, w6, w7, w8])), (a1, .inr (6, [w9, w10, w11, w12, w13, w14, w15, w16, .ref a17, w18, w19, w20])), (a17, .inr (2, [w21, .int 15, w22, w23, w24, w25, w26, w27]))])) := by
  refine zent (cc := cX1_stormEnd) (maxL := 1) (ret := (some .int)) (by decide) (Nat.le_of_ble_eq_true rfl) ?_
  intro p e s m below meth c A H locs ls hx hb hml hr ht hown hlocks hin hA hK hE hS hW hl
  have hown : s.vm.findClass RX1 = some m.cls := hown
  have hW : zPD D A [(a0, .inr (1, [.ref a1, w2, .int 22, w3, w4, w5, w6, w7, w8])), (a1, .inr (6, [w9, w10, w11, w12, w13, w14, w15, w16, .ref a17, w18, w19, w20])), (a17, .inr (2, [w21, .int 15, w22, w23, w24, w25, w26, w27]))] H := hW
  have hl : lv_has ls 1 [(0, .ref a0)] := hl
  refine lv_aload_n hx hb dX1_stormEnd_0 rfl (lv_at hl 0 rfl) ?_
  refine zget hx hb ht inlX1 hown hK hW 0 rfl rfl 2 (by decide) zm_110 rfl dX1_stormEnd_1 ?_
  refine lv_aload_n hx hb dX1_stormEnd_4 rfl (lv_at hl 0 rfl) ?_
  refine zget hx hb ht inlX1 hown hK hW 0 rfl rfl 0 (by decide) zm_119 rfl dX1_stormEnd_5 ?_
  refine zget hx hb ht inlX7 hown hK hW 1 rfl rfl 8 (by decide) zm_290 rfl dX1_stormEnd_8 ?_
  refine zget hx hb ht inlX2 hown hK hW 2 rfl rfl 1 (by decide) zm_291 rfl dX1_stormEnd_11 ?_
  refine lv_iadd hx hb dX1_stormEnd_14 ?_
  refine ztop (w := .int 37) (congrArg Value.int (by decide)) ?_
  exact zret_i (v := 37) hx hb hr hlocks hS () rfl hW (Nat.le_of_ble_eq_true rfl) (Nat.le_of_ble_eq_true rfl) dX1_stormEnd_15
set_option maxHeartbeats 8000000 in
set_option maxRecDepth 100000 in
theorem zc_X1_harmOfAll_4 (l : Launch) (D : va_G) (y : Nat → ClassId) (a0 : Nat) (a1 : Nat) (w2 : Value) (w3 : Value) (w4 : Value) (w5 : Value) (w6 : Value) (w7 : Value) (w8 : Value) (w9 : Value) (w10 : Value) (w11 : Value) (w12 : Value) (w13 : Value) (w14 : Value) (w15 : Value) (w16 : Value) (w17 : Value) (w18 : Value) (w19 : Value) (w20 : Value) : zM l D y yX1_harmOfAll (Cond.code yX1_harmOfAll cX1_harmOfAll 5 (some .int) :: zT) { frames := 0, cells := 0, slots := 0, locals := 0 } [.ref a0, .int 0, .int 37] [(a0, .inr (1, [.ref a1, w2, w3, w4, w5, w6, w7, w8, w9])), (a1, .inr (6, [w10, .int 0, w11, w12, w13, w14, w15, w16, w17, w18, w19, w20]))] (zQi (S := Unit) D (fun r_ _ => r_ = 0) (fun _ => [(a0, .inr (1, [.ref a1, w2, w3, w4, w5, w6, w7, w8, w9])), (a1, .inr (6, [w10, .int 0, w11, w12, w13, w14, w15, w16, w17, w18, w19, w20]))])) := by
  refine zent (cc := cX1_harmOfAll) (maxL := 5) (ret := (some .int)) (by decide) (Nat.le_of_ble_eq_true rfl) ?_
  intro p e s m below meth c A H locs ls hx hb hml hr ht hown hlocks hin hA hK hE hS hW hl
  have hown : s.vm.findClass RX1 = some m.cls := hown
  have hW : zPD D A [(a0, .inr (1, [.ref a1, w2, w3, w4, w5, w6, w7, w8, w9])), (a1, .inr (6, [w10, .int 0, w11, w12, w13, w14, w15, w16, w17, w18, w19, w20]))] H := hW
  have hl : lv_has ls 5 [(0, .ref a0), (1, .int 0), (2, .int 37)] := hl
  refine lv_iconst (v := 0) hx hb dX1_harmOfAll_0 (by decide) ?_
  refine lv_istore_n (lv' := [(3, .int 0), (0, .ref a0), (1, .int 0), (2, .int 37)]) hx hb dX1_harmOfAll_1 rfl hl (by decide) rfl (fun ls hl => ?_)
  refine lv_iconst (v := 0) hx hb dX1_harmOfAll_2 (by decide) ?_
  refine lv_istore (lv' := [(4, .int 0), (3, .int 0), (0, .ref a0), (1, .int 0), (2, .int 37)]) hx hb dX1_harmOfAll_3 hl (by decide) rfl (fun ls hl => ?_)
  refine lv_iload hx hb dX1_harmOfAll_5 (lv_at hl 0 rfl) ?_
  refine lv_aload_n hx hb dX1_harmOfAll_7 rfl (lv_at hl 2 rfl) ?_
  refine zget hx hb ht inlX1 hown hK hW 0 rfl rfl 0 (by decide) zm_119 rfl dX1_harmOfAll_8 ?_
  refine zget hx hb ht inlX7 hown hK hW 1 rfl rfl 1 (by decide) zm_284 rfl dX1_harmOfAll_11 ?_
  refine lv_icmp_ge (tgt := 34) hx hb dX1_harmOfAll_14 (by decide) (fun c1_ => ?_) (fun c1_ => absurd (by decide) c1_)
  refine lv_iload_n hx hb dX1_harmOfAll_34 rfl (lv_at hl 1 rfl) ?_
  exact zret_i (v := 0) hx hb hr hlocks hS () rfl hW (Nat.le_of_ble_eq_true rfl) (Nat.le_of_ble_eq_true rfl) dX1_harmOfAll_35
set_option maxHeartbeats 8000000 in
set_option maxRecDepth 100000 in
theorem zc_X1_cost_4 (l : Launch) (D : va_G) (y : Nat → ClassId) (a0 : Nat) (a1 : Nat) (w2 : Value) (w3 : Value) (w4 : Value) (w5 : Value) (w6 : Value) (w7 : Value) (w8 : Value) (w9 : Value) (w10 : Value) (w11 : Value) (w12 : Value) (w13 : Value) (w14 : Value) (a15 : Nat) (w16 : Value) (w17 : Value) (w18 : Value) (w19 : Value) (w20 : Value) (w21 : Value) (w22 : Value) (w23 : Value) (w24 : Value) (w25 : Value) : zM l D y yX1_cost (Cond.code yX1_cost cX1_cost 1 (some .int) :: zT) { frames := 1, cells := 0, slots := 0, locals := 24 } [.ref a0] [(a0, .inr (1, [.ref a1, w2, .int 22, w3, w4, w5, w6, w7, w8])), (a1, .inr (6, [w9, .int 0, w10, w11, .int 0, w12, w13, w14, .ref a15, w16, w17, w18])), (a15, .inr (2, [w19, .int 15, w20, w21, w22, w23, w24, w25]))] (zQi (S := Unit) D (fun r_ _ => r_ = 0) (fun _ => [(a0, .inr (1, [.ref a1, w2, .int 22, w3, w4, w5, w6, w7, w8])), (a1, .inr (6, [w9, .int 0, w10, w11, .int 0, w12, w13, w14, .ref a15, w16, w17, w18])), (a15, .inr (2, [w19, .int 15, w20, w21, w22, w23, w24, w25]))])) := by
  refine zent (cc := cX1_cost) (maxL := 1) (ret := (some .int)) (by decide) (Nat.le_of_ble_eq_true rfl) ?_
  intro p e s m below meth c A H locs ls hx hb hml hr ht hown hlocks hin hA hK hE hS hW hl
  have hown : s.vm.findClass RX1 = some m.cls := hown
  have hW : zPD D A [(a0, .inr (1, [.ref a1, w2, .int 22, w3, w4, w5, w6, w7, w8])), (a1, .inr (6, [w9, .int 0, w10, w11, .int 0, w12, w13, w14, .ref a15, w16, w17, w18])), (a15, .inr (2, [w19, .int 15, w20, w21, w22, w23, w24, w25]))] H := hW
  have hl : lv_has ls 1 [(0, .ref a0)] := hl
  refine lv_aload_n hx hb dX1_cost_0 rfl (lv_at hl 0 rfl) ?_
  refine lv_aload_n hx hb dX1_cost_1 rfl (lv_at hl 0 rfl) ?_
  refine zget hx hb ht inlX1 hown hK hW 0 rfl rfl 0 (by decide) zm_119 rfl dX1_cost_2 ?_
  refine zget hx hb ht inlX7 hown hK hW 1 rfl rfl 4 (by decide) zm_815 rfl dX1_cost_5 ?_
  refine lv_aload_n hx hb dX1_cost_8 rfl (lv_at hl 0 rfl) ?_
  refine zgo_i (wr := []) (zrunV (As := []) (rest := [.int 0, .ref a0]) ⟨hx, hb, hml, hown, ht⟩ (zc_X1_stormEnd_4 l D y a0 a1 w2 w3 w4 w5 w6 w7 w8 w9 (.int 0) w10 w11 (.int 0) w12 w13 w14 a15 w16 w17 w18 w19 w20 w21 w22 w23 w24 w25) (cwV 0 ht (zgV zm_337 zm_338 zm_339 zm_28 zm_340) rfl rfl rfl (by decide +kernel) ⟨(Nat.le_of_ble_eq_true rfl), (Nat.le_of_ble_eq_true rfl)⟩) hK hE hS hA hW [0, 1, 2] (by decide) rfl 0 rfl rfl rfl rfl hl.1 rfl (Nat.le_of_ble_eq_true rfl) dX1_cost_9 (Nat.le_of_ble_eq_true rfl) (Nat.le_of_ble_eq_true rfl)) hS hA hW [0, 1, 2] [] rfl rfl (by decide) (by decide) (fun r1_ u H locs hw hW hS => ?_)
  have hW : zPD D A [(a0, .inr (1, [.ref a1, w2, .int 22, w3, w4, w5, w6, w7, w8])), (a1, .inr (6, [w9, .int 0, w10, w11, .int 0, w12, w13, w14, .ref a15, w16, w17, w18])), (a15, .inr (2, [w19, .int 15, w20, w21, w22, w23, w24, w25]))] H := hW
  have hw : r1_ = 37 := hw
  subst hw
  refine zgo_i (wr := [(a15, .inr (2, [w19, .int 15, w20, w21, w22, w23, w24, w25]))]) (zrunV (As := [.int 0, .int 37]) (rest := []) ⟨hx, hb, hml, hown, ht⟩ (zc_X1_harmOfAll_4 l D y a0 a1 w2 (.int 22) w3 w4 w5 w6 w7 w8 w9 w10 w11 (.int 0) w12 w13 w14 (.ref a15) w16 w17 w18) (cwV 2 ht (zgV zm_831 zm_733 zm_734 zm_28 zm_735) rfl rfl rfl (by decide +kernel) ⟨(Nat.le_of_ble_eq_true rfl), (Nat.le_of_ble_eq_true rfl)⟩) hK hE hS hA hW [0, 1] (by decide) rfl 0 rfl rfl rfl rfl hl.1 rfl (Nat.le_of_ble_eq_true rfl) dX1_cost_12 (Nat.le_of_ble_eq_true rfl) (Nat.le_of_ble_eq_true rfl)) hS hA hW [0, 1] [2] rfl rfl (by decide) (by decide) (fun r2_ u H locs hw hW hS => ?_)
  have hW : zPD D A [(a15, .inr (2, [w19, .int 15, w20, w21, w22, w23, w24, w25])), (a0, .inr (1, [.ref a1, w2, .int 22, w3, w4, w5, w6, w7, w8])), (a1, .inr (6, [w9, .int 0, w10, w11, .int 0, w12, w13, w14, .ref a15, w16, w17, w18]))] H := hW
  have hw : r2_ = 0 := hw
  subst hw
  exact zret_i (v := 0) hx hb hr hlocks hS () rfl (hW.sub [1, 2, 0] (by decide) rfl) (Nat.le_of_ble_eq_true rfl) (Nat.le_of_ble_eq_true rfl) dX1_cost_15
set_option maxHeartbeats 8000000 in
set_option maxRecDepth 100000 in
theorem zc_X1_stormEnd_5 (l : Launch) (D : va_G) (y : Nat → ClassId) (a0 : Nat) (a1 : Nat) (w2 : Value) (w3 : Value) (w4 : Value) (w5 : Value) (w6 : Value) (w7 : Value) (w8 : Value) (w9 : Value) (w10 : Value) (w11 : Value) (w12 : Value) (w13 : Value) (w14 : Value) (w15 : Value) (w16 : Value) (a17 : Nat) (w18 : Value) (w19 : Value) (w20 : Value) (w21 : Value) (w22 : Value) (w23 : Value) (w24 : Value) (w25 : Value) (w26 : Value) (w27 : Value) : zM l D y yX1_stormEnd (Cond.code yX1_stormEnd cX1_stormEnd 1 (some .int) :: zT) { frames := 0, cells := 0, slots := 0, locals := 0 } [.ref a0] [(a0, .inr (1, [.ref a1, w2, .int 23, w3, w4, w5, w6, w7, w8])), (a1, .inr (6, [w9, w10, w11, w12, w13, w14, w15, w16, .ref a17, w18, w19, w20])), (a17, .inr (2, [w21, .int 15, w22, w23, w24, w25, w26, w27]))] (zQi (S := Unit) D (fun r_ _ => r_ = 38) (fun _ => [(a0, .inr (1, [.ref a1, w2, .int 23, w3, w4, w5, w6, w7, w8])), (a1, .inr (6, [w9, w10, w11, w12, w13, w14, w15, w16, .ref a17, w18, w19, w20])), (a17, .inr (2, [w21, .int 15, w22, w23, w24, w25, w26, w27]))])) := by
  refine zent (cc := cX1_stormEnd) (maxL := 1) (ret := (some .int)) (by decide) (Nat.le_of_ble_eq_true rfl) ?_
  intro p e s m below meth c A H locs ls hx hb hml hr ht hown hlocks hin hA hK hE hS hW hl
  have hown : s.vm.findClass RX1 = some m.cls := hown
  have hW : zPD D A [(a0, .inr (1, [.ref a1, w2, .int 23, w3, w4, w5, w6, w7, w8])), (a1, .inr (6, [w9, w10, w11, w12, w13, w14, w15, w16, .ref a17, w18, w19, w20])), (a17, .inr (2, [w21, .int 15, w22, w23, w24, w25, w26, w27]))] H := hW
  have hl : lv_has ls 1 [(0, .ref a0)] := hl
  refine lv_aload_n hx hb dX1_stormEnd_0 rfl (lv_at hl 0 rfl) ?_
  refine zget hx hb ht inlX1 hown hK hW 0 rfl rfl 2 (by decide) zm_110 rfl dX1_stormEnd_1 ?_
  refine lv_aload_n hx hb dX1_stormEnd_4 rfl (lv_at hl 0 rfl) ?_
  refine zget hx hb ht inlX1 hown hK hW 0 rfl rfl 0 (by decide) zm_119 rfl dX1_stormEnd_5 ?_
  refine zget hx hb ht inlX7 hown hK hW 1 rfl rfl 8 (by decide) zm_290 rfl dX1_stormEnd_8 ?_
  refine zget hx hb ht inlX2 hown hK hW 2 rfl rfl 1 (by decide) zm_291 rfl dX1_stormEnd_11 ?_
  refine lv_iadd hx hb dX1_stormEnd_14 ?_
  refine ztop (w := .int 38) (congrArg Value.int (by decide)) ?_
  exact zret_i (v := 38) hx hb hr hlocks hS () rfl hW (Nat.le_of_ble_eq_true rfl) (Nat.le_of_ble_eq_true rfl) dX1_stormEnd_15
set_option maxHeartbeats 8000000 in
set_option maxRecDepth 100000 in
theorem zc_X1_harmOfAll_5 (l : Launch) (D : va_G) (y : Nat → ClassId) (a0 : Nat) (a1 : Nat) (w2 : Value) (w3 : Value) (w4 : Value) (w5 : Value) (w6 : Value) (w7 : Value) (w8 : Value) (w9 : Value) (w10 : Value) (w11 : Value) (w12 : Value) (w13 : Value) (w14 : Value) (w15 : Value) (w16 : Value) (w17 : Value) (w18 : Value) (w19 : Value) (w20 : Value) : zM l D y yX1_harmOfAll (Cond.code yX1_harmOfAll cX1_harmOfAll 5 (some .int) :: zT) { frames := 0, cells := 0, slots := 0, locals := 0 } [.ref a0, .int 0, .int 38] [(a0, .inr (1, [.ref a1, w2, w3, w4, w5, w6, w7, w8, w9])), (a1, .inr (6, [w10, .int 0, w11, w12, w13, w14, w15, w16, w17, w18, w19, w20]))] (zQi (S := Unit) D (fun r_ _ => r_ = 0) (fun _ => [(a0, .inr (1, [.ref a1, w2, w3, w4, w5, w6, w7, w8, w9])), (a1, .inr (6, [w10, .int 0, w11, w12, w13, w14, w15, w16, w17, w18, w19, w20]))])) := by
  refine zent (cc := cX1_harmOfAll) (maxL := 5) (ret := (some .int)) (by decide) (Nat.le_of_ble_eq_true rfl) ?_
  intro p e s m below meth c A H locs ls hx hb hml hr ht hown hlocks hin hA hK hE hS hW hl
  have hown : s.vm.findClass RX1 = some m.cls := hown
  have hW : zPD D A [(a0, .inr (1, [.ref a1, w2, w3, w4, w5, w6, w7, w8, w9])), (a1, .inr (6, [w10, .int 0, w11, w12, w13, w14, w15, w16, w17, w18, w19, w20]))] H := hW
  have hl : lv_has ls 5 [(0, .ref a0), (1, .int 0), (2, .int 38)] := hl
  refine lv_iconst (v := 0) hx hb dX1_harmOfAll_0 (by decide) ?_
  refine lv_istore_n (lv' := [(3, .int 0), (0, .ref a0), (1, .int 0), (2, .int 38)]) hx hb dX1_harmOfAll_1 rfl hl (by decide) rfl (fun ls hl => ?_)
  refine lv_iconst (v := 0) hx hb dX1_harmOfAll_2 (by decide) ?_
  refine lv_istore (lv' := [(4, .int 0), (3, .int 0), (0, .ref a0), (1, .int 0), (2, .int 38)]) hx hb dX1_harmOfAll_3 hl (by decide) rfl (fun ls hl => ?_)
  refine lv_iload hx hb dX1_harmOfAll_5 (lv_at hl 0 rfl) ?_
  refine lv_aload_n hx hb dX1_harmOfAll_7 rfl (lv_at hl 2 rfl) ?_
  refine zget hx hb ht inlX1 hown hK hW 0 rfl rfl 0 (by decide) zm_119 rfl dX1_harmOfAll_8 ?_
  refine zget hx hb ht inlX7 hown hK hW 1 rfl rfl 1 (by decide) zm_284 rfl dX1_harmOfAll_11 ?_
  refine lv_icmp_ge (tgt := 34) hx hb dX1_harmOfAll_14 (by decide) (fun c1_ => ?_) (fun c1_ => absurd (by decide) c1_)
  refine lv_iload_n hx hb dX1_harmOfAll_34 rfl (lv_at hl 1 rfl) ?_
  exact zret_i (v := 0) hx hb hr hlocks hS () rfl hW (Nat.le_of_ble_eq_true rfl) (Nat.le_of_ble_eq_true rfl) dX1_harmOfAll_35
set_option maxHeartbeats 8000000 in
set_option maxRecDepth 100000 in
theorem zc_X1_cost_5 (l : Launch) (D : va_G) (y : Nat → ClassId) (a0 : Nat) (a1 : Nat) (w2 : Value) (w3 : Value) (w4 : Value) (w5 : Value) (w6 : Value) (w7 : Value) (w8 : Value) (w9 : Value) (w10 : Value) (w11 : Value) (w12 : Value) (w13 : Value) (w14 : Value) (a15 : Nat) (w16 : Value) (w17 : Value) (w18 : Value) (w19 : Value) (w20 : Value) (w21 : Value) (w22 : Value) (w23 : Value) (w24 : Value) (w25 : Value) : zM l D y yX1_cost (Cond.code yX1_cost cX1_cost 1 (some .int) :: zT) { frames := 1, cells := 0, slots := 0, locals := 24 } [.ref a0] [(a0, .inr (1, [.ref a1, w2, .int 23, w3, w4, w5, w6, w7, w8])), (a1, .inr (6, [w9, .int 0, w10, w11, .int 0, w12, w13, w14, .ref a15, w16, w17, w18])), (a15, .inr (2, [w19, .int 15, w20, w21, w22, w23, w24, w25]))] (zQi (S := Unit) D (fun r_ _ => r_ = 0) (fun _ => [(a0, .inr (1, [.ref a1, w2, .int 23, w3, w4, w5, w6, w7, w8])), (a1, .inr (6, [w9, .int 0, w10, w11, .int 0, w12, w13, w14, .ref a15, w16, w17, w18])), (a15, .inr (2, [w19, .int 15, w20, w21, w22, w23, w24, w25]))])) := by
  refine zent (cc := cX1_cost) (maxL := 1) (ret := (some .int)) (by decide) (Nat.le_of_ble_eq_true rfl) ?_
  intro p e s m below meth c A H locs ls hx hb hml hr ht hown hlocks hin hA hK hE hS hW hl
  have hown : s.vm.findClass RX1 = some m.cls := hown
  have hW : zPD D A [(a0, .inr (1, [.ref a1, w2, .int 23, w3, w4, w5, w6, w7, w8])), (a1, .inr (6, [w9, .int 0, w10, w11, .int 0, w12, w13, w14, .ref a15, w16, w17, w18])), (a15, .inr (2, [w19, .int 15, w20, w21, w22, w23, w24, w25]))] H := hW
  have hl : lv_has ls 1 [(0, .ref a0)] := hl
  refine lv_aload_n hx hb dX1_cost_0 rfl (lv_at hl 0 rfl) ?_
  refine lv_aload_n hx hb dX1_cost_1 rfl (lv_at hl 0 rfl) ?_
  refine zget hx hb ht inlX1 hown hK hW 0 rfl rfl 0 (by decide) zm_119 rfl dX1_cost_2 ?_
  refine zget hx hb ht inlX7 hown hK hW 1 rfl rfl 4 (by decide) zm_815 rfl dX1_cost_5 ?_
  refine lv_aload_n hx hb dX1_cost_8 rfl (lv_at hl 0 rfl) ?_
  refine zgo_i (wr := []) (zrunV (As := []) (rest := [.int 0, .ref a0]) ⟨hx, hb, hml, hown, ht⟩ (zc_X1_stormEnd_5 l D y a0 a1 w2 w3 w4 w5 w6 w7 w8 w9 (.int 0) w10 w11 (.int 0) w12 w13 w14 a15 w16 w17 w18 w19 w20 w21 w22 w23 w24 w25) (cwV 0 ht (zgV zm_337 zm_338 zm_339 zm_28 zm_340) rfl rfl rfl (by decide +kernel) ⟨(Nat.le_of_ble_eq_true rfl), (Nat.le_of_ble_eq_true rfl)⟩) hK hE hS hA hW [0, 1, 2] (by decide) rfl 0 rfl rfl rfl rfl hl.1 rfl (Nat.le_of_ble_eq_true rfl) dX1_cost_9 (Nat.le_of_ble_eq_true rfl) (Nat.le_of_ble_eq_true rfl)) hS hA hW [0, 1, 2] [] rfl rfl (by decide) (by decide) (fun r1_ u H locs hw hW hS => ?_)
  have hW : zPD D A [(a0, .inr (1, [.ref a1, w2, .int 23, w3, w4, w5, w6, w7, w8])), (a1, .inr (6, [w9, .int 0, w10, w11, .int 0, w12, w13, w14, .ref a15, w16, w17, w18])), (a15, .inr (2, [w19, .int 15, w20, w21, w22, w23, w24, w25]))] H := hW
  have hw : r1_ = 38 := hw
  subst hw
  refine zgo_i (wr := [(a15, .inr (2, [w19, .int 15, w20, w21, w22, w23, w24, w25]))]) (zrunV (As := [.int 0, .int 38]) (rest := []) ⟨hx, hb, hml, hown, ht⟩ (zc_X1_harmOfAll_5 l D y a0 a1 w2 (.int 23) w3 w4 w5 w6 w7 w8 w9 w10 w11 (.int 0) w12 w13 w14 (.ref a15) w16 w17 w18) (cwV 2 ht (zgV zm_831 zm_733 zm_734 zm_28 zm_735) rfl rfl rfl (by decide +kernel) ⟨(Nat.le_of_ble_eq_true rfl), (Nat.le_of_ble_eq_true rfl)⟩) hK hE hS hA hW [0, 1] (by decide) rfl 0 rfl rfl rfl rfl hl.1 rfl (Nat.le_of_ble_eq_true rfl) dX1_cost_12 (Nat.le_of_ble_eq_true rfl) (Nat.le_of_ble_eq_true rfl)) hS hA hW [0, 1] [2] rfl rfl (by decide) (by decide) (fun r2_ u H locs hw hW hS => ?_)
  have hW : zPD D A [(a15, .inr (2, [w19, .int 15, w20, w21, w22, w23, w24, w25])), (a0, .inr (1, [.ref a1, w2, .int 23, w3, w4, w5, w6, w7, w8])), (a1, .inr (6, [w9, .int 0, w10, w11, .int 0, w12, w13, w14, .ref a15, w16, w17, w18]))] H := hW
  have hw : r2_ = 0 := hw
  subst hw
  exact zret_i (v := 0) hx hb hr hlocks hS () rfl (hW.sub [1, 2, 0] (by decide) rfl) (Nat.le_of_ble_eq_true rfl) (Nat.le_of_ble_eq_true rfl) dX1_cost_15
set_option maxHeartbeats 8000000 in
set_option maxRecDepth 100000 in
theorem zc_X1_stormEnd_6 (l : Launch) (D : va_G) (y : Nat → ClassId) (a0 : Nat) (a1 : Nat) (w2 : Value) (w3 : Value) (w4 : Value) (w5 : Value) (w6 : Value) (w7 : Value) (w8 : Value) (w9 : Value) (w10 : Value) (w11 : Value) (w12 : Value) (w13 : Value) (w14 : Value) (w15 : Value) (w16 : Value) (a17 : Nat) (w18 : Value) (w19 : Value) (w20 : Value) (w21 : Value) (w22 : Value) (w23 : Value) (w24 : Value) (w25 : Value) (w26 : Value) (w27 : Value) : zM l D y yX1_stormEnd (Cond.code yX1_stormEnd cX1_stormEnd 1 (some .int) :: zT) { frames := 0, cells := 0, slots := 0, locals := 0 } [.ref a0] [(a0, .inr (1, [.ref a1, w2, .int 24, w3, w4, w5, w6, w7, w8])), (a1, .inr (6, [w9, w10, w11, w12, w13, w14, w15, w16, .ref a17, w18, w19, w20])), (a17, .inr (2, [w21, .int 15, w22, w23, w24, w25, w26, w27]))] (zQi (S := Unit) D (fun r_ _ => r_ = 39) (fun _ => [(a0, .inr (1, [.ref a1, w2, .int 24, w3, w4, w5, w6, w7, w8])), (a1, .inr (6, [w9, w10, w11, w12, w13, w14, w15, w16, .ref a17, w18, w19, w20])), (a17, .inr (2, [w21, .int 15, w22, w23, w24, w25, w26, w27]))])) := by
  refine zent (cc := cX1_stormEnd) (maxL := 1) (ret := (some .int)) (by decide) (Nat.le_of_ble_eq_true rfl) ?_
  intro p e s m below meth c A H locs ls hx hb hml hr ht hown hlocks hin hA hK hE hS hW hl
  have hown : s.vm.findClass RX1 = some m.cls := hown
  have hW : zPD D A [(a0, .inr (1, [.ref a1, w2, .int 24, w3, w4, w5, w6, w7, w8])), (a1, .inr (6, [w9, w10, w11, w12, w13, w14, w15, w16, .ref a17, w18, w19, w20])), (a17, .inr (2, [w21, .int 15, w22, w23, w24, w25, w26, w27]))] H := hW
  have hl : lv_has ls 1 [(0, .ref a0)] := hl
  refine lv_aload_n hx hb dX1_stormEnd_0 rfl (lv_at hl 0 rfl) ?_
  refine zget hx hb ht inlX1 hown hK hW 0 rfl rfl 2 (by decide) zm_110 rfl dX1_stormEnd_1 ?_
  refine lv_aload_n hx hb dX1_stormEnd_4 rfl (lv_at hl 0 rfl) ?_
  refine zget hx hb ht inlX1 hown hK hW 0 rfl rfl 0 (by decide) zm_119 rfl dX1_stormEnd_5 ?_
  refine zget hx hb ht inlX7 hown hK hW 1 rfl rfl 8 (by decide) zm_290 rfl dX1_stormEnd_8 ?_
  refine zget hx hb ht inlX2 hown hK hW 2 rfl rfl 1 (by decide) zm_291 rfl dX1_stormEnd_11 ?_
  refine lv_iadd hx hb dX1_stormEnd_14 ?_
  refine ztop (w := .int 39) (congrArg Value.int (by decide)) ?_
  exact zret_i (v := 39) hx hb hr hlocks hS () rfl hW (Nat.le_of_ble_eq_true rfl) (Nat.le_of_ble_eq_true rfl) dX1_stormEnd_15
set_option maxHeartbeats 8000000 in
set_option maxRecDepth 100000 in
theorem zc_X1_harmOfAll_6 (l : Launch) (D : va_G) (y : Nat → ClassId) (a0 : Nat) (a1 : Nat) (w2 : Value) (w3 : Value) (w4 : Value) (w5 : Value) (w6 : Value) (w7 : Value) (w8 : Value) (w9 : Value) (w10 : Value) (w11 : Value) (w12 : Value) (w13 : Value) (w14 : Value) (w15 : Value) (w16 : Value) (w17 : Value) (w18 : Value) (w19 : Value) (w20 : Value) : zM l D y yX1_harmOfAll (Cond.code yX1_harmOfAll cX1_harmOfAll 5 (some .int) :: zT) { frames := 0, cells := 0, slots := 0, locals := 0 } [.ref a0, .int 0, .int 39] [(a0, .inr (1, [.ref a1, w2, w3, w4, w5, w6, w7, w8, w9])), (a1, .inr (6, [w10, .int 0, w11, w12, w13, w14, w15, w16, w17, w18, w19, w20]))] (zQi (S := Unit) D (fun r_ _ => r_ = 0) (fun _ => [(a0, .inr (1, [.ref a1, w2, w3, w4, w5, w6, w7, w8, w9])), (a1, .inr (6, [w10, .int 0, w11, w12, w13, w14, w15, w16, w17, w18, w19, w20]))])) := by
  refine zent (cc := cX1_harmOfAll) (maxL := 5) (ret := (some .int)) (by decide) (Nat.le_of_ble_eq_true rfl) ?_
  intro p e s m below meth c A H locs ls hx hb hml hr ht hown hlocks hin hA hK hE hS hW hl
  have hown : s.vm.findClass RX1 = some m.cls := hown
  have hW : zPD D A [(a0, .inr (1, [.ref a1, w2, w3, w4, w5, w6, w7, w8, w9])), (a1, .inr (6, [w10, .int 0, w11, w12, w13, w14, w15, w16, w17, w18, w19, w20]))] H := hW
  have hl : lv_has ls 5 [(0, .ref a0), (1, .int 0), (2, .int 39)] := hl
  refine lv_iconst (v := 0) hx hb dX1_harmOfAll_0 (by decide) ?_
  refine lv_istore_n (lv' := [(3, .int 0), (0, .ref a0), (1, .int 0), (2, .int 39)]) hx hb dX1_harmOfAll_1 rfl hl (by decide) rfl (fun ls hl => ?_)
  refine lv_iconst (v := 0) hx hb dX1_harmOfAll_2 (by decide) ?_
  refine lv_istore (lv' := [(4, .int 0), (3, .int 0), (0, .ref a0), (1, .int 0), (2, .int 39)]) hx hb dX1_harmOfAll_3 hl (by decide) rfl (fun ls hl => ?_)
  refine lv_iload hx hb dX1_harmOfAll_5 (lv_at hl 0 rfl) ?_
  refine lv_aload_n hx hb dX1_harmOfAll_7 rfl (lv_at hl 2 rfl) ?_
  refine zget hx hb ht inlX1 hown hK hW 0 rfl rfl 0 (by decide) zm_119 rfl dX1_harmOfAll_8 ?_
  refine zget hx hb ht inlX7 hown hK hW 1 rfl rfl 1 (by decide) zm_284 rfl dX1_harmOfAll_11 ?_
  refine lv_icmp_ge (tgt := 34) hx hb dX1_harmOfAll_14 (by decide) (fun c1_ => ?_) (fun c1_ => absurd (by decide) c1_)
  refine lv_iload_n hx hb dX1_harmOfAll_34 rfl (lv_at hl 1 rfl) ?_
  exact zret_i (v := 0) hx hb hr hlocks hS () rfl hW (Nat.le_of_ble_eq_true rfl) (Nat.le_of_ble_eq_true rfl) dX1_harmOfAll_35
set_option maxHeartbeats 8000000 in
set_option maxRecDepth 100000 in
theorem zc_X1_cost_6 (l : Launch) (D : va_G) (y : Nat → ClassId) (a0 : Nat) (a1 : Nat) (w2 : Value) (w3 : Value) (w4 : Value) (w5 : Value) (w6 : Value) (w7 : Value) (w8 : Value) (w9 : Value) (w10 : Value) (w11 : Value) (w12 : Value) (w13 : Value) (w14 : Value) (a15 : Nat) (w16 : Value) (w17 : Value) (w18 : Value) (w19 : Value) (w20 : Value) (w21 : Value) (w22 : Value) (w23 : Value) (w24 : Value) (w25 : Value) : zM l D y yX1_cost (Cond.code yX1_cost cX1_cost 1 (some .int) :: zT) { frames := 1, cells := 0, slots := 0, locals := 24 } [.ref a0] [(a0, .inr (1, [.ref a1, w2, .int 24, w3, w4, w5, w6, w7, w8])), (a1, .inr (6, [w9, .int 0, w10, w11, .int 0, w12, w13, w14, .ref a15, w16, w17, w18])), (a15, .inr (2, [w19, .int 15, w20, w21, w22, w23, w24, w25]))] (zQi (S := Unit) D (fun r_ _ => r_ = 0) (fun _ => [(a0, .inr (1, [.ref a1, w2, .int 24, w3, w4, w5, w6, w7, w8])), (a1, .inr (6, [w9, .int 0, w10, w11, .int 0, w12, w13, w14, .ref a15, w16, w17, w18])), (a15, .inr (2, [w19, .int 15, w20, w21, w22, w23, w24, w25]))])) := by
  refine zent (cc := cX1_cost) (maxL := 1) (ret := (some .int)) (by decide) (Nat.le_of_ble_eq_true rfl) ?_
  intro p e s m below meth c A H locs ls hx hb hml hr ht hown hlocks hin hA hK hE hS hW hl
  have hown : s.vm.findClass RX1 = some m.cls := hown
  have hW : zPD D A [(a0, .inr (1, [.ref a1, w2, .int 24, w3, w4, w5, w6, w7, w8])), (a1, .inr (6, [w9, .int 0, w10, w11, .int 0, w12, w13, w14, .ref a15, w16, w17, w18])), (a15, .inr (2, [w19, .int 15, w20, w21, w22, w23, w24, w25]))] H := hW
  have hl : lv_has ls 1 [(0, .ref a0)] := hl
  refine lv_aload_n hx hb dX1_cost_0 rfl (lv_at hl 0 rfl) ?_
  refine lv_aload_n hx hb dX1_cost_1 rfl (lv_at hl 0 rfl) ?_
  refine zget hx hb ht inlX1 hown hK hW 0 rfl rfl 0 (by decide) zm_119 rfl dX1_cost_2 ?_
  refine zget hx hb ht inlX7 hown hK hW 1 rfl rfl 4 (by decide) zm_815 rfl dX1_cost_5 ?_
  refine lv_aload_n hx hb dX1_cost_8 rfl (lv_at hl 0 rfl) ?_
  refine zgo_i (wr := []) (zrunV (As := []) (rest := [.int 0, .ref a0]) ⟨hx, hb, hml, hown, ht⟩ (zc_X1_stormEnd_6 l D y a0 a1 w2 w3 w4 w5 w6 w7 w8 w9 (.int 0) w10 w11 (.int 0) w12 w13 w14 a15 w16 w17 w18 w19 w20 w21 w22 w23 w24 w25) (cwV 0 ht (zgV zm_337 zm_338 zm_339 zm_28 zm_340) rfl rfl rfl (by decide +kernel) ⟨(Nat.le_of_ble_eq_true rfl), (Nat.le_of_ble_eq_true rfl)⟩) hK hE hS hA hW [0, 1, 2] (by decide) rfl 0 rfl rfl rfl rfl hl.1 rfl (Nat.le_of_ble_eq_true rfl) dX1_cost_9 (Nat.le_of_ble_eq_true rfl) (Nat.le_of_ble_eq_true rfl)) hS hA hW [0, 1, 2] [] rfl rfl (by decide) (by decide) (fun r1_ u H locs hw hW hS => ?_)
  have hW : zPD D A [(a0, .inr (1, [.ref a1, w2, .int 24, w3, w4, w5, w6, w7, w8])), (a1, .inr (6, [w9, .int 0, w10, w11, .int 0, w12, w13, w14, .ref a15, w16, w17, w18])), (a15, .inr (2, [w19, .int 15, w20, w21, w22, w23, w24, w25]))] H := hW
  have hw : r1_ = 39 := hw
  subst hw
  refine zgo_i (wr := [(a15, .inr (2, [w19, .int 15, w20, w21, w22, w23, w24, w25]))]) (zrunV (As := [.int 0, .int 39]) (rest := []) ⟨hx, hb, hml, hown, ht⟩ (zc_X1_harmOfAll_6 l D y a0 a1 w2 (.int 24) w3 w4 w5 w6 w7 w8 w9 w10 w11 (.int 0) w12 w13 w14 (.ref a15) w16 w17 w18) (cwV 2 ht (zgV zm_831 zm_733 zm_734 zm_28 zm_735) rfl rfl rfl (by decide +kernel) ⟨(Nat.le_of_ble_eq_true rfl), (Nat.le_of_ble_eq_true rfl)⟩) hK hE hS hA hW [0, 1] (by decide) rfl 0 rfl rfl rfl rfl hl.1 rfl (Nat.le_of_ble_eq_true rfl) dX1_cost_12 (Nat.le_of_ble_eq_true rfl) (Nat.le_of_ble_eq_true rfl)) hS hA hW [0, 1] [2] rfl rfl (by decide) (by decide) (fun r2_ u H locs hw hW hS => ?_)
  have hW : zPD D A [(a15, .inr (2, [w19, .int 15, w20, w21, w22, w23, w24, w25])), (a0, .inr (1, [.ref a1, w2, .int 24, w3, w4, w5, w6, w7, w8])), (a1, .inr (6, [w9, .int 0, w10, w11, .int 0, w12, w13, w14, .ref a15, w16, w17, w18]))] H := hW
  have hw : r2_ = 0 := hw
  subst hw
  exact zret_i (v := 0) hx hb hr hlocks hS () rfl (hW.sub [1, 2, 0] (by decide) rfl) (Nat.le_of_ble_eq_true rfl) (Nat.le_of_ble_eq_true rfl) dX1_cost_15
set_option maxHeartbeats 8000000 in
set_option maxRecDepth 100000 in
theorem zc_X1_stormEnd_7 (l : Launch) (D : va_G) (y : Nat → ClassId) (a0 : Nat) (a1 : Nat) (w2 : Value) (w3 : Value) (w4 : Value) (w5 : Value) (w6 : Value) (w7 : Value) (w8 : Value) (w9 : Value) (w10 : Value) (w11 : Value) (w12 : Value) (w13 : Value) (w14 : Value) (w15 : Value) (w16 : Value) (a17 : Nat) (w18 : Value) (w19 : Value) (w20 : Value) (w21 : Value) (w22 : Value) (w23 : Value) (w24 : Value) (w25 : Value) (w26 : Value) (w27 : Value) : zM l D y yX1_stormEnd (Cond.code yX1_stormEnd cX1_stormEnd 1 (some .int) :: zT) { frames := 0, cells := 0, slots := 0, locals := 0 } [.ref a0] [(a0, .inr (1, [.ref a1, w2, .int 25, w3, w4, w5, w6, w7, w8])), (a1, .inr (6, [w9, w10, w11, w12, w13, w14, w15, w16, .ref a17, w18, w19, w20])), (a17, .inr (2, [w21, .int 15, w22, w23, w24, w25, w26, w27]))] (zQi (S := Unit) D (fun r_ _ => r_ = 40) (fun _ => [(a0, .inr (1, [.ref a1, w2, .int 25, w3, w4, w5, w6, w7, w8])), (a1, .inr (6, [w9, w10, w11, w12, w13, w14, w15, w16, .ref a17, w18, w19, w20])), (a17, .inr (2, [w21, .int 15, w22, w23, w24, w25, w26, w27]))])) := by
  refine zent (cc := cX1_stormEnd) (maxL := 1) (ret := (some .int)) (by decide) (Nat.le_of_ble_eq_true rfl) ?_
  intro p e s m below meth c A H locs ls hx hb hml hr ht hown hlocks hin hA hK hE hS hW hl
  have hown : s.vm.findClass RX1 = some m.cls := hown
  have hW : zPD D A [(a0, .inr (1, [.ref a1, w2, .int 25, w3, w4, w5, w6, w7, w8])), (a1, .inr (6, [w9, w10, w11, w12, w13, w14, w15, w16, .ref a17, w18, w19, w20])), (a17, .inr (2, [w21, .int 15, w22, w23, w24, w25, w26, w27]))] H := hW
  have hl : lv_has ls 1 [(0, .ref a0)] := hl
  refine lv_aload_n hx hb dX1_stormEnd_0 rfl (lv_at hl 0 rfl) ?_
  refine zget hx hb ht inlX1 hown hK hW 0 rfl rfl 2 (by decide) zm_110 rfl dX1_stormEnd_1 ?_
  refine lv_aload_n hx hb dX1_stormEnd_4 rfl (lv_at hl 0 rfl) ?_
  refine zget hx hb ht inlX1 hown hK hW 0 rfl rfl 0 (by decide) zm_119 rfl dX1_stormEnd_5 ?_
  refine zget hx hb ht inlX7 hown hK hW 1 rfl rfl 8 (by decide) zm_290 rfl dX1_stormEnd_8 ?_
  refine zget hx hb ht inlX2 hown hK hW 2 rfl rfl 1 (by decide) zm_291 rfl dX1_stormEnd_11 ?_
  refine lv_iadd hx hb dX1_stormEnd_14 ?_
  refine ztop (w := .int 40) (congrArg Value.int (by decide)) ?_
  exact zret_i (v := 40) hx hb hr hlocks hS () rfl hW (Nat.le_of_ble_eq_true rfl) (Nat.le_of_ble_eq_true rfl) dX1_stormEnd_15
set_option maxHeartbeats 8000000 in
set_option maxRecDepth 100000 in
theorem zc_X1_harmOfAll_7 (l : Launch) (D : va_G) (y : Nat → ClassId) (a0 : Nat) (a1 : Nat) (w2 : Value) (w3 : Value) (w4 : Value) (w5 : Value) (w6 : Value) (w7 : Value) (w8 : Value) (w9 : Value) (w10 : Value) (w11 : Value) (w12 : Value) (w13 : Value) (w14 : Value) (w15 : Value) (w16 : Value) (w17 : Value) (w18 : Value) (w19 : Value) (w20 : Value) : zM l D y yX1_harmOfAll (Cond.code yX1_harmOfAll cX1_harmOfAll 5 (some .int) :: zT) { frames := 0, cells := 0, slots := 0, locals := 0 } [.ref a0, .int 0, .int 40] [(a0, .inr (1, [.ref a1, w2, w3, w4, w5, w6, w7, w8, w9])), (a1, .inr (6, [w10, .int 0, w11, w12, w13, w14, w15, w16, w17, w18, w19, w20]))] (zQi (S := Unit) D (fun r_ _ => r_ = 0) (fun _ => [(a0, .inr (1, [.ref a1, w2, w3, w4, w5, w6, w7, w8, w9])), (a1, .inr (6, [w10, .int 0, w11, w12, w13, w14, w15, w16, w17, w18, w19, w20]))])) := by
  refine zent (cc := cX1_harmOfAll) (maxL := 5) (ret := (some .int)) (by decide) (Nat.le_of_ble_eq_true rfl) ?_
  intro p e s m below meth c A H locs ls hx hb hml hr ht hown hlocks hin hA hK hE hS hW hl
  have hown : s.vm.findClass RX1 = some m.cls := hown
  have hW : zPD D A [(a0, .inr (1, [.ref a1, w2, w3, w4, w5, w6, w7, w8, w9])), (a1, .inr (6, [w10, .int 0, w11, w12, w13, w14, w15, w16, w17, w18, w19, w20]))] H := hW
  have hl : lv_has ls 5 [(0, .ref a0), (1, .int 0), (2, .int 40)] := hl
  refine lv_iconst (v := 0) hx hb dX1_harmOfAll_0 (by decide) ?_
  refine lv_istore_n (lv' := [(3, .int 0), (0, .ref a0), (1, .int 0), (2, .int 40)]) hx hb dX1_harmOfAll_1 rfl hl (by decide) rfl (fun ls hl => ?_)
  refine lv_iconst (v := 0) hx hb dX1_harmOfAll_2 (by decide) ?_
  refine lv_istore (lv' := [(4, .int 0), (3, .int 0), (0, .ref a0), (1, .int 0), (2, .int 40)]) hx hb dX1_harmOfAll_3 hl (by decide) rfl (fun ls hl => ?_)
  refine lv_iload hx hb dX1_harmOfAll_5 (lv_at hl 0 rfl) ?_
  refine lv_aload_n hx hb dX1_harmOfAll_7 rfl (lv_at hl 2 rfl) ?_
  refine zget hx hb ht inlX1 hown hK hW 0 rfl rfl 0 (by decide) zm_119 rfl dX1_harmOfAll_8 ?_
  refine zget hx hb ht inlX7 hown hK hW 1 rfl rfl 1 (by decide) zm_284 rfl dX1_harmOfAll_11 ?_
  refine lv_icmp_ge (tgt := 34) hx hb dX1_harmOfAll_14 (by decide) (fun c1_ => ?_) (fun c1_ => absurd (by decide) c1_)
  refine lv_iload_n hx hb dX1_harmOfAll_34 rfl (lv_at hl 1 rfl) ?_
  exact zret_i (v := 0) hx hb hr hlocks hS () rfl hW (Nat.le_of_ble_eq_true rfl) (Nat.le_of_ble_eq_true rfl) dX1_harmOfAll_35
set_option maxHeartbeats 8000000 in
set_option maxRecDepth 100000 in
theorem zc_X1_cost_7 (l : Launch) (D : va_G) (y : Nat → ClassId) (a0 : Nat) (a1 : Nat) (w2 : Value) (w3 : Value) (w4 : Value) (w5 : Value) (w6 : Value) (w7 : Value) (w8 : Value) (w9 : Value) (w10 : Value) (w11 : Value) (w12 : Value) (w13 : Value) (w14 : Value) (a15 : Nat) (w16 : Value) (w17 : Value) (w18 : Value) (w19 : Value) (w20 : Value) (w21 : Value) (w22 : Value) (w23 : Value) (w24 : Value) (w25 : Value) : zM l D y yX1_cost (Cond.code yX1_cost cX1_cost 1 (some .int) :: zT) { frames := 1, cells := 0, slots := 0, locals := 24 } [.ref a0] [(a0, .inr (1, [.ref a1, w2, .int 25, w3, w4, w5, w6, w7, w8])), (a1, .inr (6, [w9, .int 0, w10, w11, .int 0, w12, w13, w14, .ref a15, w16, w17, w18])), (a15, .inr (2, [w19, .int 15, w20, w21, w22, w23, w24, w25]))] (zQi (S := Unit) D (fun r_ _ => r_ = 0) (fun _ => [(a0, .inr (1, [.ref a1, w2, .int 25, w3, w4, w5, w6, w7, w8])), (a1, .inr (6, [w9, .int 0, w10, w11, .int 0, w12, w13, w14, .ref a15, w16, w17, w18])), (a15, .inr (2, [w19, .int 15, w20, w21, w22, w23, w24, w25]))])) := by
  refine zent (cc := cX1_cost) (maxL := 1) (ret := (some .int)) (by decide) (Nat.le_of_ble_eq_true rfl) ?_
  intro p e s m below meth c A H locs ls hx hb hml hr ht hown hlocks hin hA hK hE hS hW hl
  have hown : s.vm.findClass RX1 = some m.cls := hown
  have hW : zPD D A [(a0, .inr (1, [.ref a1, w2, .int 25, w3, w4, w5, w6, w7, w8])), (a1, .inr (6, [w9, .int 0, w10, w11, .int 0, w12, w13, w14, .ref a15, w16, w17, w18])), (a15, .inr (2, [w19, .int 15, w20, w21, w22, w23, w24, w25]))] H := hW
  have hl : lv_has ls 1 [(0, .ref a0)] := hl
  refine lv_aload_n hx hb dX1_cost_0 rfl (lv_at hl 0 rfl) ?_
  refine lv_aload_n hx hb dX1_cost_1 rfl (lv_at hl 0 rfl) ?_
  refine zget hx hb ht inlX1 hown hK hW 0 rfl rfl 0 (by decide) zm_119 rfl dX1_cost_2 ?_
  refine zget hx hb ht inlX7 hown hK hW 1 rfl rfl 4 (by decide) zm_815 rfl dX1_cost_5 ?_
  refine lv_aload_n hx hb dX1_cost_8 rfl (lv_at hl 0 rfl) ?_
  refine zgo_i (wr := []) (zrunV (As := []) (rest := [.int 0, .ref a0]) ⟨hx, hb, hml, hown, ht⟩ (zc_X1_stormEnd_7 l D y a0 a1 w2 w3 w4 w5 w6 w7 w8 w9 (.int 0) w10 w11 (.int 0) w12 w13 w14 a15 w16 w17 w18 w19 w20 w21 w22 w23 w24 w25) (cwV 0 ht (zgV zm_337 zm_338 zm_339 zm_28 zm_340) rfl rfl rfl (by decide +kernel) ⟨(Nat.le_of_ble_eq_true rfl), (Nat.le_of_ble_eq_true rfl)⟩) hK hE hS hA hW [0, 1, 2] (by decide) rfl 0 rfl rfl rfl rfl hl.1 rfl (Nat.le_of_ble_eq_true rfl) dX1_cost_9 (Nat.le_of_ble_eq_true rfl) (Nat.le_of_ble_eq_true rfl)) hS hA hW [0, 1, 2] [] rfl rfl (by decide) (by decide) (fun r1_ u H locs hw hW hS => ?_)
  have hW : zPD D A [(a0, .inr (1, [.ref a1, w2, .int 25, w3, w4, w5, w6, w7, w8])), (a1, .inr (6, [w9, .int 0, w10, w11, .int 0, w12, w13, w14, .ref a15, w16, w17, w18])), (a15, .inr (2, [w19, .int 15, w20, w21, w22, w23, w24, w25]))] H := hW
  have hw : r1_ = 40 := hw
  subst hw
  refine zgo_i (wr := [(a15, .inr (2, [w19, .int 15, w20, w21, w22, w23, w24, w25]))]) (zrunV (As := [.int 0, .int 40]) (rest := []) ⟨hx, hb, hml, hown, ht⟩ (zc_X1_harmOfAll_7 l D y a0 a1 w2 (.int 25) w3 w4 w5 w6 w7 w8 w9 w10 w11 (.int 0) w12 w13 w14 (.ref a15) w16 w17 w18) (cwV 2 ht (zgV zm_831 zm_733 zm_734 zm_28 zm_735) rfl rfl rfl (by decide +kernel) ⟨(Nat.le_of_ble_eq_true rfl), (Nat.le_of_ble_eq_true rfl)⟩) hK hE hS hA hW [0, 1] (by decide) rfl 0 rfl rfl rfl rfl hl.1 rfl (Nat.le_of_ble_eq_true rfl) dX1_cost_12 (Nat.le_of_ble_eq_true rfl) (Nat.le_of_ble_eq_true rfl)) hS hA hW [0, 1] [2] rfl rfl (by decide) (by decide) (fun r2_ u H locs hw hW hS => ?_)
  have hW : zPD D A [(a15, .inr (2, [w19, .int 15, w20, w21, w22, w23, w24, w25])), (a0, .inr (1, [.ref a1, w2, .int 25, w3, w4, w5, w6, w7, w8])), (a1, .inr (6, [w9, .int 0, w10, w11, .int 0, w12, w13, w14, .ref a15, w16, w17, w18]))] H := hW
  have hw : r2_ = 0 := hw
  subst hw
  exact zret_i (v := 0) hx hb hr hlocks hS () rfl (hW.sub [1, 2, 0] (by decide) rfl) (Nat.le_of_ble_eq_true rfl) (Nat.le_of_ble_eq_true rfl) dX1_cost_15
set_option maxHeartbeats 8000000 in
set_option maxRecDepth 100000 in
theorem zc_X1_stormEnd_8 (l : Launch) (D : va_G) (y : Nat → ClassId) (a0 : Nat) (a1 : Nat) (w2 : Value) (w3 : Value) (w4 : Value) (w5 : Value) (w6 : Value) (w7 : Value) (w8 : Value) (w9 : Value) (w10 : Value) (w11 : Value) (w12 : Value) (w13 : Value) (w14 : Value) (w15 : Value) (w16 : Value) (a17 : Nat) (w18 : Value) (w19 : Value) (w20 : Value) (w21 : Value) (w22 : Value) (w23 : Value) (w24 : Value) (w25 : Value) (w26 : Value) (w27 : Value) : zM l D y yX1_stormEnd (Cond.code yX1_stormEnd cX1_stormEnd 1 (some .int) :: zT) { frames := 0, cells := 0, slots := 0, locals := 0 } [.ref a0] [(a0, .inr (1, [.ref a1, w2, .int 26, w3, w4, w5, w6, w7, w8])), (a1, .inr (6, [w9, w10, w11, w12, w13, w14, w15, w16, .ref a17, w18, w19, w20])), (a17, .inr (2, [w21, .int 15, w22, w23, w24, w25, w26, w27]))] (zQi (S := Unit) D (fun r_ _ => r_ = 41) (fun _ => [(a0, .inr (1, [.ref a1, w2, .int 26, w3, w4, w5, w6, w7, w8])), (a1, .inr (6, [w9, w10, w11, w12, w13, w14, w15, w16, .ref a17, w18, w19, w20])), (a17, .inr (2, [w21, .int 15, w22, w23, w24, w25, w26, w27]))])) := by
  refine zent (cc := cX1_stormEnd) (maxL := 1) (ret := (some .int)) (by decide) (Nat.le_of_ble_eq_true rfl) ?_
  intro p e s m below meth c A H locs ls hx hb hml hr ht hown hlocks hin hA hK hE hS hW hl
  have hown : s.vm.findClass RX1 = some m.cls := hown
  have hW : zPD D A [(a0, .inr (1, [.ref a1, w2, .int 26, w3, w4, w5, w6, w7, w8])), (a1, .inr (6, [w9, w10, w11, w12, w13, w14, w15, w16, .ref a17, w18, w19, w20])), (a17, .inr (2, [w21, .int 15, w22, w23, w24, w25, w26, w27]))] H := hW
  have hl : lv_has ls 1 [(0, .ref a0)] := hl
  refine lv_aload_n hx hb dX1_stormEnd_0 rfl (lv_at hl 0 rfl) ?_
  refine zget hx hb ht inlX1 hown hK hW 0 rfl rfl 2 (by decide) zm_110 rfl dX1_stormEnd_1 ?_
  refine lv_aload_n hx hb dX1_stormEnd_4 rfl (lv_at hl 0 rfl) ?_
  refine zget hx hb ht inlX1 hown hK hW 0 rfl rfl 0 (by decide) zm_119 rfl dX1_stormEnd_5 ?_
  refine zget hx hb ht inlX7 hown hK hW 1 rfl rfl 8 (by decide) zm_290 rfl dX1_stormEnd_8 ?_
  refine zget hx hb ht inlX2 hown hK hW 2 rfl rfl 1 (by decide) zm_291 rfl dX1_stormEnd_11 ?_
  refine lv_iadd hx hb dX1_stormEnd_14 ?_
  refine ztop (w := .int 41) (congrArg Value.int (by decide)) ?_
  exact zret_i (v := 41) hx hb hr hlocks hS () rfl hW (Nat.le_of_ble_eq_true rfl) (Nat.le_of_ble_eq_true rfl) dX1_stormEnd_15
set_option maxHeartbeats 8000000 in
set_option maxRecDepth 100000 in
theorem zc_X1_harmOfAll_8 (l : Launch) (D : va_G) (y : Nat → ClassId) (a0 : Nat) (a1 : Nat) (w2 : Value) (w3 : Value) (w4 : Value) (w5 : Value) (w6 : Value) (w7 : Value) (w8 : Value) (w9 : Value) (w10 : Value) (w11 : Value) (w12 : Value) (w13 : Value) (w14 : Value) (w15 : Value) (w16 : Value) (w17 : Value) (w18 : Value) (w19 : Value) (w20 : Value) : zM l D y yX1_harmOfAll (Cond.code yX1_harmOfAll cX1_harmOfAll 5 (some .int) :: zT) { frames := 0, cells := 0, slots := 0, locals := 0 } [.ref a0, .int 0, .int 41] [(a0, .inr (1, [.ref a1, w2, w3, w4, w5, w6, w7, w8, w9])), (a1, .inr (6, [w10, .int 0, w11, w12, w13, w14, w15, w16, w17, w18, w19, w20]))] (zQi (S := Unit) D (fun r_ _ => r_ = 0) (fun _ => [(a0, .inr (1, [.ref a1, w2, w3, w4, w5, w6, w7, w8, w9])), (a1, .inr (6, [w10, .int 0, w11, w12, w13, w14, w15, w16, w17, w18, w19, w20]))])) := by
  refine zent (cc := cX1_harmOfAll) (maxL := 5) (ret := (some .int)) (by decide) (Nat.le_of_ble_eq_true rfl) ?_
  intro p e s m below meth c A H locs ls hx hb hml hr ht hown hlocks hin hA hK hE hS hW hl
  have hown : s.vm.findClass RX1 = some m.cls := hown
  have hW : zPD D A [(a0, .inr (1, [.ref a1, w2, w3, w4, w5, w6, w7, w8, w9])), (a1, .inr (6, [w10, .int 0, w11, w12, w13, w14, w15, w16, w17, w18, w19, w20]))] H := hW
  have hl : lv_has ls 5 [(0, .ref a0), (1, .int 0), (2, .int 41)] := hl
  refine lv_iconst (v := 0) hx hb dX1_harmOfAll_0 (by decide) ?_
  refine lv_istore_n (lv' := [(3, .int 0), (0, .ref a0), (1, .int 0), (2, .int 41)]) hx hb dX1_harmOfAll_1 rfl hl (by decide) rfl (fun ls hl => ?_)
  refine lv_iconst (v := 0) hx hb dX1_harmOfAll_2 (by decide) ?_
  refine lv_istore (lv' := [(4, .int 0), (3, .int 0), (0, .ref a0), (1, .int 0), (2, .int 41)]) hx hb dX1_harmOfAll_3 hl (by decide) rfl (fun ls hl => ?_)
  refine lv_iload hx hb dX1_harmOfAll_5 (lv_at hl 0 rfl) ?_
  refine lv_aload_n hx hb dX1_harmOfAll_7 rfl (lv_at hl 2 rfl) ?_
  refine zget hx hb ht inlX1 hown hK hW 0 rfl rfl 0 (by decide) zm_119 rfl dX1_harmOfAll_8 ?_
  refine zget hx hb ht inlX7 hown hK hW 1 rfl rfl 1 (by decide) zm_284 rfl dX1_harmOfAll_11 ?_
  refine lv_icmp_ge (tgt := 34) hx hb dX1_harmOfAll_14 (by decide) (fun c1_ => ?_) (fun c1_ => absurd (by decide) c1_)
  refine lv_iload_n hx hb dX1_harmOfAll_34 rfl (lv_at hl 1 rfl) ?_
  exact zret_i (v := 0) hx hb hr hlocks hS () rfl hW (Nat.le_of_ble_eq_true rfl) (Nat.le_of_ble_eq_true rfl) dX1_harmOfAll_35
set_option maxHeartbeats 8000000 in
set_option maxRecDepth 100000 in
theorem zc_X1_cost_8 (l : Launch) (D : va_G) (y : Nat → ClassId) (a0 : Nat) (a1 : Nat) (w2 : Value) (w3 : Value) (w4 : Value) (w5 : Value) (w6 : Value) (w7 : Value) (w8 : Value) (w9 : Value) (w10 : Value) (w11 : Value) (w12 : Value) (w13 : Value) (w14 : Value) (a15 : Nat) (w16 : Value) (w17 : Value) (w18 : Value) (w19 : Value) (w20 : Value) (w21 : Value) (w22 : Value) (w23 : Value) (w24 : Value) (w25 : Value) : zM l D y yX1_cost (Cond.code yX1_cost cX1_cost 1 (some .int) :: zT) { frames := 1, cells := 0, slots := 0, locals := 24 } [.ref a0] [(a0, .inr (1, [.ref a1, w2, .int 26, w3, w4, w5, w6, w7, w8])), (a1, .inr (6, [w9, .int 0, w10, w11, .int 0, w12, w13, w14, .ref a15, w16, w17, w18])), (a15, .inr (2, [w19, .int 15, w20, w21, w22, w23, w24, w25]))] (zQi (S := Unit) D (fun r_ _ => r_ = 0) (fun _ => [(a0, .inr (1, [.ref a1, w2, .int 26, w3, w4, w5, w6, w7, w8])), (a1, .inr (6, [w9, .int 0, w10, w11, .int 0, w12, w13, w14, .ref a15, w16, w17, w18])), (a15, .inr (2, [w19, .int 15, w20, w21, w22, w23, w24, w25]))])) := by
  refine zent (cc := cX1_cost) (maxL := 1) (ret := (some .int)) (by decide) (Nat.le_of_ble_eq_true rfl) ?_
  intro p e s m below meth c A H locs ls hx hb hml hr ht hown hlocks hin hA hK hE hS hW hl
  have hown : s.vm.findClass RX1 = some m.cls := hown
  have hW : zPD D A [(a0, .inr (1, [.ref a1, w2, .int 26, w3, w4, w5, w6, w7, w8])), (a1, .inr (6, [w9, .int 0, w10, w11, .int 0, w12, w13, w14, .ref a15, w16, w17, w18])), (a15, .inr (2, [w19, .int 15, w20, w21, w22, w23, w24, w25]))] H := hW
  have hl : lv_has ls 1 [(0, .ref a0)] := hl
  refine lv_aload_n hx hb dX1_cost_0 rfl (lv_at hl 0 rfl) ?_
  refine lv_aload_n hx hb dX1_cost_1 rfl (lv_at hl 0 rfl) ?_
  refine zget hx hb ht inlX1 hown hK hW 0 rfl rfl 0 (by decide) zm_119 rfl dX1_cost_2 ?_
  refine zget hx hb ht inlX7 hown hK hW 1 rfl rfl 4 (by decide) zm_815 rfl dX1_cost_5 ?_
  refine lv_aload_n hx hb dX1_cost_8 rfl (lv_at hl 0 rfl) ?_
  refine zgo_i (wr := []) (zrunV (As := []) (rest := [.int 0, .ref a0]) ⟨hx, hb, hml, hown, ht⟩ (zc_X1_stormEnd_8 l D y a0 a1 w2 w3 w4 w5 w6 w7 w8 w9 (.int 0) w10 w11 (.int 0) w12 w13 w14 a15 w16 w17 w18 w19 w20 w21 w22 w23 w24 w25) (cwV 0 ht (zgV zm_337 zm_338 zm_339 zm_28 zm_340) rfl rfl rfl (by decide +kernel) ⟨(Nat.le_of_ble_eq_true rfl), (Nat.le_of_ble_eq_true rfl)⟩) hK hE hS hA hW [0, 1, 2] (by decide) rfl 0 rfl rfl rfl rfl hl.1 rfl (Nat.le_of_ble_eq_true rfl) dX1_cost_9 (Nat.le_of_ble_eq_true rfl) (Nat.le_of_ble_eq_true rfl)) hS hA hW [0, 1, 2] [] rfl rfl (by decide) (by decide) (fun r1_ u H locs hw hW hS => ?_)
  have hW : zPD D A [(a0, .inr (1, [.ref a1, w2, .int 26, w3, w4, w5, w6, w7, w8])), (a1, .inr (6, [w9, .int 0, w10, w11, .int 0, w12, w13, w14, .ref a15, w16, w17, w18])), (a15, .inr (2, [w19, .int 15, w20, w21, w22, w23, w24, w25]))] H := hW
  have hw : r1_ = 41 := hw
  subst hw
  refine zgo_i (wr := [(a15, .inr (2, [w19, .int 15, w20, w21, w22, w23, w24, w25]))]) (zrunV (As := [.int 0, .int 41]) (rest := []) ⟨hx, hb, hml, hown, ht⟩ (zc_X1_harmOfAll_8 l D y a0 a1 w2 (.int 26) w3 w4 w5 w6 w7 w8 w9 w10 w11 (.int 0) w12 w13 w14 (.ref a15) w16 w17 w18) (cwV 2 ht (zgV zm_831 zm_733 zm_734 zm_28 zm_735) rfl rfl rfl (by decide +kernel) ⟨(Nat.le_of_ble_eq_true rfl), (Nat.le_of_ble_eq_true rfl)⟩) hK hE hS hA hW [0, 1] (by decide) rfl 0 rfl rfl rfl rfl hl.1 rfl (Nat.le_of_ble_eq_true rfl) dX1_cost_12 (Nat.le_of_ble_eq_true rfl) (Nat.le_of_ble_eq_true rfl)) hS hA hW [0, 1] [2] rfl rfl (by decide) (by decide) (fun r2_ u H locs hw hW hS => ?_)
  have hW : zPD D A [(a15, .inr (2, [w19, .int 15, w20, w21, w22, w23, w24, w25])), (a0, .inr (1, [.ref a1, w2, .int 26, w3, w4, w5, w6, w7, w8])), (a1, .inr (6, [w9, .int 0, w10, w11, .int 0, w12, w13, w14, .ref a15, w16, w17, w18]))] H := hW
  have hw : r2_ = 0 := hw
  subst hw
  exact zret_i (v := 0) hx hb hr hlocks hS () rfl (hW.sub [1, 2, 0] (by decide) rfl) (Nat.le_of_ble_eq_true rfl) (Nat.le_of_ble_eq_true rfl) dX1_cost_15
set_option maxHeartbeats 8000000 in
set_option maxRecDepth 100000 in
theorem zc_X1_stormEnd_9 (l : Launch) (D : va_G) (y : Nat → ClassId) (a0 : Nat) (a1 : Nat) (w2 : Value) (w3 : Value) (w4 : Value) (w5 : Value) (w6 : Value) (w7 : Value) (w8 : Value) (w9 : Value) (w10 : Value) (w11 : Value) (w12 : Value) (w13 : Value) (w14 : Value) (w15 : Value) (w16 : Value) (a17 : Nat) (w18 : Value) (w19 : Value) (w20 : Value) (w21 : Value) (w22 : Value) (w23 : Value) (w24 : Value) (w25 : Value) (w26 : Value) (w27 : Value) : zM l D y yX1_stormEnd (Cond.code yX1_stormEnd cX1_stormEnd 1 (some .int) :: zT) { frames := 0, cells := 0, slots := 0, locals := 0 } [.ref a0] [(a0, .inr (1, [.ref a1, w2, .int 27, w3, w4, w5, w6, w7, w8])), (a1, .inr (6, [w9, w10, w11, w12, w13, w14, w15, w16, .ref a17, w18, w19, w20])), (a17, .inr (2, [w21, .int 15, w22, w23, w24, w25, w26, w27]))] (zQi (S := Unit) D (fun r_ _ => r_ = 42) (fun _ => [(a0, .inr (1, [.ref a1, w2, .int 27, w3, w4, w5, w6, w7, w8])), (a1, .inr (6, [w9, w10, w11, w12, w13, w14, w15, w16, .ref a17, w18, w19, w20])), (a17, .inr (2, [w21, .int 15, w22, w23, w24, w25, w26, w27]))])) := by
  refine zent (cc := cX1_stormEnd) (maxL := 1) (ret := (some .int)) (by decide) (Nat.le_of_ble_eq_true rfl) ?_
  intro p e s m below meth c A H locs ls hx hb hml hr ht hown hlocks hin hA hK hE hS hW hl
  have hown : s.vm.findClass RX1 = some m.cls := hown
  have hW : zPD D A [(a0, .inr (1, [.ref a1, w2, .int 27, w3, w4, w5, w6, w7, w8])), (a1, .inr (6, [w9, w10, w11, w12, w13, w14, w15, w16, .ref a17, w18, w19, w20])), (a17, .inr (2, [w21, .int 15, w22, w23, w24, w25, w26, w27]))] H := hW
  have hl : lv_has ls 1 [(0, .ref a0)] := hl
  refine lv_aload_n hx hb dX1_stormEnd_0 rfl (lv_at hl 0 rfl) ?_
  refine zget hx hb ht inlX1 hown hK hW 0 rfl rfl 2 (by decide) zm_110 rfl dX1_stormEnd_1 ?_
  refine lv_aload_n hx hb dX1_stormEnd_4 rfl (lv_at hl 0 rfl) ?_
  refine zget hx hb ht inlX1 hown hK hW 0 rfl rfl 0 (by decide) zm_119 rfl dX1_stormEnd_5 ?_
  refine zget hx hb ht inlX7 hown hK hW 1 rfl rfl 8 (by decide) zm_290 rfl dX1_stormEnd_8 ?_
  refine zget hx hb ht inlX2 hown hK hW 2 rfl rfl 1 (by decide) zm_291 rfl dX1_stormEnd_11 ?_
  refine lv_iadd hx hb dX1_stormEnd_14 ?_
  refine ztop (w := .int 42) (congrArg Value.int (by decide)) ?_
  exact zret_i (v := 42) hx hb hr hlocks hS () rfl hW (Nat.le_of_ble_eq_true rfl) (Nat.le_of_ble_eq_true rfl) dX1_stormEnd_15
set_option maxHeartbeats 8000000 in
set_option maxRecDepth 100000 in
theorem zc_X1_harmOfAll_9 (l : Launch) (D : va_G) (y : Nat → ClassId) (a0 : Nat) (a1 : Nat) (w2 : Value) (w3 : Value) (w4 : Value) (w5 : Value) (w6 : Value) (w7 : Value) (w8 : Value) (w9 : Value) (w10 : Value) (w11 : Value) (w12 : Value) (w13 : Value) (w14 : Value) (w15 : Value) (w16 : Value) (w17 : Value) (w18 : Value) (w19 : Value) (w20 : Value) : zM l D y yX1_harmOfAll (Cond.code yX1_harmOfAll cX1_harmOfAll 5 (some .int) :: zT) { frames := 0, cells := 0, slots := 0, locals := 0 } [.ref a0, .int 0, .int 42] [(a0, .inr (1, [.ref a1, w2, w3, w4, w5, w6, w7, w8, w9])), (a1, .inr (6, [w10, .int 0, w11, w12, w13, w14, w15, w16, w17, w18, w19, w20]))] (zQi (S := Unit) D (fun r_ _ => r_ = 0) (fun _ => [(a0, .inr (1, [.ref a1, w2, w3, w4, w5, w6, w7, w8, w9])), (a1, .inr (6, [w10, .int 0, w11, w12, w13, w14, w15, w16, w17, w18, w19, w20]))])) := by
  refine zent (cc := cX1_harmOfAll) (maxL := 5) (ret := (some .int)) (by decide) (Nat.le_of_ble_eq_true rfl) ?_
  intro p e s m below meth c A H locs ls hx hb hml hr ht hown hlocks hin hA hK hE hS hW hl
  have hown : s.vm.findClass RX1 = some m.cls := hown
  have hW : zPD D A [(a0, .inr (1, [.ref a1, w2, w3, w4, w5, w6, w7, w8, w9])), (a1, .inr (6, [w10, .int 0, w11, w12, w13, w14, w15, w16, w17, w18, w19, w20]))] H := hW
  have hl : lv_has ls 5 [(0, .ref a0), (1, .int 0), (2, .int 42)] := hl
  refine lv_iconst (v := 0) hx hb dX1_harmOfAll_0 (by decide) ?_
  refine lv_istore_n (lv' := [(3, .int 0), (0, .ref a0), (1, .int 0), (2, .int 42)]) hx hb dX1_harmOfAll_1 rfl hl (by decide) rfl (fun ls hl => ?_)
  refine lv_iconst (v := 0) hx hb dX1_harmOfAll_2 (by decide) ?_
  refine lv_istore (lv' := [(4, .int 0), (3, .int 0), (0, .ref a0), (1, .int 0), (2, .int 42)]) hx hb dX1_harmOfAll_3 hl (by decide) rfl (fun ls hl => ?_)
  refine lv_iload hx hb dX1_harmOfAll_5 (lv_at hl 0 rfl) ?_
  refine lv_aload_n hx hb dX1_harmOfAll_7 rfl (lv_at hl 2 rfl) ?_
  refine zget hx hb ht inlX1 hown hK hW 0 rfl rfl 0 (by decide) zm_119 rfl dX1_harmOfAll_8 ?_
  refine zget hx hb ht inlX7 hown hK hW 1 rfl rfl 1 (by decide) zm_284 rfl dX1_harmOfAll_11 ?_
  refine lv_icmp_ge (tgt := 34) hx hb dX1_harmOfAll_14 (by decide) (fun c1_ => ?_) (fun c1_ => absurd (by decide) c1_)
  refine lv_iload_n hx hb dX1_harmOfAll_34 rfl (lv_at hl 1 rfl) ?_
  exact zret_i (v := 0) hx hb hr hlocks hS () rfl hW (Nat.le_of_ble_eq_true rfl) (Nat.le_of_ble_eq_true rfl) dX1_harmOfAll_35

theorem dX10_book_0 : decode cX10_book 0 = .ok (.iload_n 1, 1) := by decide +kernel
theorem dX10_book_1 : decode cX10_book 1 = .ok (.iconst (-1), 1) := by decide +kernel
theorem dX10_book_10 : decode cX10_book 10 = .ok (.iconst 0, 1) := by decide +kernel
theorem dX10_book_11 : decode cX10_book 11 = .ok (.ireturn, 1) := by decide +kernel
theorem dX10_book_12 : decode cX10_book 12 = .ok (.aload_n 0, 1) := by decide +kernel
theorem dX10_book_13 : decode cX10_book 13 = .ok (.iload_n 1, 1) := by decide +kernel
theorem dX10_book_14 : decode cX10_book 14 = .ok (.invokevirtual 250, 3) := by decide +kernel
theorem dX10_book_17 : decode cX10_book 17 = .ok (.ifCond .ne 5, 3) := by decide +kernel
theorem dX10_book_2 : decode cX10_book 2 = .ok (.if_icmp .ne 10, 3) := by decide +kernel
theorem dX10_book_20 : decode cX10_book 20 = .ok (.iconst (-1), 1) := by decide +kernel
theorem dX10_book_21 : decode cX10_book 21 = .ok (.ireturn, 1) := by decide +kernel
theorem dX10_book_5 : decode cX10_book 5 = .ok (.aload_n 0, 1) := by decide +kernel
theorem dX10_book_6 : decode cX10_book 6 = .ok (.iconst 0, 1) := by decide +kernel
theorem dX10_book_7 : decode cX10_book 7 = .ok (.putfield 141, 3) := by decide +kernel
theorem dX10_isTape_0 : decode cX10_isTape 0 = .ok (.aload_n 0, 1) := by decide +kernel
theorem dX10_isTape_1 : decode cX10_isTape 1 = .ok (.iload_n 1, 1) := by decide +kernel
theorem dX10_isTape_2 : decode cX10_isTape 2 = .ok (.iconst 0, 1) := by decide +kernel
theorem dX10_isTape_3 : decode cX10_isTape 3 = .ok (.iconst 5, 1) := by decide +kernel
theorem dX10_isTape_4 : decode cX10_isTape 4 = .ok (.invokevirtual 242, 3) := by decide +kernel
theorem dX10_isTape_7 : decode cX10_isTape 7 = .ok (.ireturn, 1) := by decide +kernel
theorem dX10_judge_0 : decode cX10_judge 0 = .ok (.aload_n 0, 1) := by decide +kernel
theorem dX10_judge_1 : decode cX10_judge 1 = .ok (.iload_n 1, 1) := by decide +kernel
theorem dX10_judge_10 : decode cX10_judge 10 = .ok (.aload_n 0, 1) := by decide +kernel
theorem dX10_judge_11 : decode cX10_judge 11 = .ok (.getfield 229, 3) := by decide +kernel
theorem dX10_judge_113 : decode cX10_judge 113 = .ok (.bipush (-5), 2) := by decide +kernel
theorem dX10_judge_115 : decode cX10_judge 115 = .ok (.ireturn, 1) := by decide +kernel
theorem dX10_judge_14 : decode cX10_judge 14 = .ok (.iload_n 1, 1) := by decide +kernel
theorem dX10_judge_15 : decode cX10_judge 15 = .ok (.iaload, 1) := by decide +kernel
theorem dX10_judge_16 : decode cX10_judge 16 = .ok (.ifCond .lt 16, 3) := by decide +kernel
theorem dX10_judge_2 : decode cX10_judge 2 = .ok (.invokevirtual 399, 3) := by decide +kernel
theorem dX10_judge_32 : decode cX10_judge 32 = .ok (.iconst 0, 1) := by decide +kernel
theorem dX10_judge_33 : decode cX10_judge 33 = .ok (.istore_n 3, 1) := by decide +kernel
theorem dX10_judge_34 : decode cX10_judge 34 = .ok (.iload_n 3, 1) := by decide +kernel
theorem dX10_judge_35 : decode cX10_judge 35 = .ok (.aload_n 0, 1) := by decide +kernel
theorem dX10_judge_36 : decode cX10_judge 36 = .ok (.getfield 7, 3) := by decide +kernel
theorem dX10_judge_39 : decode cX10_judge 39 = .ok (.if_icmp .ge 74, 3) := by decide +kernel
theorem dX10_judge_5 : decode cX10_judge 5 = .ok (.ifCond .ne 5, 3) := by decide +kernel
theorem dX10_judge_8 : decode cX10_judge 8 = .ok (.iconst (-1), 1) := by decide +kernel
theorem dX10_judge_9 : decode cX10_judge 9 = .ok (.ireturn, 1) := by decide +kernel
theorem dX10_looked_0 : decode cX10_looked 0 = .ok (.aload_n 0, 1) := by decide +kernel
theorem dX10_looked_1 : decode cX10_looked 1 = .ok (.invokevirtual 366, 3) := by decide +kernel
theorem dX10_looked_10 : decode cX10_looked 10 = .ok (.aload_n 0, 1) := by decide +kernel
theorem dX10_looked_11 : decode cX10_looked 11 = .ok (.getfield 117, 3) := by decide +kernel
theorem dX10_looked_14 : decode cX10_looked 14 = .ok (.aload_n 0, 1) := by decide +kernel
theorem dX10_looked_15 : decode cX10_looked 15 = .ok (.getfield 13, 3) := by decide +kernel
theorem dX10_looked_18 : decode cX10_looked 18 = .ok (.invokevirtual 360, 3) := by decide +kernel
theorem dX10_looked_21 : decode cX10_looked 21 = .ok (.istore_n 1, 1) := by decide +kernel
theorem dX10_looked_22 : decode cX10_looked 22 = .ok (.iconst 0, 1) := by decide +kernel
theorem dX10_looked_23 : decode cX10_looked 23 = .ok (.istore_n 2, 1) := by decide +kernel
theorem dX10_looked_24 : decode cX10_looked 24 = .ok (.iload_n 2, 1) := by decide +kernel
theorem dX10_looked_25 : decode cX10_looked 25 = .ok (.aload_n 0, 1) := by decide +kernel
theorem dX10_looked_26 : decode cX10_looked 26 = .ok (.getfield 141, 3) := by decide +kernel
theorem dX10_looked_29 : decode cX10_looked 29 = .ok (.if_icmp .ge 31, 3) := by decide +kernel
theorem dX10_looked_4 : decode cX10_looked 4 = .ok (.aload_n 0, 1) := by decide +kernel
theorem dX10_looked_5 : decode cX10_looked 5 = .ok (.invokevirtual 344, 3) := by decide +kernel
theorem dX10_looked_60 : decode cX10_looked 60 = .ok (.bipush (-5), 2) := by decide +kernel
theorem dX10_looked_62 : decode cX10_looked 62 = .ok (.ireturn, 1) := by decide +kernel
theorem dX10_looked_8 : decode cX10_looked 8 = .ok (.aload_n 0, 1) := by decide +kernel
theorem dX10_looked_9 : decode cX10_looked 9 = .ok (.iconst 0, 1) := by decide +kernel
theorem dX10_mean_0 : decode cX10_mean 0 = .ok (.aload_n 0, 1) := by decide +kernel
theorem dX10_mean_1 : decode cX10_mean 1 = .ok (.iload_n 1, 1) := by decide +kernel
theorem dX10_mean_10 : decode cX10_mean 10 = .ok (.ldc2_w 393, 3) := by decide +kernel
theorem dX10_mean_13 : decode cX10_mean 13 = .ok (.lreturn, 1) := by decide +kernel
theorem dX10_mean_14 : decode cX10_mean 14 = .ok (.aload_n 0, 1) := by decide +kernel
theorem dX10_mean_15 : decode cX10_mean 15 = .ok (.getfield 19, 3) := by decide +kernel
theorem dX10_mean_18 : decode cX10_mean 18 = .ok (.istore_n 2, 1) := by decide +kernel
theorem dX10_mean_19 : decode cX10_mean 19 = .ok (.iconst 0, 1) := by decide +kernel
theorem dX10_mean_2 : decode cX10_mean 2 = .ok (.iconst 0, 1) := by decide +kernel
theorem dX10_mean_20 : decode cX10_mean 20 = .ok (.istore_n 3, 1) := by decide +kernel
theorem dX10_mean_21 : decode cX10_mean 21 = .ok (.iconst 0, 1) := by decide +kernel
theorem dX10_mean_22 : decode cX10_mean 22 = .ok (.istore 4, 2) := by decide +kernel
theorem dX10_mean_24 : decode cX10_mean 24 = .ok (.iload 4, 2) := by decide +kernel
theorem dX10_mean_26 : decode cX10_mean 26 = .ok (.bipush 10, 2) := by decide +kernel
theorem dX10_mean_28 : decode cX10_mean 28 = .ok (.if_icmp .ge 25, 3) := by decide +kernel
theorem dX10_mean_3 : decode cX10_mean 3 = .ok (.iconst 1, 1) := by decide +kernel
theorem dX10_mean_31 : decode cX10_mean 31 = .ok (.aload_n 0, 1) := by decide +kernel
theorem dX10_mean_32 : decode cX10_mean 32 = .ok (.iload_n 2, 1) := by decide +kernel
theorem dX10_mean_33 : decode cX10_mean 33 = .ok (.iload 4, 2) := by decide +kernel
theorem dX10_mean_35 : decode cX10_mean 35 = .ok (.iadd, 1) := by decide +kernel
theorem dX10_mean_36 : decode cX10_mean 36 = .ok (.putfield 19, 3) := by decide +kernel
theorem dX10_mean_39 : decode cX10_mean 39 = .ok (.iload_n 3, 1) := by decide +kernel
theorem dX10_mean_4 : decode cX10_mean 4 = .ok (.invokevirtual 242, 3) := by decide +kernel
theorem dX10_mean_40 : decode cX10_mean 40 = .ok (.aload_n 0, 1) := by decide +kernel
theorem dX10_mean_41 : decode cX10_mean 41 = .ok (.iconst 0, 1) := by decide +kernel
theorem dX10_mean_42 : decode cX10_mean 42 = .ok (.invokevirtual 372, 3) := by decide +kernel
theorem dX10_mean_45 : decode cX10_mean 45 = .ok (.iadd, 1) := by decide +kernel
theorem dX10_mean_46 : decode cX10_mean 46 = .ok (.istore_n 3, 1) := by decide +kernel
theorem dX10_mean_47 : decode cX10_mean 47 = .ok (.iinc 4 1, 3) := by decide +kernel
theorem dX10_mean_50 : decode cX10_mean 50 = .ok (.goto (-26), 3) := by decide +kernel
theorem dX10_mean_53 : decode cX10_mean 53 = .ok (.aload_n 0, 1) := by decide +kernel
theorem dX10_mean_54 : decode cX10_mean 54 = .ok (.iload_n 2, 1) := by decide +kernel
theorem dX10_mean_55 : decode cX10_mean 55 = .ok (.putfield 19, 3) := by decide +kernel
theorem dX10_mean_58 : decode cX10_mean 58 = .ok (.aload_n 0, 1) := by decide +kernel
theorem dX10_mean_59 : decode cX10_mean 59 = .ok (.iload_n 3, 1) := by decide +kernel
theorem dX10_mean_60 : decode cX10_mean 60 = .ok (.bipush 10, 2) := by decide +kernel
theorem dX10_mean_62 : decode cX10_mean 62 = .ok (.iload_n 1, 1) := by decide +kernel
theorem dX10_mean_63 : decode cX10_mean 63 = .ok (.invokevirtual 395, 3) := by decide +kernel
theorem dX10_mean_66 : decode cX10_mean 66 = .ok (.lreturn, 1) := by decide +kernel
theorem dX10_mean_7 : decode cX10_mean 7 = .ok (.ifCond .ne 7, 3) := by decide +kernel
theorem dX8_isNothing_0 : decode cX8_isNothing 0 = .ok (.aload_n 0, 1) := by decide +kernel
theorem dX8_isNothing_1 : decode cX8_isNothing 1 = .ok (.getfield 9, 3) := by decide +kernel
theorem dX8_isNothing_13 : decode cX8_isNothing 13 = .ok (.ireturn, 1) := by decide +kernel
theorem dX8_isNothing_4 : decode cX8_isNothing 4 = .ok (.iconst (-1), 1) := by decide +kernel
theorem dX8_isNothing_5 : decode cX8_isNothing 5 = .ok (.if_icmp .ne 7, 3) := by decide +kernel
theorem dX8_isNothing_8 : decode cX8_isNothing 8 = .ok (.iconst 1, 1) := by decide +kernel
theorem dX8_isNothing_9 : decode cX8_isNothing 9 = .ok (.goto 4, 3) := by decide +kernel
theorem dX9_book_0 : decode cX9_book 0 = .ok (.aload_n 0, 1) := by decide +kernel
theorem dX9_book_1 : decode cX9_book 1 = .ok (.aload_n 0, 1) := by decide +kernel
theorem dX9_book_10 : decode cX9_book 10 = .ok (.invokevirtual 252, 3) := by decide +kernel
theorem dX9_book_13 : decode cX9_book 13 = .ok (.ireturn, 1) := by decide +kernel
theorem dX9_book_2 : decode cX9_book 2 = .ok (.getfield 31, 3) := by decide +kernel
theorem dX9_book_5 : decode cX9_book 5 = .ok (.getfield 265, 3) := by decide +kernel
theorem dX9_book_8 : decode cX9_book 8 = .ok (.iload_n 1, 1) := by decide +kernel
theorem dX9_book_9 : decode cX9_book 9 = .ok (.iload_n 2, 1) := by decide +kernel
theorem dX9_greatestShared_35 : decode cX9_greatestShared 35 = .ok (.iload_n 0, 1) := by decide +kernel
theorem dX9_greatestShared_36 : decode cX9_greatestShared 36 = .ok (.ifCond .ne 11, 3) := by decide +kernel
theorem dX9_greatestShared_39 : decode cX9_greatestShared 39 = .ok (.iload_n 1, 1) := by decide +kernel
theorem dX9_greatestShared_40 : decode cX9_greatestShared 40 = .ok (.iconst 1, 1) := by decide +kernel
theorem dX9_greatestShared_41 : decode cX9_greatestShared 41 = .ok (.invokestatic 333, 3) := by decide +kernel
theorem dX9_greatestShared_44 : decode cX9_greatestShared 44 = .ok (.goto 4, 3) := by decide +kernel
theorem dX9_greatestShared_48 : decode cX9_greatestShared 48 = .ok (.ireturn, 1) := by decide +kernel
theorem dX9_isTape_0 : decode cX9_isTape 0 = .ok (.iload_n 0, 1) := by decide +kernel
theorem dX9_isTape_1 : decode cX9_isTape 1 = .ok (.iconst 0, 1) := by decide +kernel
theorem dX9_isTape_2 : decode cX9_isTape 2 = .ok (.iconst 5, 1) := by decide +kernel
theorem dX9_isTape_3 : decode cX9_isTape 3 = .ok (.invokestatic 68, 3) := by decide +kernel
theorem dX9_isTape_6 : decode cX9_isTape 6 = .ok (.ireturn, 1) := by decide +kernel
theorem dX9_judge_0 : decode cX9_judge 0 = .ok (.iload_n 1, 1) := by decide +kernel
theorem dX9_judge_1 : decode cX9_judge 1 = .ok (.invokestatic 271, 3) := by decide +kernel
theorem dX9_judge_10 : decode cX9_judge 10 = .ok (.getfield 60, 3) := by decide +kernel
theorem dX9_judge_118 : decode cX9_judge 118 = .ok (.bipush (-5), 2) := by decide +kernel
theorem dX9_judge_120 : decode cX9_judge 120 = .ok (.ireturn, 1) := by decide +kernel
theorem dX9_judge_13 : decode cX9_judge 13 = .ok (.iload_n 1, 1) := by decide +kernel
theorem dX9_judge_14 : decode cX9_judge 14 = .ok (.aaload, 1) := by decide +kernel
theorem dX9_judge_15 : decode cX9_judge 15 = .ok (.astore_n 3, 1) := by decide +kernel
theorem dX9_judge_16 : decode cX9_judge 16 = .ok (.aload_n 3, 1) := by decide +kernel
theorem dX9_judge_17 : decode cX9_judge 17 = .ok (.invokevirtual 274, 3) := by decide +kernel
theorem dX9_judge_20 : decode cX9_judge 20 = .ok (.ifCond .ne 14, 3) := by decide +kernel
theorem dX9_judge_34 : decode cX9_judge 34 = .ok (.iconst 0, 1) := by decide +kernel
theorem dX9_judge_35 : decode cX9_judge 35 = .ok (.istore 4, 2) := by decide +kernel
theorem dX9_judge_37 : decode cX9_judge 37 = .ok (.iload 4, 2) := by decide +kernel
theorem dX9_judge_39 : decode cX9_judge 39 = .ok (.aload_n 0, 1) := by decide +kernel
theorem dX9_judge_4 : decode cX9_judge 4 = .ok (.ifCond .ne 5, 3) := by decide +kernel
theorem dX9_judge_40 : decode cX9_judge 40 = .ok (.getfield 31, 3) := by decide +kernel
theorem dX9_judge_43 : decode cX9_judge 43 = .ok (.getfield 76, 3) := by decide +kernel
theorem dX9_judge_46 : decode cX9_judge 46 = .ok (.if_icmp .ge 72, 3) := by decide +kernel
theorem dX9_judge_7 : decode cX9_judge 7 = .ok (.iconst (-1), 1) := by decide +kernel
theorem dX9_judge_8 : decode cX9_judge 8 = .ok (.ireturn, 1) := by decide +kernel
theorem dX9_judge_9 : decode cX9_judge 9 = .ok (.aload_n 0, 1) := by decide +kernel
theorem dX9_looked_0 : decode cX9_looked 0 = .ok (.aload_n 0, 1) := by decide +kernel
theorem dX9_looked_1 : decode cX9_looked 1 = .ok (.getfield 47, 3) := by decide +kernel
theorem dX9_looked_11 : decode cX9_looked 11 = .ok (.iconst 0, 1) := by decide +kernel
theorem dX9_looked_12 : decode cX9_looked 12 = .ok (.invokevirtual 199, 3) := by decide +kernel
theorem dX9_looked_15 : decode cX9_looked 15 = .ok (.pop, 1) := by decide +kernel
theorem dX9_looked_16 : decode cX9_looked 16 = .ok (.iconst 0, 1) := by decide +kernel
theorem dX9_looked_17 : decode cX9_looked 17 = .ok (.istore_n 1, 1) := by decide +kernel
theorem dX9_looked_18 : decode cX9_looked 18 = .ok (.iload_n 1, 1) := by decide +kernel
theorem dX9_looked_19 : decode cX9_looked 19 = .ok (.aload_n 0, 1) := by decide +kernel
theorem dX9_looked_20 : decode cX9_looked 20 = .ok (.getfield 31, 3) := by decide +kernel
theorem dX9_looked_23 : decode cX9_looked 23 = .ok (.getfield 265, 3) := by decide +kernel
theorem dX9_looked_26 : decode cX9_looked 26 = .ok (.getfield 232, 3) := by decide +kernel
theorem dX9_looked_29 : decode cX9_looked 29 = .ok (.if_icmp .ge 46, 3) := by decide +kernel
theorem dX9_looked_4 : decode cX9_looked 4 = .ok (.invokevirtual 127, 3) := by decide +kernel
theorem dX9_looked_7 : decode cX9_looked 7 = .ok (.aload_n 0, 1) := by decide +kernel
theorem dX9_looked_75 : decode cX9_looked 75 = .ok (.bipush (-5), 2) := by decide +kernel
theorem dX9_looked_77 : decode cX9_looked 77 = .ok (.ireturn, 1) := by decide +kernel
theorem dX9_looked_8 : decode cX9_looked 8 = .ok (.getfield 47, 3) := by decide +kernel
theorem dX9_mean_0 : decode cX9_mean 0 = .ok (.iload_n 1, 1) := by decide +kernel
theorem dX9_mean_1 : decode cX9_mean 1 = .ok (.iconst 0, 1) := by decide +kernel
theorem dX9_mean_12 : decode cX9_mean 12 = .ok (.lreturn, 1) := by decide +kernel
theorem dX9_mean_13 : decode cX9_mean 13 = .ok (.aload_n 0, 1) := by decide +kernel
theorem dX9_mean_14 : decode cX9_mean 14 = .ok (.getfield 47, 3) := by decide +kernel
theorem dX9_mean_17 : decode cX9_mean 17 = .ok (.invokevirtual 127, 3) := by decide +kernel
theorem dX9_mean_2 : decode cX9_mean 2 = .ok (.iconst 1, 1) := by decide +kernel
theorem dX9_mean_20 : decode cX9_mean 20 = .ok (.aload_n 0, 1) := by decide +kernel
theorem dX9_mean_21 : decode cX9_mean 21 = .ok (.getfield 47, 3) := by decide +kernel
theorem dX9_mean_24 : decode cX9_mean 24 = .ok (.iconst 0, 1) := by decide +kernel
theorem dX9_mean_25 : decode cX9_mean 25 = .ok (.invokevirtual 199, 3) := by decide +kernel
theorem dX9_mean_28 : decode cX9_mean 28 = .ok (.pop, 1) := by decide +kernel
theorem dX9_mean_29 : decode cX9_mean 29 = .ok (.iconst 0, 1) := by decide +kernel
theorem dX9_mean_3 : decode cX9_mean 3 = .ok (.invokestatic 68, 3) := by decide +kernel
theorem dX9_mean_30 : decode cX9_mean 30 = .ok (.istore_n 2, 1) := by decide +kernel
theorem dX9_mean_31 : decode cX9_mean 31 = .ok (.iconst 0, 1) := by decide +kernel
theorem dX9_mean_32 : decode cX9_mean 32 = .ok (.istore_n 3, 1) := by decide +kernel
theorem dX9_mean_33 : decode cX9_mean 33 = .ok (.iload_n 3, 1) := by decide +kernel
theorem dX9_mean_34 : decode cX9_mean 34 = .ok (.bipush 10, 2) := by decide +kernel
theorem dX9_mean_36 : decode cX9_mean 36 = .ok (.if_icmp .ge 35, 3) := by decide +kernel
theorem dX9_mean_39 : decode cX9_mean 39 = .ok (.aload_n 0, 1) := by decide +kernel
theorem dX9_mean_40 : decode cX9_mean 40 = .ok (.getfield 47, 3) := by decide +kernel
theorem dX9_mean_43 : decode cX9_mean 43 = .ok (.aload_n 0, 1) := by decide +kernel
theorem dX9_mean_44 : decode cX9_mean 44 = .ok (.getfield 31, 3) := by decide +kernel
theorem dX9_mean_47 : decode cX9_mean 47 = .ok (.getfield 140, 3) := by decide +kernel
theorem dX9_mean_50 : decode cX9_mean 50 = .ok (.iload_n 3, 1) := by decide +kernel
theorem dX9_mean_51 : decode cX9_mean 51 = .ok (.iadd, 1) := by decide +kernel
theorem dX9_mean_52 : decode cX9_mean 52 = .ok (.putfield 248, 3) := by decide +kernel
theorem dX9_mean_55 : decode cX9_mean 55 = .ok (.iload_n 2, 1) := by decide +kernel
theorem dX9_mean_56 : decode cX9_mean 56 = .ok (.aload_n 0, 1) := by decide +kernel
theorem dX9_mean_57 : decode cX9_mean 57 = .ok (.getfield 47, 3) := by decide +kernel
theorem dX9_mean_6 : decode cX9_mean 6 = .ok (.ifCond .ne 7, 3) := by decide +kernel
theorem dX9_mean_60 : decode cX9_mean 60 = .ok (.invokevirtual 202, 3) := by decide +kernel
theorem dX9_mean_63 : decode cX9_mean 63 = .ok (.iadd, 1) := by decide +kernel
theorem dX9_mean_64 : decode cX9_mean 64 = .ok (.istore_n 2, 1) := by decide +kernel
theorem dX9_mean_65 : decode cX9_mean 65 = .ok (.iinc 3 1, 3) := by decide +kernel
theorem dX9_mean_68 : decode cX9_mean 68 = .ok (.goto (-35), 3) := by decide +kernel
theorem dX9_mean_71 : decode cX9_mean 71 = .ok (.iload_n 2, 1) := by decide +kernel
theorem dX9_mean_72 : decode cX9_mean 72 = .ok (.bipush 10, 2) := by decide +kernel
theorem dX9_mean_74 : decode cX9_mean 74 = .ok (.iload_n 1, 1) := by decide +kernel
theorem dX9_mean_75 : decode cX9_mean 75 = .ok (.invokestatic 261, 3) := by decide +kernel
theorem dX9_mean_78 : decode cX9_mean 78 = .ok (.lreturn, 1) := by decide +kernel
theorem dX9_mean_9 : decode cX9_mean 9 = .ok (.ldc2_w 259, 3) := by decide +kernel
set_option maxHeartbeats 8000000 in
set_option maxRecDepth 100000 in
theorem zc_X1_cost_9 (l : Launch) (D : va_G) (y : Nat → ClassId) (a0 : Nat) (a1 : Nat) (w2 : Value) (w3 : Value) (w4 : Value) (w5 : Value) (w6 : Value) (w7 : Value) (w8 : Value) (w9 : Value) (w10 : Value) (w11 : Value) (w12 : Value) (w13 : Value) (w14 : Value) (a15 : Nat) (w16 : Value) (w17 : Value) (w18 : Value) (w19 : Value) (w20 : Value) (w21 : Value) (w22 : Value) (w23 : Value) (w24 : Value) (w25 : Value) : zM l D y yX1_cost (Cond.code yX1_cost cX1_cost 1 (some .int) :: zT) { frames := 1, cells := 0, slots := 0, locals := 24 } [.ref a0] [(a0, .inr (1, [.ref a1, w2, .int 27, w3, w4, w5, w6, w7, w8])), (a1, .inr (6, [w9, .int 0, w10, w11, .int 0, w12, w13, w14, .ref a15, w16, w17, w18])), (a15, .inr (2, [w19, .int 15, w20, w21, w22, w23, w24, w25]))] (zQi (S := Unit) D (fun r_ _ => r_ = 0) (fun _ => [(a0, .inr (1, [.ref a1, w2, .int 27, w3, w4, w5, w6, w7, w8])), (a1, .inr (6, [w9, .int 0, w10, w11, .int 0, w12, w13, w14, .ref a15, w16, w17, w18])), (a15, .inr (2, [w19, .int 15, w20, w21, w22, w23, w24, w25]))])) := by
  refine zent (cc := cX1_cost) (maxL := 1) (ret := (some .int)) (by decide) (Nat.le_of_ble_eq_true rfl) ?_
  intro p e s m below meth c A H locs ls hx hb hml hr ht hown hlocks hin hA hK hE hS hW hl
  have hown : s.vm.findClass RX1 = some m.cls := hown
  have hW : zPD D A [(a0, .inr (1, [.ref a1, w2, .int 27, w3, w4, w5, w6, w7, w8])), (a1, .inr (6, [w9, .int 0, w10, w11, .int 0, w12, w13, w14, .ref a15, w16, w17, w18])), (a15, .inr (2, [w19, .int 15, w20, w21, w22, w23, w24, w25]))] H := hW
  have hl : lv_has ls 1 [(0, .ref a0)] := hl
  refine lv_aload_n hx hb dX1_cost_0 rfl (lv_at hl 0 rfl) ?_
  refine lv_aload_n hx hb dX1_cost_1 rfl (lv_at hl 0 rfl) ?_
  refine zget hx hb ht inlX1 hown hK hW 0 rfl rfl 0 (by decide) zm_119 rfl dX1_cost_2 ?_
  refine zget hx hb ht inlX7 hown hK hW 1 rfl rfl 4 (by decide) zm_815 rfl dX1_cost_5 ?_
  refine lv_aload_n hx hb dX1_cost_8 rfl (lv_at hl 0 rfl) ?_
  refine zgo_i (wr := []) (zrunV (As := []) (rest := [.int 0, .ref a0]) ⟨hx, hb, hml, hown, ht⟩ (zc_X1_stormEnd_9 l D y a0 a1 w2 w3 w4 w5 w6 w7 w8 w9 (.int 0) w10 w11 (.int 0) w12 w13 w14 a15 w16 w17 w18 w19 w20 w21 w22 w23 w24 w25) (cwV 0 ht (zgV zm_337 zm_338 zm_339 zm_28 zm_340) rfl rfl rfl (by decide +kernel) ⟨(Nat.le_of_ble_eq_true rfl), (Nat.le_of_ble_eq_true rfl)⟩) hK hE hS hA hW [0, 1, 2] (by decide) rfl 0 rfl rfl rfl rfl hl.1 rfl (Nat.le_of_ble_eq_true rfl) dX1_cost_9 (Nat.le_of_ble_eq_true rfl) (Nat.le_of_ble_eq_true rfl)) hS hA hW [0, 1, 2] [] rfl rfl (by decide) (by decide) (fun r1_ u H locs hw hW hS => ?_)
  have hW : zPD D A [(a0, .inr (1, [.ref a1, w2, .int 27, w3, w4, w5, w6, w7, w8])), (a1, .inr (6, [w9, .int 0, w10, w11, .int 0, w12, w13, w14, .ref a15, w16, w17, w18])), (a15, .inr (2, [w19, .int 15, w20, w21, w22, w23, w24, w25]))] H := hW
  have hw : r1_ = 42 := hw
  subst hw
  refine zgo_i (wr := [(a15, .inr (2, [w19, .int 15, w20, w21, w22, w23, w24, w25]))]) (zrunV (As := [.int 0, .int 42]) (rest := []) ⟨hx, hb, hml, hown, ht⟩ (zc_X1_harmOfAll_9 l D y a0 a1 w2 (.int 27) w3 w4 w5 w6 w7 w8 w9 w10 w11 (.int 0) w12 w13 w14 (.ref a15) w16 w17 w18) (cwV 2 ht (zgV zm_831 zm_733 zm_734 zm_28 zm_735) rfl rfl rfl (by decide +kernel) ⟨(Nat.le_of_ble_eq_true rfl), (Nat.le_of_ble_eq_true rfl)⟩) hK hE hS hA hW [0, 1] (by decide) rfl 0 rfl rfl rfl rfl hl.1 rfl (Nat.le_of_ble_eq_true rfl) dX1_cost_12 (Nat.le_of_ble_eq_true rfl) (Nat.le_of_ble_eq_true rfl)) hS hA hW [0, 1] [2] rfl rfl (by decide) (by decide) (fun r2_ u H locs hw hW hS => ?_)
  have hW : zPD D A [(a15, .inr (2, [w19, .int 15, w20, w21, w22, w23, w24, w25])), (a0, .inr (1, [.ref a1, w2, .int 27, w3, w4, w5, w6, w7, w8])), (a1, .inr (6, [w9, .int 0, w10, w11, .int 0, w12, w13, w14, .ref a15, w16, w17, w18]))] H := hW
  have hw : r2_ = 0 := hw
  subst hw
  exact zret_i (v := 0) hx hb hr hlocks hS () rfl (hW.sub [1, 2, 0] (by decide) rfl) (Nat.le_of_ble_eq_true rfl) (Nat.le_of_ble_eq_true rfl) dX1_cost_15
set_option maxHeartbeats 8000000 in
set_option maxRecDepth 100000 in
theorem zc_X1_stormEnd_10 (l : Launch) (D : va_G) (y : Nat → ClassId) (a0 : Nat) (a1 : Nat) (w2 : Value) (w3 : Value) (w4 : Value) (w5 : Value) (w6 : Value) (w7 : Value) (w8 : Value) (w9 : Value) (w10 : Value) (w11 : Value) (w12 : Value) (w13 : Value) (w14 : Value) (w15 : Value) (w16 : Value) (a17 : Nat) (w18 : Value) (w19 : Value) (w20 : Value) (w21 : Value) (w22 : Value) (w23 : Value) (w24 : Value) (w25 : Value) (w26 : Value) (w27 : Value) : zM l D y yX1_stormEnd (Cond.code yX1_stormEnd cX1_stormEnd 1 (some .int) :: zT) { frames := 0, cells := 0, slots := 0, locals := 0 } [.ref a0] [(a0, .inr (1, [.ref a1, w2, .int 28, w3, w4, w5, w6, w7, w8])), (a1, .inr (6, [w9, w10, w11, w12, w13, w14, w15, w16, .ref a17, w18, w19, w20])), (a17, .inr (2, [w21, .int 15, w22, w23, w24, w25, w26, w27]))] (zQi (S := Unit) D (fun r_ _ => r_ = 43) (fun _ => [(a0, .inr (1, [.ref a1, w2, .int 28, w3, w4, w5, w6, w7, w8])), (a1, .inr (6, [w9, w10, w11, w12, w13, w14, w15, w16, .ref a17, w18, w19, w20])), (a17, .inr (2, [w21, .int 15, w22, w23, w24, w25, w26, w27]))])) := by
  refine zent (cc := cX1_stormEnd) (maxL := 1) (ret := (some .int)) (by decide) (Nat.le_of_ble_eq_true rfl) ?_
  intro p e s m below meth c A H locs ls hx hb hml hr ht hown hlocks hin hA hK hE hS hW hl
  have hown : s.vm.findClass RX1 = some m.cls := hown
  have hW : zPD D A [(a0, .inr (1, [.ref a1, w2, .int 28, w3, w4, w5, w6, w7, w8])), (a1, .inr (6, [w9, w10, w11, w12, w13, w14, w15, w16, .ref a17, w18, w19, w20])), (a17, .inr (2, [w21, .int 15, w22, w23, w24, w25, w26, w27]))] H := hW
  have hl : lv_has ls 1 [(0, .ref a0)] := hl
  refine lv_aload_n hx hb dX1_stormEnd_0 rfl (lv_at hl 0 rfl) ?_
  refine zget hx hb ht inlX1 hown hK hW 0 rfl rfl 2 (by decide) zm_110 rfl dX1_stormEnd_1 ?_
  refine lv_aload_n hx hb dX1_stormEnd_4 rfl (lv_at hl 0 rfl) ?_
  refine zget hx hb ht inlX1 hown hK hW 0 rfl rfl 0 (by decide) zm_119 rfl dX1_stormEnd_5 ?_
  refine zget hx hb ht inlX7 hown hK hW 1 rfl rfl 8 (by decide) zm_290 rfl dX1_stormEnd_8 ?_
  refine zget hx hb ht inlX2 hown hK hW 2 rfl rfl 1 (by decide) zm_291 rfl dX1_stormEnd_11 ?_
  refine lv_iadd hx hb dX1_stormEnd_14 ?_
  refine ztop (w := .int 43) (congrArg Value.int (by decide)) ?_
  exact zret_i (v := 43) hx hb hr hlocks hS () rfl hW (Nat.le_of_ble_eq_true rfl) (Nat.le_of_ble_eq_true rfl) dX1_stormEnd_15
set_option maxHeartbeats 8000000 in
set_option maxRecDepth 100000 in
theorem zc_X1_harmOfAll_10 (l : Launch) (D : va_G) (y : Nat → ClassId) (a0 : Nat) (a1 : Nat) (w2 : Value) (w3 : Value) (w4 : Value) (w5 : Value) (w6 : Value) (w7 : Value) (w8 : Value) (w9 : Value) (w10 : Value) (w11 : Value) (w12 : Value) (w13 : Value) (w14 : Value) (w15 : Value) (w16 : Value) (w17 : Value) (w18 : Value) (w19 : Value) (w20 : Value) : zM l D y yX1_harmOfAll (Cond.code yX1_harmOfAll cX1_harmOfAll 5 (some .int) :: zT) { frames := 0, cells := 0, slots := 0, locals := 0 } [.ref a0, .int 0, .int 43] [(a0, .inr (1, [.ref a1, w2, w3, w4, w5, w6, w7, w8, w9])), (a1, .inr (6, [w10, .int 0, w11, w12, w13, w14, w15, w16, w17, w18, w19, w20]))] (zQi (S := Unit) D (fun r_ _ => r_ = 0) (fun _ => [(a0, .inr (1, [.ref a1, w2, w3, w4, w5, w6, w7, w8, w9])), (a1, .inr (6, [w10, .int 0, w11, w12, w13, w14, w15, w16, w17, w18, w19, w20]))])) := by
  refine zent (cc := cX1_harmOfAll) (maxL := 5) (ret := (some .int)) (by decide) (Nat.le_of_ble_eq_true rfl) ?_
  intro p e s m below meth c A H locs ls hx hb hml hr ht hown hlocks hin hA hK hE hS hW hl
  have hown : s.vm.findClass RX1 = some m.cls := hown
  have hW : zPD D A [(a0, .inr (1, [.ref a1, w2, w3, w4, w5, w6, w7, w8, w9])), (a1, .inr (6, [w10, .int 0, w11, w12, w13, w14, w15, w16, w17, w18, w19, w20]))] H := hW
  have hl : lv_has ls 5 [(0, .ref a0), (1, .int 0), (2, .int 43)] := hl
  refine lv_iconst (v := 0) hx hb dX1_harmOfAll_0 (by decide) ?_
  refine lv_istore_n (lv' := [(3, .int 0), (0, .ref a0), (1, .int 0), (2, .int 43)]) hx hb dX1_harmOfAll_1 rfl hl (by decide) rfl (fun ls hl => ?_)
  refine lv_iconst (v := 0) hx hb dX1_harmOfAll_2 (by decide) ?_
  refine lv_istore (lv' := [(4, .int 0), (3, .int 0), (0, .ref a0), (1, .int 0), (2, .int 43)]) hx hb dX1_harmOfAll_3 hl (by decide) rfl (fun ls hl => ?_)
  refine lv_iload hx hb dX1_harmOfAll_5 (lv_at hl 0 rfl) ?_
  refine lv_aload_n hx hb dX1_harmOfAll_7 rfl (lv_at hl 2 rfl) ?_
  refine zget hx hb ht inlX1 hown hK hW 0 rfl rfl 0 (by decide) zm_119 rfl dX1_harmOfAll_8 ?_
  refine zget hx hb ht inlX7 hown hK hW 1 rfl rfl 1 (by decide) zm_284 rfl dX1_harmOfAll_11 ?_
  refine lv_icmp_ge (tgt := 34) hx hb dX1_harmOfAll_14 (by decide) (fun c1_ => ?_) (fun c1_ => absurd (by decide) c1_)
  refine lv_iload_n hx hb dX1_harmOfAll_34 rfl (lv_at hl 1 rfl) ?_
  exact zret_i (v := 0) hx hb hr hlocks hS () rfl hW (Nat.le_of_ble_eq_true rfl) (Nat.le_of_ble_eq_true rfl) dX1_harmOfAll_35
set_option maxHeartbeats 8000000 in
set_option maxRecDepth 100000 in
theorem zc_X1_cost_10 (l : Launch) (D : va_G) (y : Nat → ClassId) (a0 : Nat) (a1 : Nat) (w2 : Value) (w3 : Value) (w4 : Value) (w5 : Value) (w6 : Value) (w7 : Value) (w8 : Value) (w9 : Value) (w10 : Value) (w11 : Value) (w12 : Value) (w13 : Value) (w14 : Value) (a15 : Nat) (w16 : Value) (w17 : Value) (w18 : Value) (w19 : Value) (w20 : Value) (w21 : Value) (w22 : Value) (w23 : Value) (w24 : Value) (w25 : Value) : zM l D y yX1_cost (Cond.code yX1_cost cX1_cost 1 (some .int) :: zT) { frames := 1, cells := 0, slots := 0, locals := 24 } [.ref a0] [(a0, .inr (1, [.ref a1, w2, .int 28, w3, w4, w5, w6, w7, w8])), (a1, .inr (6, [w9, .int 0, w10, w11, .int 0, w12, w13, w14, .ref a15, w16, w17, w18])), (a15, .inr (2, [w19, .int 15, w20, w21, w22, w23, w24, w25]))] (zQi (S := Unit) D (fun r_ _ => r_ = 0) (fun _ => [(a0, .inr (1, [.ref a1, w2, .int 28, w3, w4, w5, w6, w7, w8])), (a1, .inr (6, [w9, .int 0, w10, w11, .int 0, w12, w13, w14, .ref a15, w16, w17, w18])), (a15, .inr (2, [w19, .int 15, w20, w21, w22, w23, w24, w25]))])) := by
  refine zent (cc := cX1_cost) (maxL := 1) (ret := (some .int)) (by decide) (Nat.le_of_ble_eq_true rfl) ?_
  intro p e s m below meth c A H locs ls hx hb hml hr ht hown hlocks hin hA hK hE hS hW hl
  have hown : s.vm.findClass RX1 = some m.cls := hown
  have hW : zPD D A [(a0, .inr (1, [.ref a1, w2, .int 28, w3, w4, w5, w6, w7, w8])), (a1, .inr (6, [w9, .int 0, w10, w11, .int 0, w12, w13, w14, .ref a15, w16, w17, w18])), (a15, .inr (2, [w19, .int 15, w20, w21, w22, w23, w24, w25]))] H := hW
  have hl : lv_has ls 1 [(0, .ref a0)] := hl
  refine lv_aload_n hx hb dX1_cost_0 rfl (lv_at hl 0 rfl) ?_
  refine lv_aload_n hx hb dX1_cost_1 rfl (lv_at hl 0 rfl) ?_
  refine zget hx hb ht inlX1 hown hK hW 0 rfl rfl 0 (by decide) zm_119 rfl dX1_cost_2 ?_
  refine zget hx hb ht inlX7 hown hK hW 1 rfl rfl 4 (by decide) zm_815 rfl dX1_cost_5 ?_
  refine lv_aload_n hx hb dX1_cost_8 rfl (lv_at hl 0 rfl) ?_
  refine zgo_i (wr := []) (zrunV (As := []) (rest := [.int 0, .ref a0]) ⟨hx, hb, hml, hown, ht⟩ (zc_X1_stormEnd_10 l D y a0 a1 w2 w3 w4 w5 w6 w7 w8 w9 (.int 0) w10 w11 (.int 0) w12 w13 w14 a15 w16 w17 w18 w19 w20 w21 w22 w23 w24 w25) (cwV 0 ht (zgV zm_337 zm_338 zm_339 zm_28 zm_340) rfl rfl rfl (by decide +kernel) ⟨(Nat.le_of_ble_eq_true rfl), (Nat.le_of_ble_eq_true rfl)⟩) hK hE hS hA hW [0, 1, 2] (by decide) rfl 0 rfl rfl rfl rfl hl.1 rfl (Nat.le_of_ble_eq_true rfl) dX1_cost_9 (Nat.le_of_ble_eq_true rfl) (Nat.le_of_ble_eq_true rfl)) hS hA hW [0, 1, 2] [] rfl rfl (by decide) (by decide) (fun r1_ u H locs hw hW hS => ?_)
  have hW : zPD D A [(a0, .inr (1, [.ref a1, w2, .int 28, w3, w4, w5, w6, w7, w8])), (a1, .inr (6, [w9, .int 0, w10, w11, .int 0, w12, w13, w14, .ref a15, w16, w17, w18])), (a15, .inr (2, [w19, .int 15, w20, w21, w22, w23, w24, w25]))] H := hW
  have hw : r1_ = 43 := hw
  subst hw
  refine zgo_i (wr := [(a15, .inr (2, [w19, .int 15, w20, w21, w22, w23, w24, w25]))]) (zrunV (As := [.int 0, .int 43]) (rest := []) ⟨hx, hb, hml, hown, ht⟩ (zc_X1_harmOfAll_10 l D y a0 a1 w2 (.int 28) w3 w4 w5 w6 w7 w8 w9 w10 w11 (.int 0) w12 w13 w14 (.ref a15) w16 w17 w18) (cwV 2 ht (zgV zm_831 zm_733 zm_734 zm_28 zm_735) rfl rfl rfl (by decide +kernel) ⟨(Nat.le_of_ble_eq_true rfl), (Nat.le_of_ble_eq_true rfl)⟩) hK hE hS hA hW [0, 1] (by decide) rfl 0 rfl rfl rfl rfl hl.1 rfl (Nat.le_of_ble_eq_true rfl) dX1_cost_12 (Nat.le_of_ble_eq_true rfl) (Nat.le_of_ble_eq_true rfl)) hS hA hW [0, 1] [2] rfl rfl (by decide) (by decide) (fun r2_ u H locs hw hW hS => ?_)
  have hW : zPD D A [(a15, .inr (2, [w19, .int 15, w20, w21, w22, w23, w24, w25])), (a0, .inr (1, [.ref a1, w2, .int 28, w3, w4, w5, w6, w7, w8])), (a1, .inr (6, [w9, .int 0, w10, w11, .int 0, w12, w13, w14, .ref a15, w16, w17, w18]))] H := hW
  have hw : r2_ = 0 := hw
  subst hw
  exact zret_i (v := 0) hx hb hr hlocks hS () rfl (hW.sub [1, 2, 0] (by decide) rfl) (Nat.le_of_ble_eq_true rfl) (Nat.le_of_ble_eq_true rfl) dX1_cost_15
set_option maxHeartbeats 8000000 in
set_option maxRecDepth 100000 in
theorem zc_X1_stormEnd_11 (l : Launch) (D : va_G) (y : Nat → ClassId) (a0 : Nat) (a1 : Nat) (w2 : Value) (w3 : Value) (w4 : Value) (w5 : Value) (w6 : Value) (w7 : Value) (w8 : Value) (w9 : Value) (w10 : Value) (w11 : Value) (w12 : Value) (w13 : Value) (w14 : Value) (w15 : Value) (w16 : Value) (a17 : Nat) (w18 : Value) (w19 : Value) (w20 : Value) (w21 : Value) (w22 : Value) (w23 : Value) (w24 : Value) (w25 : Value) (w26 : Value) (w27 : Value) : zM l D y yX1_stormEnd (Cond.code yX1_stormEnd cX1_stormEnd 1 (some .int) :: zT) { frames := 0, cells := 0, slots := 0, locals := 0 } [.ref a0] [(a0, .inr (1, [.ref a1, w2, .int 29, w3, w4, w5, w6, w7, w8])), (a1, .inr (6, [w9, w10, w11, w12, w13, w14, w15, w16, .ref a17, w18, w19, w20])), (a17, .inr (2, [w21, .int 15, w22, w23, w24, w25, w26, w27]))] (zQi (S := Unit) D (fun r_ _ => r_ = 44) (fun _ => [(a0, .inr (1, [.ref a1, w2, .int 29, w3, w4, w5, w6, w7, w8])), (a1, .inr (6, [w9, w10, w11, w12, w13, w14, w15, w16, .ref a17, w18, w19, w20])), (a17, .inr (2, [w21, .int 15, w22, w23, w24, w25, w26, w27]))])) := by
  refine zent (cc := cX1_stormEnd) (maxL := 1) (ret := (some .int)) (by decide) (Nat.le_of_ble_eq_true rfl) ?_
  intro p e s m below meth c A H locs ls hx hb hml hr ht hown hlocks hin hA hK hE hS hW hl
  have hown : s.vm.findClass RX1 = some m.cls := hown
  have hW : zPD D A [(a0, .inr (1, [.ref a1, w2, .int 29, w3, w4, w5, w6, w7, w8])), (a1, .inr (6, [w9, w10, w11, w12, w13, w14, w15, w16, .ref a17, w18, w19, w20])), (a17, .inr (2, [w21, .int 15, w22, w23, w24, w25, w26, w27]))] H := hW
  have hl : lv_has ls 1 [(0, .ref a0)] := hl
  refine lv_aload_n hx hb dX1_stormEnd_0 rfl (lv_at hl 0 rfl) ?_
  refine zget hx hb ht inlX1 hown hK hW 0 rfl rfl 2 (by decide) zm_110 rfl dX1_stormEnd_1 ?_
  refine lv_aload_n hx hb dX1_stormEnd_4 rfl (lv_at hl 0 rfl) ?_
  refine zget hx hb ht inlX1 hown hK hW 0 rfl rfl 0 (by decide) zm_119 rfl dX1_stormEnd_5 ?_
  refine zget hx hb ht inlX7 hown hK hW 1 rfl rfl 8 (by decide) zm_290 rfl dX1_stormEnd_8 ?_
  refine zget hx hb ht inlX2 hown hK hW 2 rfl rfl 1 (by decide) zm_291 rfl dX1_stormEnd_11 ?_
  refine lv_iadd hx hb dX1_stormEnd_14 ?_
  refine ztop (w := .int 44) (congrArg Value.int (by decide)) ?_
  exact zret_i (v := 44) hx hb hr hlocks hS () rfl hW (Nat.le_of_ble_eq_true rfl) (Nat.le_of_ble_eq_true rfl) dX1_stormEnd_15
set_option maxHeartbeats 8000000 in
set_option maxRecDepth 100000 in
theorem zc_X1_harmOfAll_11 (l : Launch) (D : va_G) (y : Nat → ClassId) (a0 : Nat) (a1 : Nat) (w2 : Value) (w3 : Value) (w4 : Value) (w5 : Value) (w6 : Value) (w7 : Value) (w8 : Value) (w9 : Value) (w10 : Value) (w11 : Value) (w12 : Value) (w13 : Value) (w14 : Value) (w15 : Value) (w16 : Value) (w17 : Value) (w18 : Value) (w19 : Value) (w20 : Value) : zM l D y yX1_harmOfAll (Cond.code yX1_harmOfAll cX1_harmOfAll 5 (some .int) :: zT) { frames := 0, cells := 0, slots := 0, locals := 0 } [.ref a0, .int 0, .int 44] [(a0, .inr (1, [.ref a1, w2, w3, w4, w5, w6, w7, w8, w9])), (a1, .inr (6, [w10, .int 0, w11, w12, w13, w14, w15, w16, w17, w18, w19, w20]))] (zQi (S := Unit) D (fun r_ _ => r_ = 0) (fun _ => [(a0, .inr (1, [.ref a1, w2, w3, w4, w5, w6, w7, w8, w9])), (a1, .inr (6, [w10, .int 0, w11, w12, w13, w14, w15, w16, w17, w18, w19, w20]))])) := by
  refine zent (cc := cX1_harmOfAll) (maxL := 5) (ret := (some .int)) (by decide) (Nat.le_of_ble_eq_true rfl) ?_
  intro p e s m below meth c A H locs ls hx hb hml hr ht hown hlocks hin hA hK hE hS hW hl
  have hown : s.vm.findClass RX1 = some m.cls := hown
  have hW : zPD D A [(a0, .inr (1, [.ref a1, w2, w3, w4, w5, w6, w7, w8, w9])), (a1, .inr (6, [w10, .int 0, w11, w12, w13, w14, w15, w16, w17, w18, w19, w20]))] H := hW
  have hl : lv_has ls 5 [(0, .ref a0), (1, .int 0), (2, .int 44)] := hl
  refine lv_iconst (v := 0) hx hb dX1_harmOfAll_0 (by decide) ?_
  refine lv_istore_n (lv' := [(3, .int 0), (0, .ref a0), (1, .int 0), (2, .int 44)]) hx hb dX1_harmOfAll_1 rfl hl (by decide) rfl (fun ls hl => ?_)
  refine lv_iconst (v := 0) hx hb dX1_harmOfAll_2 (by decide) ?_
  refine lv_istore (lv' := [(4, .int 0), (3, .int 0), (0, .ref a0), (1, .int 0), (2, .int 44)]) hx hb dX1_harmOfAll_3 hl (by decide) rfl (fun ls hl => ?_)
  refine lv_iload hx hb dX1_harmOfAll_5 (lv_at hl 0 rfl) ?_
  refine lv_aload_n hx hb dX1_harmOfAll_7 rfl (lv_at hl 2 rfl) ?_
  refine zget hx hb ht inlX1 hown hK hW 0 rfl rfl 0 (by decide) zm_119 rfl dX1_harmOfAll_8 ?_
  refine zget hx hb ht inlX7 hown hK hW 1 rfl rfl 1 (by decide) zm_284 rfl dX1_harmOfAll_11 ?_
  refine lv_icmp_ge (tgt := 34) hx hb dX1_harmOfAll_14 (by decide) (fun c1_ => ?_) (fun c1_ => absurd (by decide) c1_)
  refine lv_iload_n hx hb dX1_harmOfAll_34 rfl (lv_at hl 1 rfl) ?_
  exact zret_i (v := 0) hx hb hr hlocks hS () rfl hW (Nat.le_of_ble_eq_true rfl) (Nat.le_of_ble_eq_true rfl) dX1_harmOfAll_35
set_option maxHeartbeats 8000000 in
set_option maxRecDepth 100000 in
theorem zc_X1_cost_11 (l : Launch) (D : va_G) (y : Nat → ClassId) (a0 : Nat) (a1 : Nat) (w2 : Value) (w3 : Value) (w4 : Value) (w5 : Value) (w6 : Value) (w7 : Value) (w8 : Value) (w9 : Value) (w10 : Value) (w11 : Value) (w12 : Value) (w13 : Value) (w14 : Value) (a15 : Nat) (w16 : Value) (w17 : Value) (w18 : Value) (w19 : Value) (w20 : Value) (w21 : Value) (w22 : Value) (w23 : Value) (w24 : Value) (w25 : Value) : zM l D y yX1_cost (Cond.code yX1_cost cX1_cost 1 (some .int) :: zT) { frames := 1, cells := 0, slots := 0, locals := 24 } [.ref a0] [(a0, .inr (1, [.ref a1, w2, .int 29, w3, w4, w5, w6, w7, w8])), (a1, .inr (6, [w9, .int 0, w10, w11, .int 0, w12, w13, w14, .ref a15, w16, w17, w18])), (a15, .inr (2, [w19, .int 15, w20, w21, w22, w23, w24, w25]))] (zQi (S := Unit) D (fun r_ _ => r_ = 0) (fun _ => [(a0, .inr (1, [.ref a1, w2, .int 29, w3, w4, w5, w6, w7, w8])), (a1, .inr (6, [w9, .int 0, w10, w11, .int 0, w12, w13, w14, .ref a15, w16, w17, w18])), (a15, .inr (2, [w19, .int 15, w20, w21, w22, w23, w24, w25]))])) := by
  refine zent (cc := cX1_cost) (maxL := 1) (ret := (some .int)) (by decide) (Nat.le_of_ble_eq_true rfl) ?_
  intro p e s m below meth c A H locs ls hx hb hml hr ht hown hlocks hin hA hK hE hS hW hl
  have hown : s.vm.findClass RX1 = some m.cls := hown
  have hW : zPD D A [(a0, .inr (1, [.ref a1, w2, .int 29, w3, w4, w5, w6, w7, w8])), (a1, .inr (6, [w9, .int 0, w10, w11, .int 0, w12, w13, w14, .ref a15, w16, w17, w18])), (a15, .inr (2, [w19, .int 15, w20, w21, w22, w23, w24, w25]))] H := hW
  have hl : lv_has ls 1 [(0, .ref a0)] := hl
  refine lv_aload_n hx hb dX1_cost_0 rfl (lv_at hl 0 rfl) ?_
  refine lv_aload_n hx hb dX1_cost_1 rfl (lv_at hl 0 rfl) ?_
  refine zget hx hb ht inlX1 hown hK hW 0 rfl rfl 0 (by decide) zm_119 rfl dX1_cost_2 ?_
  refine zget hx hb ht inlX7 hown hK hW 1 rfl rfl 4 (by decide) zm_815 rfl dX1_cost_5 ?_
  refine lv_aload_n hx hb dX1_cost_8 rfl (lv_at hl 0 rfl) ?_
  refine zgo_i (wr := []) (zrunV (As := []) (rest := [.int 0, .ref a0]) ⟨hx, hb, hml, hown, ht⟩ (zc_X1_stormEnd_11 l D y a0 a1 w2 w3 w4 w5 w6 w7 w8 w9 (.int 0) w10 w11 (.int 0) w12 w13 w14 a15 w16 w17 w18 w19 w20 w21 w22 w23 w24 w25) (cwV 0 ht (zgV zm_337 zm_338 zm_339 zm_28 zm_340) rfl rfl rfl (by decide +kernel) ⟨(Nat.le_of_ble_eq_true rfl), (Nat.le_of_ble_eq_true rfl)⟩) hK hE hS hA hW [0, 1, 2] (by decide) rfl 0 rfl rfl rfl rfl hl.1 rfl (Nat.le_of_ble_eq_true rfl) dX1_cost_9 (Nat.le_of_ble_eq_true rfl) (Nat.le_of_ble_eq_true rfl)) hS hA hW [0, 1, 2] [] rfl rfl (by decide) (by decide) (fun r1_ u H locs hw hW hS => ?_)
  have hW : zPD D A [(a0, .inr (1, [.ref a1, w2, .int 29, w3, w4, w5, w6, w7, w8])), (a1, .inr (6, [w9, .int 0, w10, w11, .int 0, w12, w13, w14, .ref a15, w16, w17, w18])), (a15, .inr (2, [w19, .int 15, w20, w21, w22, w23, w24, w25]))] H := hW
  have hw : r1_ = 44 := hw
  subst hw
  refine zgo_i (wr := [(a15, .inr (2, [w19, .int 15, w20, w21, w22, w23, w24, w25]))]) (zrunV (As := [.int 0, .int 44]) (rest := []) ⟨hx, hb, hml, hown, ht⟩ (zc_X1_harmOfAll_11 l D y a0 a1 w2 (.int 29) w3 w4 w5 w6 w7 w8 w9 w10 w11 (.int 0) w12 w13 w14 (.ref a15) w16 w17 w18) (cwV 2 ht (zgV zm_831 zm_733 zm_734 zm_28 zm_735) rfl rfl rfl (by decide +kernel) ⟨(Nat.le_of_ble_eq_true rfl), (Nat.le_of_ble_eq_true rfl)⟩) hK hE hS hA hW [0, 1] (by decide) rfl 0 rfl rfl rfl rfl hl.1 rfl (Nat.le_of_ble_eq_true rfl) dX1_cost_12 (Nat.le_of_ble_eq_true rfl) (Nat.le_of_ble_eq_true rfl)) hS hA hW [0, 1] [2] rfl rfl (by decide) (by decide) (fun r2_ u H locs hw hW hS => ?_)
  have hW : zPD D A [(a15, .inr (2, [w19, .int 15, w20, w21, w22, w23, w24, w25])), (a0, .inr (1, [.ref a1, w2, .int 29, w3, w4, w5, w6, w7, w8])), (a1, .inr (6, [w9, .int 0, w10, w11, .int 0, w12, w13, w14, .ref a15, w16, w17, w18]))] H := hW
  have hw : r2_ = 0 := hw
  subst hw
  exact zret_i (v := 0) hx hb hr hlocks hS () rfl (hW.sub [1, 2, 0] (by decide) rfl) (Nat.le_of_ble_eq_true rfl) (Nat.le_of_ble_eq_true rfl) dX1_cost_15
set_option maxHeartbeats 8000000 in
set_option maxRecDepth 100000 in
theorem zc_X9_greatestShared_1 (l : Launch) (D : va_G) (y : Nat → ClassId) : zM l D y yX9_greatestShared (Cond.code yX9_greatestShared cX9_greatestShared 3 (some .int) :: zT) { frames := 1, cells := 0, slots := 0, locals := 21 } [.int 0, .int 10] [] (zQi (S := Unit) D (fun r_ _ => r_ = 10) (fun _ => [])) := by
  refine zent (cc := cX9_greatestShared) (maxL := 3) (ret := (some .int)) (by decide) (Nat.le_of_ble_eq_true rfl) ?_
  intro p e s m below meth c A H locs ls hx hb hml hr ht hown hlocks hin hA hK hE hS hW hl
  have hown : s.vm.findClass RX9 = some m.cls := hown
  have hW : zPD D A [] H := hW
  have hl : lv_has ls 3 [(0, .int 0), (1, .int 10)] := hl
  refine lv_iload_n hx hb dX9_greatestShared_0 rfl (lv_at hl 0 rfl) ?_
  refine lv_iconst (v := 0) hx hb dX9_greatestShared_1 (by decide) ?_
  refine va_mmax hx hb (by rw [hml]; exact hl.1.symm) hown (ht _ zm_1039) (ht _ zm_90) (ht _ zm_91) (ht _ zm_92) (Nat.le_of_ble_eq_true rfl) (Nat.le_of_ble_eq_true rfl) (Nat.le_of_ble_eq_true rfl) (Nat.le_of_ble_eq_true rfl) dX9_greatestShared_2 ?_
  refine ztop (w := .int 0) (congrArg Value.int (by decide)) ?_
  refine lv_iload_n hx hb dX9_greatestShared_5 rfl (lv_at hl 1 rfl) ?_
  refine va_mmin hx hb (by rw [hml]; exact hl.1.symm) hown (ht _ zm_731) (ht _ zm_297) (ht _ zm_91) (ht _ zm_298) (Nat.le_of_ble_eq_true rfl) (Nat.le_of_ble_eq_true rfl) (Nat.le_of_ble_eq_true rfl) (Nat.le_of_ble_eq_true rfl) dX9_greatestShared_6 ?_
  refine ztop (w := .int 0) (congrArg Value.int (by decide)) ?_
  refine lv_istore_n (lv' := [(2, .int 0), (0, .int 0), (1, .int 10)]) hx hb dX9_greatestShared_9 rfl hl (by decide) rfl (fun ls hl => ?_)
  refine lv_iload_n hx hb dX9_greatestShared_10 rfl (lv_at hl 0 rfl) ?_
  refine lv_iconst (v := 1) hx hb dX9_greatestShared_11 (by decide) ?_
  refine lv_icmp_le (tgt := 35) hx hb dX9_greatestShared_12 (by decide) (fun c1_ => ?_) (fun c1_ => absurd (by decide) c1_)
  refine lv_iload_n hx hb dX9_greatestShared_35 rfl (lv_at hl 1 rfl) ?_
  refine lv_if_ne (tgt := 47) hx hb dX9_greatestShared_36 (by decide) (fun c2_ => absurd (by decide) c2_) (fun c2_ => ?_)
  refine lv_iload_n hx hb dX9_greatestShared_39 rfl (lv_at hl 2 rfl) ?_
  refine lv_iconst (v := 1) hx hb dX9_greatestShared_40 (by decide) ?_
  refine va_mmax hx hb (by rw [hml]; exact hl.1.symm) hown (ht _ zm_1039) (ht _ zm_90) (ht _ zm_91) (ht _ zm_92) (Nat.le_of_ble_eq_true rfl) (Nat.le_of_ble_eq_true rfl) (Nat.le_of_ble_eq_true rfl) (Nat.le_of_ble_eq_true rfl) dX9_greatestShared_41 ?_
  refine ztop (w := .int 10) (congrArg Value.int (by decide)) ?_
  refine lv_goto (tgt := 48) hx hb dX9_greatestShared_44 (by decide) ?_
  exact zret_i (v := 10) hx hb hr hlocks hS () rfl hW (Nat.le_of_ble_eq_true rfl) (Nat.le_of_ble_eq_true rfl) dX9_greatestShared_48
set_option maxHeartbeats 8000000 in
set_option maxRecDepth 100000 in
theorem zc_X9_partOf_1 (l : Launch) (D : va_G) (y : Nat → ClassId) (p0 : Int32) : zM l D y yX9_partOf (Cond.code yX9_partOf cX9_partOf 4 (some .long) :: zT) { frames := 2, cells := 0, slots := 0, locals := 43 } [.int 0, .int 10, .int p0] [] (zQl (S := Unit) D (fun r_ _ => r_ = (if p0 = 0 then 0 else 1)) (fun _ => [])) := by
  refine zent (cc := cX9_partOf) (maxL := 4) (ret := (some .long)) (by decide) (Nat.le_of_ble_eq_true rfl) ?_
  intro p e s m below meth c A H locs ls hx hb hml hr ht hown hlocks hin hA hK hE hS hW hl
  have hown : s.vm.findClass RX9 = some m.cls := hown
  have hW : zPD D A [] H := hW
  have hl : lv_has ls 4 [(0, .int 0), (1, .int 10), (2, .int p0)] := hl
  refine lv_iload_n hx hb dX9_partOf_0 rfl (lv_at hl 0 rfl) ?_
  refine lv_iload_n hx hb dX9_partOf_1 rfl (lv_at hl 1 rfl) ?_
  refine zgo0_i (zrunS (As := [.int 0, .int 10]) (rest := []) ⟨hx, hb, hml, hown, ht⟩ (zc_X9_greatestShared_1 l D y) (va_cwS 2 ht (zgS zm_1036 zm_1037 zm_2 zm_1038) rfl rfl rfl (by decide +kernel) ⟨(Nat.le_of_ble_eq_true rfl), (Nat.le_of_ble_eq_true rfl)⟩) hK hE hS hA hW [] (by decide) rfl rfl hl.1 rfl (Nat.le_of_ble_eq_true rfl) dX9_partOf_2 (Nat.le_of_ble_eq_true rfl) (Nat.le_of_ble_eq_true rfl)) hS hA hW (fun r1_ u H locs hw hW hS => ?_)
  have hw : r1_ = 10 := hw
  subst hw
  refine lv_istore_n (lv' := [(3, .int 10), (0, .int 0), (1, .int 10), (2, .int p0)]) hx hb dX9_partOf_5 rfl hl (by decide) rfl (fun ls hl => ?_)
  refine lv_iload_n hx hb dX9_partOf_6 rfl (lv_at hl 3 rfl) ?_
  refine lv_if_ne (tgt := 17) hx hb dX9_partOf_7 (by decide) (fun c2_ => ?_) (fun c2_ => ?_)
  · have b3_ : (-2147483648) ≤ Int32.toInt p0 ∧ Int32.toInt p0 ≤ 2147483647 := (by have u0 := zbnd p0; have u1 := (not_congr (zi_eq _ _)).mp c2_; have u2 : (0 : Int32).toInt = 0 := (by decide); omega)
    refine lv_iload_n hx hb dX9_partOf_17 rfl (lv_at hl 2 rfl) ?_
    refine lv_iload_n hx hb dX9_partOf_18 rfl (lv_at hl 0 rfl) ?_
    refine lv_idiv hx hb dX9_partOf_19 (by decide) ?_
    refine ztop (w := .int 1) (congrArg Value.int (by decide)) ?_
    refine lv_i2l (v := 1) hx hb dX9_partOf_20 (by decide) ?_
    exact zret_l (v := 1) hx hb hr hlocks hS () (by show _ = _; rw [if_neg c2_]) hW (Nat.le_of_ble_eq_true rfl) (Nat.le_of_ble_eq_true rfl) dX9_partOf_21
  · have b4_ : 0 ≤ Int32.toInt p0 ∧ Int32.toInt p0 ≤ 0 := (by have u0 := zbnd p0; have u1 := (zi_eq _ _).mp c2_; have u2 : (0 : Int32).toInt = 0 := (by decide); omega)
    refine lv_iload_n hx hb dX9_partOf_10 rfl (lv_at hl 1 rfl) ?_
    refine lv_iload_n hx hb dX9_partOf_11 rfl (lv_at hl 0 rfl) ?_
    refine lv_idiv hx hb dX9_partOf_12 (by decide) ?_
    refine ztop (w := .int 0) (congrArg Value.int (by decide)) ?_
    refine lv_i2l (v := 0) hx hb dX9_partOf_13 (by decide) ?_
    refine lv_goto (tgt := 21) hx hb dX9_partOf_14 (by decide) ?_
    exact zret_l (v := 0) hx hb hr hlocks hS () (by show _ = _; rw [if_pos c2_]) hW (Nat.le_of_ble_eq_true rfl) (Nat.le_of_ble_eq_true rfl) dX9_partOf_21
set_option maxHeartbeats 8000000 in
set_option maxRecDepth 100000 in
theorem zc_X9_mean_0 (l : Launch) (D : va_G) (y : Nat → ClassId) (a0 : Nat) (p1 : Int32) (w2 : Value) (w3 : Value) (w4 : Value) (a5 : Nat) (w6 : Value) (w7 : Value) (a8 : Nat) (w9 : Value) (w10 : Value) (w11 : Value) (w12 : Value) (a13 : Nat) (a14 : Nat) (w15 : Value) (w16 : Value) (w17 : Value) (w18 : Value) (w19 : Value) (w20 : Value) (w21 : Value) (a22 : Nat) (w23 : Value) (w24 : Value) (w25 : Value) (w26 : Value) (w27 : Value) (w28 : Value) (w29 : Value) (w30 : Value) (w31 : Value) : zM l D y yX9_mean (Cond.code yX9_mean cX9_mean 4 (some .long) :: zT) { frames := 3, cells := 0, slots := 0, locals := 66 } [.ref a0, .int p1] [(a0, .inr (8, [w2, w3, w4, .ref a5, w6, w7, .ref a8, w9, w10])), (a5, .inr (6, [w11, .int 0, .int 20, .int 0, .int 0, w12, .int 0, .int 0, .ref a13, .ref a14, w15, w16])), (a8, .inr (1, [.ref a5, .int 0, .int 0, w17, w18, w19, w20, w21, .ref a22])), (a13, .inr (2, [w23, .int 15, w24, w25, w26, w27, w28, w29])), (a14, .inr (5, [.int 0, w30, w31])), (a22, .inl (y 2, 4, .inl (fun _ => 0)))] (zQl (S := Unit) D (fun r_ _ => r_ = (if p1 < 0 then (-9223372036854775808) else (if 1 < p1 then (-9223372036854775808) else (if p1 = 0 then 0 else 1)))) (fun _ => [])) := by
  refine zent (cc := cX9_mean) (maxL := 4) (ret := (some .long)) (by decide) (Nat.le_of_ble_eq_true rfl) ?_
  intro p e s m below meth c A H locs ls hx hb hml hr ht hown hlocks hin hA hK hE hS hW hl
  have hown : s.vm.findClass RX9 = some m.cls := hown
  have hW : zPD D A [(a0, .inr (8, [w2, w3, w4, .ref a5, w6, w7, .ref a8, w9, w10])), (a5, .inr (6, [w11, .int 0, .int 20, .int 0, .int 0, w12, .int 0, .int 0, .ref a13, .ref a14, w15, w16])), (a8, .inr (1, [.ref a5, .int 0, .int 0, w17, w18, w19, w20, w21, .ref a22])), (a13, .inr (2, [w23, .int 15, w24, w25, w26, w27, w28, w29])), (a14, .inr (5, [.int 0, w30, w31])), (a22, .inl (y 2, 4, .inl (fun _ => 0)))] H := hW
  have hl : lv_has ls 4 [(0, .ref a0), (1, .int p1)] := hl
  refine lv_iload_n hx hb dX9_mean_0 rfl (lv_at hl 1 rfl) ?_
  refine lv_iconst (v := 0) hx hb dX9_mean_1 (by decide) ?_
  refine lv_iconst (v := 1) hx hb dX9_mean_2 (by decide) ?_
  refine zgo0_i (zrunS (As := [.int p1, .int 0, .int 1]) (rest := []) ⟨hx, hb, hml, hown, ht⟩ (zc_X9_within_10 l D y p1) (va_cwS 3 ht (zgS zm_222 zm_223 zm_2 zm_224) rfl rfl rfl (by decide +kernel) ⟨(Nat.le_of_ble_eq_true rfl), (Nat.le_of_ble_eq_true rfl)⟩) hK hE hS hA hW [] (by decide) rfl rfl hl.1 rfl (Nat.le_of_ble_eq_true rfl) dX9_mean_3 (Nat.le_of_ble_eq_true rfl) (Nat.le_of_ble_eq_true rfl)) hS hA hW (fun r1_ u H locs hw hW hS => ?_)
  have hw : r1_ = (if p1 < 0 then 0 else (if 1 < p1 then 0 else 1)) := hw
  by_cases c2_ : p1 < 0
  · have b3_ : (-2147483648) ≤ Int32.toInt p1 ∧ Int32.toInt p1 ≤ (-1) := (by have u0 := zbnd p1; have u1 := (zi_lt _ _).mp c2_; have u2 : (0 : Int32).toInt = 0 := (by decide); omega)
    rw [if_pos c2_] at hw
    subst hw
    refine lv_if_ne (tgt := 13) hx hb dX9_mean_6 (by decide) (fun c4_ => absurd (by decide) c4_) (fun c4_ => ?_)
    refine lv_ldc2 (v := (-9223372036854775808)) hx hb hown (ht _ zm_1032) dX9_mean_9 ?_
    exact zret_l (v := (-9223372036854775808)) hx hb hr hlocks hS () (by show _ = _; rw [if_pos c2_]) (hW.sub [] (by decide) rfl) (Nat.le_of_ble_eq_true rfl) (Nat.le_of_ble_eq_true rfl) dX9_mean_12
  · have b5_ : 0 ≤ Int32.toInt p1 ∧ Int32.toInt p1 ≤ 2147483647 := (by have u0 := zbnd p1; have u1 := (not_congr (zi_lt _ _)).mp c2_; have u2 : (0 : Int32).toInt = 0 := (by decide); omega)
    rw [if_neg c2_] at hw
    by_cases c6_ : 1 < p1
    · have b7_ : 2 ≤ Int32.toInt p1 ∧ Int32.toInt p1 ≤ 2147483647 := (by have u0 := b5_; have u1 := (zi_lt _ _).mp c6_; have u2 : (1 : Int32).toInt = 1 := (by decide); omega)
      rw [if_pos c6_] at hw
      subst hw
      refine lv_if_ne (tgt := 13) hx hb dX9_mean_6 (by decide) (fun c8_ => absurd (by decide) c8_) (fun c8_ => ?_)
      refine lv_ldc2 (v := (-9223372036854775808)) hx hb hown (ht _ zm_1032) dX9_mean_9 ?_
      exact zret_l (v := (-9223372036854775808)) hx hb hr hlocks hS () (by show _ = _; rw [if_neg c2_, if_pos c6_]) (hW.sub [] (by decide) rfl) (Nat.le_of_ble_eq_true rfl) (Nat.le_of_ble_eq_true rfl) dX9_mean_12
    · have b9_ : 0 ≤ Int32.toInt p1 ∧ Int32.toInt p1 ≤ 1 := (by have u0 := b5_; have u1 := (not_congr (zi_lt _ _)).mp c6_; have u2 : (1 : Int32).toInt = 1 := (by decide); omega)
      rw [if_neg c6_] at hw
      subst hw
      refine lv_if_ne (tgt := 13) hx hb dX9_mean_6 (by decide) (fun c10_ => ?_) (fun c10_ => absurd c10_ (by decide))
      refine lv_aload_n hx hb dX9_mean_13 rfl (lv_at hl 0 rfl) ?_
      refine zget hx hb ht inlX9 hown hK hW 0 rfl rfl 6 (by decide) zm_29 rfl dX9_mean_14 ?_
      refine zgo_v (wr := [(a0, .inr (8, [w2, w3, w4, .ref a5, w6, w7, .ref a8, w9, w10])), (a13, .inr (2, [w23, .int 15, w24, w25, w26, w27, w28, w29])), (a14, .inr (5, [.int 0, w30, w31]))]) (zrunV (As := []) (rest := []) ⟨hx, hb, hml, hown, ht⟩ (zc_X1_beginFromNow_0 l D y a8 a5 w17 w18 w19 w20 w21 a22 w11 (.int 0) w12 (.int 0) (.int 0) (.ref a13) (.ref a14) w15 w16) (cwV 0 ht (zgV zm_274 zm_275 zm_276 zm_28 zm_277) rfl rfl rfl (by decide +kernel) ⟨(Nat.le_of_ble_eq_true rfl), (Nat.le_of_ble_eq_true rfl)⟩) hK hE hS hA hW [2, 1, 5] (by decide) rfl 0 rfl rfl rfl rfl hl.1 rfl (Nat.le_of_ble_eq_true rfl) dX9_mean_17 (Nat.le_of_ble_eq_true rfl) (Nat.le_of_ble_eq_true rfl)) hS hA hW [2, 1, 5] [0, 3, 4] rfl rfl (by decide) (by decide) (fun u H locs hw hW hS => ?_)
      have hW : zPD D A [(a0, .inr (8, [w2, w3, w4, .ref a5, w6, w7, .ref a8, w9, w10])), (a13, .inr (2, [w23, .int 15, w24, w25, w26, w27, w28, w29])), (a14, .inr (5, [.int 0, w30, w31])), (a8, .inr (1, [.ref a5, .int 0, .int 20, w17, w18, w19, w20, w21, .ref a22])), (a5, .inr (6, [w11, .int 0, .int 20, .int 0, .int 0, w12, .int 0, .int 0, .ref a13, .ref a14, w15, w16])), (a22, .inl (y 2, 4, .inl (upd (fun _ => 0) 0 1)))] H := hW
      refine lv_aload_n hx hb dX9_mean_20 rfl (lv_at hl 0 rfl) ?_
      refine zget hx hb ht inlX9 hown hK hW 0 rfl rfl 6 (by decide) zm_29 rfl dX9_mean_21 ?_
      refine lv_iconst (v := 0) hx hb dX9_mean_24 (by decide) ?_
      refine zgo_i (wr := [(a0, .inr (8, [w2, w3, w4, .ref a5, w6, w7, .ref a8, w9, w10])), (a13, .inr (2, [w23, .int 15, w24, w25, w26, w27, w28, w29])), (a22, .inl (y 2, 4, .inl (upd (fun _ => 0) 0 1)))]) (zrunV (As := [.int 0]) (rest := []) ⟨hx, hb, hml, hown, ht⟩ (zc_X1_goRound_0 l D y a8 a5 (.int 0) (.int 20) w17 w18 w19 w20 w21 (.ref a22) w11 (.int 0) (.int 20) (.int 0) w12 (.ref a13) a14 w15 w16 w30 w31) (cwV 1 ht (zgV zm_809 zm_810 zm_811 zm_28 zm_812) rfl rfl rfl (by decide +kernel) ⟨(Nat.le_of_ble_eq_true rfl), (Nat.le_of_ble_eq_true rfl)⟩) hK hE hS hA hW [3, 4, 2] (by decide) rfl 0 rfl rfl rfl rfl hl.1 rfl (Nat.le_of_ble_eq_true rfl) dX9_mean_25 (Nat.le_of_ble_eq_true rfl) (Nat.le_of_ble_eq_true rfl)) hS hA hW [3, 4, 2] [0, 1, 5] rfl rfl (by decide) (by decide) (fun r12_ u H locs hw hW hS => ?_)
      have hW : zPD D A [(a0, .inr (8, [w2, w3, w4, .ref a5, w6, w7, .ref a8, w9, w10])), (a13, .inr (2, [w23, .int 15, w24, w25, w26, w27, w28, w29])), (a22, .inl (y 2, 4, .inl (upd (fun _ => 0) 0 1))), (a8, .inr (1, [.ref a5, .int 0, .int 20, w17, w18, w19, w20, w21, .ref a22])), (a5, .inr (6, [w11, .int 0, .int 20, .int 0, .int 0, w12, .int 0, .int 0, .ref a13, .ref a14, w15, w16])), (a14, .inr (5, [.int 0, w30, w31]))] H := hW
      have hw : r12_ = 0 := hw
      subst hw
      refine lv_pop hx hb dX9_mean_28 rfl ?_
      refine lv_iconst (v := 0) hx hb dX9_mean_29 (by decide) ?_
      refine lv_istore_n (lv' := [(2, .int 0), (0, .ref a0), (1, .int p1)]) hx hb dX9_mean_30 rfl hl (by decide) rfl (fun ls hl => ?_)
      refine lv_iconst (v := 0) hx hb dX9_mean_31 (by decide) ?_
      refine lv_istore_n (lv' := [(3, .int 0), (2, .int 0), (0, .ref a0), (1, .int p1)]) hx hb dX9_mean_32 rfl hl (by decide) rfl (fun ls hl => ?_)
      refine lv_iload_n hx hb dX9_mean_33 rfl (lv_at hl 0 rfl) ?_
      refine lv_bipush (v := 10) hx hb dX9_mean_34 (by decide) ?_
      refine lv_icmp_ge (tgt := 71) hx hb dX9_mean_36 (by decide) (fun c13_ => absurd c13_ (by decide)) (fun c13_ => ?_)
      refine lv_aload_n hx hb dX9_mean_39 rfl (lv_at hl 2 rfl) ?_
      refine zget hx hb ht inlX9 hown hK hW 0 rfl rfl 6 (by decide) zm_29 rfl dX9_mean_40 ?_
      refine lv_aload_n hx hb dX9_mean_43 rfl (lv_at hl 2 rfl) ?_
      refine zget hx hb ht inlX9 hown hK hW 0 rfl rfl 3 (by decide) zm_23 rfl dX9_mean_44 ?_
      refine zget hx hb ht inlX7 hown hK hW 4 rfl rfl 2 (by decide) zm_435 rfl dX9_mean_47 ?_
      refine lv_iload_n hx hb dX9_mean_50 rfl (lv_at hl 0 rfl) ?_
      refine lv_iadd hx hb dX9_mean_51 ?_
      refine ztop (w := .int 20) (congrArg Value.int (by decide)) ?_
      refine zput (ws' := [(a0, .inr (8, [w2, w3, w4, .ref a5, w6, w7, .ref a8, w9, w10])), (a13, .inr (2, [w23, .int 15, w24, w25, w26, w27, w28, w29])), (a22, .inl (y 2, 4, .inl (upd (fun _ => 0) 0 1))), (a8, .inr (1, [.ref a5, .int 0, .int 20, w17, w18, w19, w20, w21, .ref a22])), (a5, .inr (6, [w11, .int 0, .int 20, .int 0, .int 0, w12, .int 0, .int 0, .ref a13, .ref a14, w15, w16])), (a14, .inr (5, [.int 0, w30, w31]))]) hx hb ht inlX1 tyX1 tyX1_ok nmX1 hown hK hS hW 3 rfl rfl 2 (by decide) zm_992 rfl rfl rfl (Nat.le_of_ble_eq_true rfl) rfl dX9_mean_52 (fun H locs hW hS => ?_)
      refine lv_iload_n hx hb dX9_mean_55 rfl (lv_at hl 1 rfl) ?_
      refine lv_aload_n hx hb dX9_mean_56 rfl (lv_at hl 2 rfl) ?_
      refine zget hx hb ht inlX9 hown hK hW 0 rfl rfl 6 (by decide) zm_29 rfl dX9_mean_57 ?_
      refine zgo_i (wr := [(a0, .inr (8, [w2, w3, w4, .ref a5, w6, w7, .ref a8, w9, w10])), (a22, .inl (y 2, 4, .inl (upd (fun _ => 0) 0 1))), (a14, .inr (5, [.int 0, w30, w31]))]) (zrunV (As := []) (rest := [.int 0]) ⟨hx, hb, hml, hown, ht⟩ (zc_X1_cost_0 l D y a8 a5 (.int 0) w17 w18 w19 w20 w21 (.ref a22) w11 (.int 20) (.int 0) w12 (.int 0) (.int 0) a13 (.ref a14) w15 w16 w23 w24 w25 w26 w27 w28 w29) (cwV 0 ht (zgV zm_827 zm_828 zm_829 zm_28 zm_830) rfl rfl rfl (by decide +kernel) ⟨(Nat.le_of_ble_eq_true rfl), (Nat.le_of_ble_eq_true rfl)⟩) hK hE hS hA hW [3, 4, 1] (by decide) rfl 0 rfl rfl rfl rfl hl.1 rfl (Nat.le_of_ble_eq_true rfl) dX9_mean_60 (Nat.le_of_ble_eq_true rfl) (Nat.le_of_ble_eq_true rfl)) hS hA hW [3, 4, 1] [0, 2, 5] rfl rfl (by decide) (by decide) (fun r14_ u H locs hw hW hS => ?_)
      have hW : zPD D A [(a0, .inr (8, [w2, w3, w4, .ref a5, w6, w7, .ref a8, w9, w10])), (a22, .inl (y 2, 4, .inl (upd (fun _ => 0) 0 1))), (a14, .inr (5, [.int 0, w30, w31])), (a8, .inr (1, [.ref a5, .int 0, .int 20, w17, w18, w19, w20, w21, .ref a22])), (a5, .inr (6, [w11, .int 0, .int 20, .int 0, .int 0, w12, .int 0, .int 0, .ref a13, .ref a14, w15, w16])), (a13, .inr (2, [w23, .int 15, w24, w25, w26, w27, w28, w29]))] H := hW
      have hw : r14_ = 0 := hw
      subst hw
      refine lv_iadd hx hb dX9_mean_63 ?_
      refine ztop (w := .int 0) (congrArg Value.int (by decide)) ?_
      refine lv_istore_n (lv' := [(2, .int 0), (3, .int 0), (0, .ref a0), (1, .int p1)]) hx hb dX9_mean_64 rfl hl (by decide) rfl (fun ls hl => ?_)
      refine lv_iinc (k := 1) (v := 1) (lv' := [(3, .int 1), (2, .int 0), (0, .ref a0), (1, .int p1)]) hx hb dX9_mean_65 hl rfl (by decide) (by decide) rfl (fun ls hl => ?_)
      refine lv_goto (tgt := 33) hx hb dX9_mean_68 (by decide) ?_
      refine lv_iload_n hx hb dX9_mean_33 rfl (lv_at hl 0 rfl) ?_
      refine lv_bipush (v := 10) hx hb dX9_mean_34 (by decide) ?_
      refine lv_icmp_ge (tgt := 71) hx hb dX9_mean_36 (by decide) (fun c15_ => absurd c15_ (by decide)) (fun c15_ => ?_)
      refine lv_aload_n hx hb dX9_mean_39 rfl (lv_at hl 2 rfl) ?_
      refine zget hx hb ht inlX9 hown hK hW 0 rfl rfl 6 (by decide) zm_29 rfl dX9_mean_40 ?_
      refine lv_aload_n hx hb dX9_mean_43 rfl (lv_at hl 2 rfl) ?_
      refine zget hx hb ht inlX9 hown hK hW 0 rfl rfl 3 (by decide) zm_23 rfl dX9_mean_44 ?_
      refine zget hx hb ht inlX7 hown hK hW 4 rfl rfl 2 (by decide) zm_435 rfl dX9_mean_47 ?_
      refine lv_iload_n hx hb dX9_mean_50 rfl (lv_at hl 0 rfl) ?_
      refine lv_iadd hx hb dX9_mean_51 ?_
      refine ztop (w := .int 21) (congrArg Value.int (by decide)) ?_
      refine zput (ws' := [(a0, .inr (8, [w2, w3, w4, .ref a5, w6, w7, .ref a8, w9, w10])), (a22, .inl (y 2, 4, .inl (upd (fun _ => 0) 0 1))), (a14, .inr (5, [.int 0, w30, w31])), (a8, .inr (1, [.ref a5, .int 0, .int 21, w17, w18, w19, w20, w21, .ref a22])), (a5, .inr (6, [w11, .int 0, .int 20, .int 0, .int 0, w12, .int 0, .int 0, .ref a13, .ref a14, w15, w16])), (a13, .inr (2, [w23, .int 15, w24, w25, w26, w27, w28, w29]))]) hx hb ht inlX1 tyX1 tyX1_ok nmX1 hown hK hS hW 3 rfl rfl 2 (by decide) zm_992 rfl rfl rfl (Nat.le_of_ble_eq_true rfl) rfl dX9_mean_52 (fun H locs hW hS => ?_)
      refine lv_iload_n hx hb dX9_mean_55 rfl (lv_at hl 1 rfl) ?_
      refine lv_aload_n hx hb dX9_mean_56 rfl (lv_at hl 2 rfl) ?_
      refine zget hx hb ht inlX9 hown hK hW 0 rfl rfl 6 (by decide) zm_29 rfl dX9_mean_57 ?_
      refine zgo_i (wr := [(a0, .inr (8, [w2, w3, w4, .ref a5, w6, w7, .ref a8, w9, w10])), (a22, .inl (y 2, 4, .inl (upd (fun _ => 0) 0 1))), (a14, .inr (5, [.int 0, w30, w31]))]) (zrunV (As := []) (rest := [.int 0]) ⟨hx, hb, hml, hown, ht⟩ (zc_X1_cost_3 l D y a8 a5 (.int 0) w17 w18 w19 w20 w21 (.ref a22) w11 (.int 20) (.int 0) w12 (.int 0) (.int 0) a13 (.ref a14) w15 w16 w23 w24 w25 w26 w27 w28 w29) (cwV 0 ht (zgV zm_827 zm_828 zm_829 zm_28 zm_830) rfl rfl rfl (by decide +kernel) ⟨(Nat.le_of_ble_eq_true rfl), (Nat.le_of_ble_eq_true rfl)⟩) hK hE hS hA hW [3, 4, 5] (by decide) rfl 0 rfl rfl rfl rfl hl.1 rfl (Nat.le_of_ble_eq_true rfl) dX9_mean_60 (Nat.le_of_ble_eq_true rfl) (Nat.le_of_ble_eq_true rfl)) hS hA hW [3, 4, 5] [0, 1, 2] rfl rfl (by decide) (by decide) (fun r16_ u H locs hw hW hS => ?_)
      have hW : zPD D A [(a0, .inr (8, [w2, w3, w4, .ref a5, w6, w7, .ref a8, w9, w10])), (a22, .inl (y 2, 4, .inl (upd (fun _ => 0) 0 1))), (a14, .inr (5, [.int 0, w30, w31])), (a8, .inr (1, [.ref a5, .int 0, .int 21, w17, w18, w19, w20, w21, .ref a22])), (a5, .inr (6, [w11, .int 0, .int 20, .int 0, .int 0, w12, .int 0, .int 0, .ref a13, .ref a14, w15, w16])), (a13, .inr (2, [w23, .int 15, w24, w25, w26, w27, w28, w29]))] H := hW
      have hw : r16_ = 0 := hw
      subst hw
      refine lv_iadd hx hb dX9_mean_63 ?_
      refine ztop (w := .int 0) (congrArg Value.int (by decide)) ?_
      refine lv_istore_n (lv' := [(2, .int 0), (3, .int 1), (0, .ref a0), (1, .int p1)]) hx hb dX9_mean_64 rfl hl (by decide) rfl (fun ls hl => ?_)
      refine lv_iinc (k := 1) (v := 2) (lv' := [(3, .int 2), (2, .int 0), (0, .ref a0), (1, .int p1)]) hx hb dX9_mean_65 hl rfl (by decide) (by decide) rfl (fun ls hl => ?_)
      refine lv_goto (tgt := 33) hx hb dX9_mean_68 (by decide) ?_
      refine lv_iload_n hx hb dX9_mean_33 rfl (lv_at hl 0 rfl) ?_
      refine lv_bipush (v := 10) hx hb dX9_mean_34 (by decide) ?_
      refine lv_icmp_ge (tgt := 71) hx hb dX9_mean_36 (by decide) (fun c17_ => absurd c17_ (by decide)) (fun c17_ => ?_)
      refine lv_aload_n hx hb dX9_mean_39 rfl (lv_at hl 2 rfl) ?_
      refine zget hx hb ht inlX9 hown hK hW 0 rfl rfl 6 (by decide) zm_29 rfl dX9_mean_40 ?_
      refine lv_aload_n hx hb dX9_mean_43 rfl (lv_at hl 2 rfl) ?_
      refine zget hx hb ht inlX9 hown hK hW 0 rfl rfl 3 (by decide) zm_23 rfl dX9_mean_44 ?_
      refine zget hx hb ht inlX7 hown hK hW 4 rfl rfl 2 (by decide) zm_435 rfl dX9_mean_47 ?_
      refine lv_iload_n hx hb dX9_mean_50 rfl (lv_at hl 0 rfl) ?_
      refine lv_iadd hx hb dX9_mean_51 ?_
      refine ztop (w := .int 22) (congrArg Value.int (by decide)) ?_
      refine zput (ws' := [(a0, .inr (8, [w2, w3, w4, .ref a5, w6, w7, .ref a8, w9, w10])), (a22, .inl (y 2, 4, .inl (upd (fun _ => 0) 0 1))), (a14, .inr (5, [.int 0, w30, w31])), (a8, .inr (1, [.ref a5, .int 0, .int 22, w17, w18, w19, w20, w21, .ref a22])), (a5, .inr (6, [w11, .int 0, .int 20, .int 0, .int 0, w12, .int 0, .int 0, .ref a13, .ref a14, w15, w16])), (a13, .inr (2, [w23, .int 15, w24, w25, w26, w27, w28, w29]))]) hx hb ht inlX1 tyX1 tyX1_ok nmX1 hown hK hS hW 3 rfl rfl 2 (by decide) zm_992 rfl rfl rfl (Nat.le_of_ble_eq_true rfl) rfl dX9_mean_52 (fun H locs hW hS => ?_)
      refine lv_iload_n hx hb dX9_mean_55 rfl (lv_at hl 1 rfl) ?_
      refine lv_aload_n hx hb dX9_mean_56 rfl (lv_at hl 2 rfl) ?_
      refine zget hx hb ht inlX9 hown hK hW 0 rfl rfl 6 (by decide) zm_29 rfl dX9_mean_57 ?_
      refine zgo_i (wr := [(a0, .inr (8, [w2, w3, w4, .ref a5, w6, w7, .ref a8, w9, w10])), (a22, .inl (y 2, 4, .inl (upd (fun _ => 0) 0 1))), (a14, .inr (5, [.int 0, w30, w31]))]) (zrunV (As := []) (rest := [.int 0]) ⟨hx, hb, hml, hown, ht⟩ (zc_X1_cost_4 l D y a8 a5 (.int 0) w17 w18 w19 w20 w21 (.ref a22) w11 (.int 20) (.int 0) w12 (.int 0) (.int 0) a13 (.ref a14) w15 w16 w23 w24 w25 w26 w27 w28 w29) (cwV 0 ht (zgV zm_827 zm_828 zm_829 zm_28 zm_830) rfl rfl rfl (by decide +kernel) ⟨(Nat.le_of_ble_eq_true rfl), (Nat.le_of_ble_eq_true rfl)⟩) hK hE hS hA hW [3, 4, 5] (by decide) rfl 0 rfl rfl rfl rfl hl.1 rfl (Nat.le_of_ble_eq_true rfl) dX9_mean_60 (Nat.le_of_ble_eq_true rfl) (Nat.le_of_ble_eq_true rfl)) hS hA hW [3, 4, 5] [0, 1, 2] rfl rfl (by decide) (by decide) (fun r18_ u H locs hw hW hS => ?_)
      have hW : zPD D A [(a0, .inr (8, [w2, w3, w4, .ref a5, w6, w7, .ref a8, w9, w10])), (a22, .inl (y 2, 4, .inl (upd (fun _ => 0) 0 1))), (a14, .inr (5, [.int 0, w30, w31])), (a8, .inr (1, [.ref a5, .int 0, .int 22, w17, w18, w19, w20, w21, .ref a22])), (a5, .inr (6, [w11, .int 0, .int 20, .int 0, .int 0, w12, .int 0, .int 0, .ref a13, .ref a14, w15, w16])), (a13, .inr (2, [w23, .int 15, w24, w25, w26, w27, w28, w29]))] H := hW
      have hw : r18_ = 0 := hw
      subst hw
      refine lv_iadd hx hb dX9_mean_63 ?_
      refine ztop (w := .int 0) (congrArg Value.int (by decide)) ?_
      refine lv_istore_n (lv' := [(2, .int 0), (3, .int 2), (0, .ref a0), (1, .int p1)]) hx hb dX9_mean_64 rfl hl (by decide) rfl (fun ls hl => ?_)
      refine lv_iinc (k := 1) (v := 3) (lv' := [(3, .int 3), (2, .int 0), (0, .ref a0), (1, .int p1)]) hx hb dX9_mean_65 hl rfl (by decide) (by decide) rfl (fun ls hl => ?_)
      refine lv_goto (tgt := 33) hx hb dX9_mean_68 (by decide) ?_
      refine lv_iload_n hx hb dX9_mean_33 rfl (lv_at hl 0 rfl) ?_
      refine lv_bipush (v := 10) hx hb dX9_mean_34 (by decide) ?_
      refine lv_icmp_ge (tgt := 71) hx hb dX9_mean_36 (by decide) (fun c19_ => absurd c19_ (by decide)) (fun c19_ => ?_)
      refine lv_aload_n hx hb dX9_mean_39 rfl (lv_at hl 2 rfl) ?_
      refine zget hx hb ht inlX9 hown hK hW 0 rfl rfl 6 (by decide) zm_29 rfl dX9_mean_40 ?_
      refine lv_aload_n hx hb dX9_mean_43 rfl (lv_at hl 2 rfl) ?_
      refine zget hx hb ht inlX9 hown hK hW 0 rfl rfl 3 (by decide) zm_23 rfl dX9_mean_44 ?_
      refine zget hx hb ht inlX7 hown hK hW 4 rfl rfl 2 (by decide) zm_435 rfl dX9_mean_47 ?_
      refine lv_iload_n hx hb dX9_mean_50 rfl (lv_at hl 0 rfl) ?_
      refine lv_iadd hx hb dX9_mean_51 ?_
      refine ztop (w := .int 23) (congrArg Value.int (by decide)) ?_
      refine zput (ws' := [(a0, .inr (8, [w2, w3, w4, .ref a5, w6, w7, .ref a8, w9, w10])), (a22, .inl (y 2, 4, .inl (upd (fun _ => 0) 0 1))), (a14, .inr (5, [.int 0, w30, w31])), (a8, .inr (1, [.ref a5, .int 0, .int 23, w17, w18, w19, w20, w21, .ref a22])), (a5, .inr (6, [w11, .int 0, .int 20, .int 0, .int 0, w12, .int 0, .int 0, .ref a13, .ref a14, w15, w16])), (a13, .inr (2, [w23, .int 15, w24, w25, w26, w27, w28, w29]))]) hx hb ht inlX1 tyX1 tyX1_ok nmX1 hown hK hS hW 3 rfl rfl 2 (by decide) zm_992 rfl rfl rfl (Nat.le_of_ble_eq_true rfl) rfl dX9_mean_52 (fun H locs hW hS => ?_)
      refine lv_iload_n hx hb dX9_mean_55 rfl (lv_at hl 1 rfl) ?_
      refine lv_aload_n hx hb dX9_mean_56 rfl (lv_at hl 2 rfl) ?_
      refine zget hx hb ht inlX9 hown hK hW 0 rfl rfl 6 (by decide) zm_29 rfl dX9_mean_57 ?_
      refine zgo_i (wr := [(a0, .inr (8, [w2, w3, w4, .ref a5, w6, w7, .ref a8, w9, w10])), (a22, .inl (y 2, 4, .inl (upd (fun _ => 0) 0 1))), (a14, .inr (5, [.int 0, w30, w31]))]) (zrunV (As := []) (rest := [.int 0]) ⟨hx, hb, hml, hown, ht⟩ (zc_X1_cost_5 l D y a8 a5 (.int 0) w17 w18 w19 w20 w21 (.ref a22) w11 (.int 20) (.int 0) w12 (.int 0) (.int 0) a13 (.ref a14) w15 w16 w23 w24 w25 w26 w27 w28 w29) (cwV 0 ht (zgV zm_827 zm_828 zm_829 zm_28 zm_830) rfl rfl rfl (by decide +kernel) ⟨(Nat.le_of_ble_eq_true rfl), (Nat.le_of_ble_eq_true rfl)⟩) hK hE hS hA hW [3, 4, 5] (by decide) rfl 0 rfl rfl rfl rfl hl.1 rfl (Nat.le_of_ble_eq_true rfl) dX9_mean_60 (Nat.le_of_ble_eq_true rfl) (Nat.le_of_ble_eq_true rfl)) hS hA hW [3, 4, 5] [0, 1, 2] rfl rfl (by decide) (by decide) (fun r20_ u H locs hw hW hS => ?_)
      have hW : zPD D A [(a0, .inr (8, [w2, w3, w4, .ref a5, w6, w7, .ref a8, w9, w10])), (a22, .inl (y 2, 4, .inl (upd (fun _ => 0) 0 1))), (a14, .inr (5, [.int 0, w30, w31])), (a8, .inr (1, [.ref a5, .int 0, .int 23, w17, w18, w19, w20, w21, .ref a22])), (a5, .inr (6, [w11, .int 0, .int 20, .int 0, .int 0, w12, .int 0, .int 0, .ref a13, .ref a14, w15, w16])), (a13, .inr (2, [w23, .int 15, w24, w25, w26, w27, w28, w29]))] H := hW
      have hw : r20_ = 0 := hw
      subst hw
      refine lv_iadd hx hb dX9_mean_63 ?_
      refine ztop (w := .int 0) (congrArg Value.int (by decide)) ?_
      refine lv_istore_n (lv' := [(2, .int 0), (3, .int 3), (0, .ref a0), (1, .int p1)]) hx hb dX9_mean_64 rfl hl (by decide) rfl (fun ls hl => ?_)
      refine lv_iinc (k := 1) (v := 4) (lv' := [(3, .int 4), (2, .int 0), (0, .ref a0), (1, .int p1)]) hx hb dX9_mean_65 hl rfl (by decide) (by decide) rfl (fun ls hl => ?_)
      refine lv_goto (tgt := 33) hx hb dX9_mean_68 (by decide) ?_
      refine lv_iload_n hx hb dX9_mean_33 rfl (lv_at hl 0 rfl) ?_
      refine lv_bipush (v := 10) hx hb dX9_mean_34 (by decide) ?_
      refine lv_icmp_ge (tgt := 71) hx hb dX9_mean_36 (by decide) (fun c21_ => absurd c21_ (by decide)) (fun c21_ => ?_)
      refine lv_aload_n hx hb dX9_mean_39 rfl (lv_at hl 2 rfl) ?_
      refine zget hx hb ht inlX9 hown hK hW 0 rfl rfl 6 (by decide) zm_29 rfl dX9_mean_40 ?_
      refine lv_aload_n hx hb dX9_mean_43 rfl (lv_at hl 2 rfl) ?_
      refine zget hx hb ht inlX9 hown hK hW 0 rfl rfl 3 (by decide) zm_23 rfl dX9_mean_44 ?_
      refine zget hx hb ht inlX7 hown hK hW 4 rfl rfl 2 (by decide) zm_435 rfl dX9_mean_47 ?_
      refine lv_iload_n hx hb dX9_mean_50 rfl (lv_at hl 0 rfl) ?_
      refine lv_iadd hx hb dX9_mean_51 ?_
      refine ztop (w := .int 24) (congrArg Value.int (by decide)) ?_
      refine zput (ws' := [(a0, .inr (8, [w2, w3, w4, .ref a5, w6, w7, .ref a8, w9, w10])), (a22, .inl (y 2, 4, .inl (upd (fun _ => 0) 0 1))), (a14, .inr (5, [.int 0, w30, w31])), (a8, .inr (1, [.ref a5, .int 0, .int 24, w17, w18, w19, w20, w21, .ref a22])), (a5, .inr (6, [w11, .int 0, .int 20, .int 0, .int 0, w12, .int 0, .int 0, .ref a13, .ref a14, w15, w16])), (a13, .inr (2, [w23, .int 15, w24, w25, w26, w27, w28, w29]))]) hx hb ht inlX1 tyX1 tyX1_ok nmX1 hown hK hS hW 3 rfl rfl 2 (by decide) zm_992 rfl rfl rfl (Nat.le_of_ble_eq_true rfl) rfl dX9_mean_52 (fun H locs hW hS => ?_)
      refine lv_iload_n hx hb dX9_mean_55 rfl (lv_at hl 1 rfl) ?_
      refine lv_aload_n hx hb dX9_mean_56 rfl (lv_at hl 2 rfl) ?_
      refine zget hx hb ht inlX9 hown hK hW 0 rfl rfl 6 (by decide) zm_29 rfl dX9_mean_57 ?_
      refine zgo_i (wr := [(a0, .inr (8, [w2, w3, w4, .ref a5, w6, w7, .ref a8, w9, w10])), (a22, .inl (y 2, 4, .inl (upd (fun _ => 0) 0 1))), (a14, .inr (5, [.int 0, w30, w31]))]) (zrunV (As := []) (rest := [.int 0]) ⟨hx, hb, hml, hown, ht⟩ (zc_X1_cost_6 l D y a8 a5 (.int 0) w17 w18 w19 w20 w21 (.ref a22) w11 (.int 20) (.int 0) w12 (.int 0) (.int 0) a13 (.ref a14) w15 w16 w23 w24 w25 w26 w27 w28 w29) (cwV 0 ht (zgV zm_827 zm_828 zm_829 zm_28 zm_830) rfl rfl rfl (by decide +kernel) ⟨(Nat.le_of_ble_eq_true rfl), (Nat.le_of_ble_eq_true rfl)⟩) hK hE hS hA hW [3, 4, 5] (by decide) rfl 0 rfl rfl rfl rfl hl.1 rfl (Nat.le_of_ble_eq_true rfl) dX9_mean_60 (Nat.le_of_ble_eq_true rfl) (Nat.le_of_ble_eq_true rfl)) hS hA hW [3, 4, 5] [0, 1, 2] rfl rfl (by decide) (by decide) (fun r22_ u H locs hw hW hS => ?_)
      have hW : zPD D A [(a0, .inr (8, [w2, w3, w4, .ref a5, w6, w7, .ref a8, w9, w10])), (a22, .inl (y 2, 4, .inl (upd (fun _ => 0) 0 1))), (a14, .inr (5, [.int 0, w30, w31])), (a8, .inr (1, [.ref a5, .int 0, .int 24, w17, w18, w19, w20, w21, .ref a22])), (a5, .inr (6, [w11, .int 0, .int 20, .int 0, .int 0, w12, .int 0, .int 0, .ref a13, .ref a14, w15, w16])), (a13, .inr (2, [w23, .int 15, w24, w25, w26, w27, w28, w29]))] H := hW
      have hw : r22_ = 0 := hw
      subst hw
      refine lv_iadd hx hb dX9_mean_63 ?_
      refine ztop (w := .int 0) (congrArg Value.int (by decide)) ?_
      refine lv_istore_n (lv' := [(2, .int 0), (3, .int 4), (0, .ref a0), (1, .int p1)]) hx hb dX9_mean_64 rfl hl (by decide) rfl (fun ls hl => ?_)
      refine lv_iinc (k := 1) (v := 5) (lv' := [(3, .int 5), (2, .int 0), (0, .ref a0), (1, .int p1)]) hx hb dX9_mean_65 hl rfl (by decide) (by decide) rfl (fun ls hl => ?_)
      refine lv_goto (tgt := 33) hx hb dX9_mean_68 (by decide) ?_
      refine lv_iload_n hx hb dX9_mean_33 rfl (lv_at hl 0 rfl) ?_
      refine lv_bipush (v := 10) hx hb dX9_mean_34 (by decide) ?_
      refine lv_icmp_ge (tgt := 71) hx hb dX9_mean_36 (by decide) (fun c23_ => absurd c23_ (by decide)) (fun c23_ => ?_)
      refine lv_aload_n hx hb dX9_mean_39 rfl (lv_at hl 2 rfl) ?_
      refine zget hx hb ht inlX9 hown hK hW 0 rfl rfl 6 (by decide) zm_29 rfl dX9_mean_40 ?_
      refine lv_aload_n hx hb dX9_mean_43 rfl (lv_at hl 2 rfl) ?_
      refine zget hx hb ht inlX9 hown hK hW 0 rfl rfl 3 (by decide) zm_23 rfl dX9_mean_44 ?_
      refine zget hx hb ht inlX7 hown hK hW 4 rfl rfl 2 (by decide) zm_435 rfl dX9_mean_47 ?_
      refine lv_iload_n hx hb dX9_mean_50 rfl (lv_at hl 0 rfl) ?_
      refine lv_iadd hx hb dX9_mean_51 ?_
      refine ztop (w := .int 25) (congrArg Value.int (by decide)) ?_
      refine zput (ws' := [(a0, .inr (8, [w2, w3, w4, .ref a5, w6, w7, .ref a8, w9, w10])), (a22, .inl (y 2, 4, .inl (upd (fun _ => 0) 0 1))), (a14, .inr (5, [.int 0, w30, w31])), (a8, .inr (1, [.ref a5, .int 0, .int 25, w17, w18, w19, w20, w21, .ref a22])), (a5, .inr (6, [w11, .int 0, .int 20, .int 0, .int 0, w12, .int 0, .int 0, .ref a13, .ref a14, w15, w16])), (a13, .inr (2, [w23, .int 15, w24, w25, w26, w27, w28, w29]))]) hx hb ht inlX1 tyX1 tyX1_ok nmX1 hown hK hS hW 3 rfl rfl 2 (by decide) zm_992 rfl rfl rfl (Nat.le_of_ble_eq_true rfl) rfl dX9_mean_52 (fun H locs hW hS => ?_)
      refine lv_iload_n hx hb dX9_mean_55 rfl (lv_at hl 1 rfl) ?_
      refine lv_aload_n hx hb dX9_mean_56 rfl (lv_at hl 2 rfl) ?_
      refine zget hx hb ht inlX9 hown hK hW 0 rfl rfl 6 (by decide) zm_29 rfl dX9_mean_57 ?_
      refine zgo_i (wr := [(a0, .inr (8, [w2, w3, w4, .ref a5, w6, w7, .ref a8, w9, w10])), (a22, .inl (y 2, 4, .inl (upd (fun _ => 0) 0 1))), (a14, .inr (5, [.int 0, w30, w31]))]) (zrunV (As := []) (rest := [.int 0]) ⟨hx, hb, hml, hown, ht⟩ (zc_X1_cost_7 l D y a8 a5 (.int 0) w17 w18 w19 w20 w21 (.ref a22) w11 (.int 20) (.int 0) w12 (.int 0) (.int 0) a13 (.ref a14) w15 w16 w23 w24 w25 w26 w27 w28 w29) (cwV 0 ht (zgV zm_827 zm_828 zm_829 zm_28 zm_830) rfl rfl rfl (by decide +kernel) ⟨(Nat.le_of_ble_eq_true rfl), (Nat.le_of_ble_eq_true rfl)⟩) hK hE hS hA hW [3, 4, 5] (by decide) rfl 0 rfl rfl rfl rfl hl.1 rfl (Nat.le_of_ble_eq_true rfl) dX9_mean_60 (Nat.le_of_ble_eq_true rfl) (Nat.le_of_ble_eq_true rfl)) hS hA hW [3, 4, 5] [0, 1, 2] rfl rfl (by decide) (by decide) (fun r24_ u H locs hw hW hS => ?_)
      have hW : zPD D A [(a0, .inr (8, [w2, w3, w4, .ref a5, w6, w7, .ref a8, w9, w10])), (a22, .inl (y 2, 4, .inl (upd (fun _ => 0) 0 1))), (a14, .inr (5, [.int 0, w30, w31])), (a8, .inr (1, [.ref a5, .int 0, .int 25, w17, w18, w19, w20, w21, .ref a22])), (a5, .inr (6, [w11, .int 0, .int 20, .int 0, .int 0, w12, .int 0, .int 0, .ref a13, .ref a14, w15, w16])), (a13, .inr (2, [w23, .int 15, w24, w25, w26, w27, w28, w29]))] H := hW
      have hw : r24_ = 0 := hw
      subst hw
      refine lv_iadd hx hb dX9_mean_63 ?_
      refine ztop (w := .int 0) (congrArg Value.int (by decide)) ?_
      refine lv_istore_n (lv' := [(2, .int 0), (3, .int 5), (0, .ref a0), (1, .int p1)]) hx hb dX9_mean_64 rfl hl (by decide) rfl (fun ls hl => ?_)
      refine lv_iinc (k := 1) (v := 6) (lv' := [(3, .int 6), (2, .int 0), (0, .ref a0), (1, .int p1)]) hx hb dX9_mean_65 hl rfl (by decide) (by decide) rfl (fun ls hl => ?_)
      refine lv_goto (tgt := 33) hx hb dX9_mean_68 (by decide) ?_
      refine lv_iload_n hx hb dX9_mean_33 rfl (lv_at hl 0 rfl) ?_
      refine lv_bipush (v := 10) hx hb dX9_mean_34 (by decide) ?_
      refine lv_icmp_ge (tgt := 71) hx hb dX9_mean_36 (by decide) (fun c25_ => absurd c25_ (by decide)) (fun c25_ => ?_)
      refine lv_aload_n hx hb dX9_mean_39 rfl (lv_at hl 2 rfl) ?_
      refine zget hx hb ht inlX9 hown hK hW 0 rfl rfl 6 (by decide) zm_29 rfl dX9_mean_40 ?_
      refine lv_aload_n hx hb dX9_mean_43 rfl (lv_at hl 2 rfl) ?_
      refine zget hx hb ht inlX9 hown hK hW 0 rfl rfl 3 (by decide) zm_23 rfl dX9_mean_44 ?_
      refine zget hx hb ht inlX7 hown hK hW 4 rfl rfl 2 (by decide) zm_435 rfl dX9_mean_47 ?_
      refine lv_iload_n hx hb dX9_mean_50 rfl (lv_at hl 0 rfl) ?_
      refine lv_iadd hx hb dX9_mean_51 ?_
      refine ztop (w := .int 26) (congrArg Value.int (by decide)) ?_
      refine zput (ws' := [(a0, .inr (8, [w2, w3, w4, .ref a5, w6, w7, .ref a8, w9, w10])), (a22, .inl (y 2, 4, .inl (upd (fun _ => 0) 0 1))), (a14, .inr (5, [.int 0, w30, w31])), (a8, .inr (1, [.ref a5, .int 0, .int 26, w17, w18, w19, w20, w21, .ref a22])), (a5, .inr (6, [w11, .int 0, .int 20, .int 0, .int 0, w12, .int 0, .int 0, .ref a13, .ref a14, w15, w16])), (a13, .inr (2, [w23, .int 15, w24, w25, w26, w27, w28, w29]))]) hx hb ht inlX1 tyX1 tyX1_ok nmX1 hown hK hS hW 3 rfl rfl 2 (by decide) zm_992 rfl rfl rfl (Nat.le_of_ble_eq_true rfl) rfl dX9_mean_52 (fun H locs hW hS => ?_)
      refine lv_iload_n hx hb dX9_mean_55 rfl (lv_at hl 1 rfl) ?_
      refine lv_aload_n hx hb dX9_mean_56 rfl (lv_at hl 2 rfl) ?_
      refine zget hx hb ht inlX9 hown hK hW 0 rfl rfl 6 (by decide) zm_29 rfl dX9_mean_57 ?_
      refine zgo_i (wr := [(a0, .inr (8, [w2, w3, w4, .ref a5, w6, w7, .ref a8, w9, w10])), (a22, .inl (y 2, 4, .inl (upd (fun _ => 0) 0 1))), (a14, .inr (5, [.int 0, w30, w31]))]) (zrunV (As := []) (rest := [.int 0]) ⟨hx, hb, hml, hown, ht⟩ (zc_X1_cost_8 l D y a8 a5 (.int 0) w17 w18 w19 w20 w21 (.ref a22) w11 (.int 20) (.int 0) w12 (.int 0) (.int 0) a13 (.ref a14) w15 w16 w23 w24 w25 w26 w27 w28 w29) (cwV 0 ht (zgV zm_827 zm_828 zm_829 zm_28 zm_830) rfl rfl rfl (by decide +kernel) ⟨(Nat.le_of_ble_eq_true rfl), (Nat.le_of_ble_eq_true rfl)⟩) hK hE hS hA hW [3, 4, 5] (by decide) rfl 0 rfl rfl rfl rfl hl.1 rfl (Nat.le_of_ble_eq_true rfl) dX9_mean_60 (Nat.le_of_ble_eq_true rfl) (Nat.le_of_ble_eq_true rfl)) hS hA hW [3, 4, 5] [0, 1, 2] rfl rfl (by decide) (by decide) (fun r26_ u H locs hw hW hS => ?_)
      have hW : zPD D A [(a0, .inr (8, [w2, w3, w4, .ref a5, w6, w7, .ref a8, w9, w10])), (a22, .inl (y 2, 4, .inl (upd (fun _ => 0) 0 1))), (a14, .inr (5, [.int 0, w30, w31])), (a8, .inr (1, [.ref a5, .int 0, .int 26, w17, w18, w19, w20, w21, .ref a22])), (a5, .inr (6, [w11, .int 0, .int 20, .int 0, .int 0, w12, .int 0, .int 0, .ref a13, .ref a14, w15, w16])), (a13, .inr (2, [w23, .int 15, w24, w25, w26, w27, w28, w29]))] H := hW
      have hw : r26_ = 0 := hw
      subst hw
      refine lv_iadd hx hb dX9_mean_63 ?_
      refine ztop (w := .int 0) (congrArg Value.int (by decide)) ?_
      refine lv_istore_n (lv' := [(2, .int 0), (3, .int 6), (0, .ref a0), (1, .int p1)]) hx hb dX9_mean_64 rfl hl (by decide) rfl (fun ls hl => ?_)
      refine lv_iinc (k := 1) (v := 7) (lv' := [(3, .int 7), (2, .int 0), (0, .ref a0), (1, .int p1)]) hx hb dX9_mean_65 hl rfl (by decide) (by decide) rfl (fun ls hl => ?_)
      refine lv_goto (tgt := 33) hx hb dX9_mean_68 (by decide) ?_
      refine lv_iload_n hx hb dX9_mean_33 rfl (lv_at hl 0 rfl) ?_
      refine lv_bipush (v := 10) hx hb dX9_mean_34 (by decide) ?_
      refine lv_icmp_ge (tgt := 71) hx hb dX9_mean_36 (by decide) (fun c27_ => absurd c27_ (by decide)) (fun c27_ => ?_)
      refine lv_aload_n hx hb dX9_mean_39 rfl (lv_at hl 2 rfl) ?_
      refine zget hx hb ht inlX9 hown hK hW 0 rfl rfl 6 (by decide) zm_29 rfl dX9_mean_40 ?_
      refine lv_aload_n hx hb dX9_mean_43 rfl (lv_at hl 2 rfl) ?_
      refine zget hx hb ht inlX9 hown hK hW 0 rfl rfl 3 (by decide) zm_23 rfl dX9_mean_44 ?_
      refine zget hx hb ht inlX7 hown hK hW 4 rfl rfl 2 (by decide) zm_435 rfl dX9_mean_47 ?_
      refine lv_iload_n hx hb dX9_mean_50 rfl (lv_at hl 0 rfl) ?_
      refine lv_iadd hx hb dX9_mean_51 ?_
      refine ztop (w := .int 27) (congrArg Value.int (by decide)) ?_
      refine zput (ws' := [(a0, .inr (8, [w2, w3, w4, .ref a5, w6, w7, .ref a8, w9, w10])), (a22, .inl (y 2, 4, .inl (upd (fun _ => 0) 0 1))), (a14, .inr (5, [.int 0, w30, w31])), (a8, .inr (1, [.ref a5, .int 0, .int 27, w17, w18, w19, w20, w21, .ref a22])), (a5, .inr (6, [w11, .int 0, .int 20, .int 0, .int 0, w12, .int 0, .int 0, .ref a13, .ref a14, w15, w16])), (a13, .inr (2, [w23, .int 15, w24, w25, w26, w27, w28, w29]))]) hx hb ht inlX1 tyX1 tyX1_ok nmX1 hown hK hS hW 3 rfl rfl 2 (by decide) zm_992 rfl rfl rfl (Nat.le_of_ble_eq_true rfl) rfl dX9_mean_52 (fun H locs hW hS => ?_)
      refine lv_iload_n hx hb dX9_mean_55 rfl (lv_at hl 1 rfl) ?_
      refine lv_aload_n hx hb dX9_mean_56 rfl (lv_at hl 2 rfl) ?_
      refine zget hx hb ht inlX9 hown hK hW 0 rfl rfl 6 (by decide) zm_29 rfl dX9_mean_57 ?_
      refine zgo_i (wr := [(a0, .inr (8, [w2, w3, w4, .ref a5, w6, w7, .ref a8, w9, w10])), (a22, .inl (y 2, 4, .inl (upd (fun _ => 0) 0 1))), (a14, .inr (5, [.int 0, w30, w31]))]) (zrunV (As := []) (rest := [.int 0]) ⟨hx, hb, hml, hown, ht⟩ (zc_X1_cost_9 l D y a8 a5 (.int 0) w17 w18 w19 w20 w21 (.ref a22) w11 (.int 20) (.int 0) w12 (.int 0) (.int 0) a13 (.ref a14) w15 w16 w23 w24 w25 w26 w27 w28 w29) (cwV 0 ht (zgV zm_827 zm_828 zm_829 zm_28 zm_830) rfl rfl rfl (by decide +kernel) ⟨(Nat.le_of_ble_eq_true rfl), (Nat.le_of_ble_eq_true rfl)⟩) hK hE hS hA hW [3, 4, 5] (by decide) rfl 0 rfl rfl rfl rfl hl.1 rfl (Nat.le_of_ble_eq_true rfl) dX9_mean_60 (Nat.le_of_ble_eq_true rfl) (Nat.le_of_ble_eq_true rfl)) hS hA hW [3, 4, 5] [0, 1, 2] rfl rfl (by decide) (by decide) (fun r28_ u H locs hw hW hS => ?_)
      have hW : zPD D A [(a0, .inr (8, [w2, w3, w4, .ref a5, w6, w7, .ref a8, w9, w10])), (a22, .inl (y 2, 4, .inl (upd (fun _ => 0) 0 1))), (a14, .inr (5, [.int 0, w30, w31])), (a8, .inr (1, [.ref a5, .int 0, .int 27, w17, w18, w19, w20, w21, .ref a22])), (a5, .inr (6, [w11, .int 0, .int 20, .int 0, .int 0, w12, .int 0, .int 0, .ref a13, .ref a14, w15, w16])), (a13, .inr (2, [w23, .int 15, w24, w25, w26, w27, w28, w29]))] H := hW
      have hw : r28_ = 0 := hw
      subst hw
      refine lv_iadd hx hb dX9_mean_63 ?_
      refine ztop (w := .int 0) (congrArg Value.int (by decide)) ?_
      refine lv_istore_n (lv' := [(2, .int 0), (3, .int 7), (0, .ref a0), (1, .int p1)]) hx hb dX9_mean_64 rfl hl (by decide) rfl (fun ls hl => ?_)
      refine lv_iinc (k := 1) (v := 8) (lv' := [(3, .int 8), (2, .int 0), (0, .ref a0), (1, .int p1)]) hx hb dX9_mean_65 hl rfl (by decide) (by decide) rfl (fun ls hl => ?_)
      refine lv_goto (tgt := 33) hx hb dX9_mean_68 (by decide) ?_
      refine lv_iload_n hx hb dX9_mean_33 rfl (lv_at hl 0 rfl) ?_
      refine lv_bipush (v := 10) hx hb dX9_mean_34 (by decide) ?_
      refine lv_icmp_ge (tgt := 71) hx hb dX9_mean_36 (by decide) (fun c29_ => absurd c29_ (by decide)) (fun c29_ => ?_)
      refine lv_aload_n hx hb dX9_mean_39 rfl (lv_at hl 2 rfl) ?_
      refine zget hx hb ht inlX9 hown hK hW 0 rfl rfl 6 (by decide) zm_29 rfl dX9_mean_40 ?_
      refine lv_aload_n hx hb dX9_mean_43 rfl (lv_at hl 2 rfl) ?_
      refine zget hx hb ht inlX9 hown hK hW 0 rfl rfl 3 (by decide) zm_23 rfl dX9_mean_44 ?_
      refine zget hx hb ht inlX7 hown hK hW 4 rfl rfl 2 (by decide) zm_435 rfl dX9_mean_47 ?_
      refine lv_iload_n hx hb dX9_mean_50 rfl (lv_at hl 0 rfl) ?_
      refine lv_iadd hx hb dX9_mean_51 ?_
      refine ztop (w := .int 28) (congrArg Value.int (by decide)) ?_
      refine zput (ws' := [(a0, .inr (8, [w2, w3, w4, .ref a5, w6, w7, .ref a8, w9, w10])), (a22, .inl (y 2, 4, .inl (upd (fun _ => 0) 0 1))), (a14, .inr (5, [.int 0, w30, w31])), (a8, .inr (1, [.ref a5, .int 0, .int 28, w17, w18, w19, w20, w21, .ref a22])), (a5, .inr (6, [w11, .int 0, .int 20, .int 0, .int 0, w12, .int 0, .int 0, .ref a13, .ref a14, w15, w16])), (a13, .inr (2, [w23, .int 15, w24, w25, w26, w27, w28, w29]))]) hx hb ht inlX1 tyX1 tyX1_ok nmX1 hown hK hS hW 3 rfl rfl 2 (by decide) zm_992 rfl rfl rfl (Nat.le_of_ble_eq_true rfl) rfl dX9_mean_52 (fun H locs hW hS => ?_)
      refine lv_iload_n hx hb dX9_mean_55 rfl (lv_at hl 1 rfl) ?_
      refine lv_aload_n hx hb dX9_mean_56 rfl (lv_at hl 2 rfl) ?_
      refine zget hx hb ht inlX9 hown hK hW 0 rfl rfl 6 (by decide) zm_29 rfl dX9_mean_57 ?_
      refine zgo_i (wr := [(a0, .inr (8, [w2, w3, w4, .ref a5, w6, w7, .ref a8, w9, w10])), (a22, .inl (y 2, 4, .inl (upd (fun _ => 0) 0 1))), (a14, .inr (5, [.int 0, w30, w31]))]) (zrunV (As := []) (rest := [.int 0]) ⟨hx, hb, hml, hown, ht⟩ (zc_X1_cost_10 l D y a8 a5 (.int 0) w17 w18 w19 w20 w21 (.ref a22) w11 (.int 20) (.int 0) w12 (.int 0) (.int 0) a13 (.ref a14) w15 w16 w23 w24 w25 w26 w27 w28 w29) (cwV 0 ht (zgV zm_827 zm_828 zm_829 zm_28 zm_830) rfl rfl rfl (by decide +kernel) ⟨(Nat.le_of_ble_eq_true rfl), (Nat.le_of_ble_eq_true rfl)⟩) hK hE hS hA hW [3, 4, 5] (by decide) rfl 0 rfl rfl rfl rfl hl.1 rfl (Nat.le_of_ble_eq_true rfl) dX9_mean_60 (Nat.le_of_ble_eq_true rfl) (Nat.le_of_ble_eq_true rfl)) hS hA hW [3, 4, 5] [0, 1, 2] rfl rfl (by decide) (by decide) (fun r30_ u H locs hw hW hS => ?_)
      have hW : zPD D A [(a0, .inr (8, [w2, w3, w4, .ref a5, w6, w7, .ref a8, w9, w10])), (a22, .inl (y 2, 4, .inl (upd (fun _ => 0) 0 1))), (a14, .inr (5, [.int 0, w30, w31])), (a8, .inr (1, [.ref a5, .int 0, .int 28, w17, w18, w19, w20, w21, .ref a22])), (a5, .inr (6, [w11, .int 0, .int 20, .int 0, .int 0, w12, .int 0, .int 0, .ref a13, .ref a14, w15, w16])), (a13, .inr (2, [w23, .int 15, w24, w25, w26, w27, w28, w29]))] H := hW
      have hw : r30_ = 0 := hw
      subst hw
      refine lv_iadd hx hb dX9_mean_63 ?_
      refine ztop (w := .int 0) (congrArg Value.int (by decide)) ?_
      refine lv_istore_n (lv' := [(2, .int 0), (3, .int 8), (0, .ref a0), (1, .int p1)]) hx hb dX9_mean_64 rfl hl (by decide) rfl (fun ls hl => ?_)
      refine lv_iinc (k := 1) (v := 9) (lv' := [(3, .int 9), (2, .int 0), (0, .ref a0), (1, .int p1)]) hx hb dX9_mean_65 hl rfl (by decide) (by decide) rfl (fun ls hl => ?_)
      refine lv_goto (tgt := 33) hx hb dX9_mean_68 (by decide) ?_
      refine lv_iload_n hx hb dX9_mean_33 rfl (lv_at hl 0 rfl) ?_
      refine lv_bipush (v := 10) hx hb dX9_mean_34 (by decide) ?_
      refine lv_icmp_ge (tgt := 71) hx hb dX9_mean_36 (by decide) (fun c31_ => absurd c31_ (by decide)) (fun c31_ => ?_)
      refine lv_aload_n hx hb dX9_mean_39 rfl (lv_at hl 2 rfl) ?_
      refine zget hx hb ht inlX9 hown hK hW 0 rfl rfl 6 (by decide) zm_29 rfl dX9_mean_40 ?_
      refine lv_aload_n hx hb dX9_mean_43 rfl (lv_at hl 2 rfl) ?_
      refine zget hx hb ht inlX9 hown hK hW 0 rfl rfl 3 (by decide) zm_23 rfl dX9_mean_44 ?_
      refine zget hx hb ht inlX7 hown hK hW 4 rfl rfl 2 (by decide) zm_435 rfl dX9_mean_47 ?_
      refine lv_iload_n hx hb dX9_mean_50 rfl (lv_at hl 0 rfl) ?_
      refine lv_iadd hx hb dX9_mean_51 ?_
      refine ztop (w := .int 29) (congrArg Value.int (by decide)) ?_
      refine zput (ws' := [(a0, .inr (8, [w2, w3, w4, .ref a5, w6, w7, .ref a8, w9, w10])), (a22, .inl (y 2, 4, .inl (upd (fun _ => 0) 0 1))), (a14, .inr (5, [.int 0, w30, w31])), (a8, .inr (1, [.ref a5, .int 0, .int 29, w17, w18, w19, w20, w21, .ref a22])), (a5, .inr (6, [w11, .int 0, .int 20, .int 0, .int 0, w12, .int 0, .int 0, .ref a13, .ref a14, w15, w16])), (a13, .inr (2, [w23, .int 15, w24, w25, w26, w27, w28, w29]))]) hx hb ht inlX1 tyX1 tyX1_ok nmX1 hown hK hS hW 3 rfl rfl 2 (by decide) zm_992 rfl rfl rfl (Nat.le_of_ble_eq_true rfl) rfl dX9_mean_52 (fun H locs hW hS => ?_)
      refine lv_iload_n hx hb dX9_mean_55 rfl (lv_at hl 1 rfl) ?_
      refine lv_aload_n hx hb dX9_mean_56 rfl (lv_at hl 2 rfl) ?_
      refine zget hx hb ht inlX9 hown hK hW 0 rfl rfl 6 (by decide) zm_29 rfl dX9_mean_57 ?_
      refine zgo_i (wr := [(a0, .inr (8, [w2, w3, w4, .ref a5, w6, w7, .ref a8, w9, w10])), (a22, .inl (y 2, 4, .inl (upd (fun _ => 0) 0 1))), (a14, .inr (5, [.int 0, w30, w31]))]) (zrunV (As := []) (rest := [.int 0]) ⟨hx, hb, hml, hown, ht⟩ (zc_X1_cost_11 l D y a8 a5 (.int 0) w17 w18 w19 w20 w21 (.ref a22) w11 (.int 20) (.int 0) w12 (.int 0) (.int 0) a13 (.ref a14) w15 w16 w23 w24 w25 w26 w27 w28 w29) (cwV 0 ht (zgV zm_827 zm_828 zm_829 zm_28 zm_830) rfl rfl rfl (by decide +kernel) ⟨(Nat.le_of_ble_eq_true rfl), (Nat.le_of_ble_eq_true rfl)⟩) hK hE hS hA hW [3, 4, 5] (by decide) rfl 0 rfl rfl rfl rfl hl.1 rfl (Nat.le_of_ble_eq_true rfl) dX9_mean_60 (Nat.le_of_ble_eq_true rfl) (Nat.le_of_ble_eq_true rfl)) hS hA hW [3, 4, 5] [0, 1, 2] rfl rfl (by decide) (by decide) (fun r32_ u H locs hw hW hS => ?_)
      have hW : zPD D A [(a0, .inr (8, [w2, w3, w4, .ref a5, w6, w7, .ref a8, w9, w10])), (a22, .inl (y 2, 4, .inl (upd (fun _ => 0) 0 1))), (a14, .inr (5, [.int 0, w30, w31])), (a8, .inr (1, [.ref a5, .int 0, .int 29, w17, w18, w19, w20, w21, .ref a22])), (a5, .inr (6, [w11, .int 0, .int 20, .int 0, .int 0, w12, .int 0, .int 0, .ref a13, .ref a14, w15, w16])), (a13, .inr (2, [w23, .int 15, w24, w25, w26, w27, w28, w29]))] H := hW
      have hw : r32_ = 0 := hw
      subst hw
      refine lv_iadd hx hb dX9_mean_63 ?_
      refine ztop (w := .int 0) (congrArg Value.int (by decide)) ?_
      refine lv_istore_n (lv' := [(2, .int 0), (3, .int 9), (0, .ref a0), (1, .int p1)]) hx hb dX9_mean_64 rfl hl (by decide) rfl (fun ls hl => ?_)
      refine lv_iinc (k := 1) (v := 10) (lv' := [(3, .int 10), (2, .int 0), (0, .ref a0), (1, .int p1)]) hx hb dX9_mean_65 hl rfl (by decide) (by decide) rfl (fun ls hl => ?_)
      refine lv_goto (tgt := 33) hx hb dX9_mean_68 (by decide) ?_
      refine lv_iload_n hx hb dX9_mean_33 rfl (lv_at hl 0 rfl) ?_
      refine lv_bipush (v := 10) hx hb dX9_mean_34 (by decide) ?_
      refine lv_icmp_ge (tgt := 71) hx hb dX9_mean_36 (by decide) (fun c33_ => ?_) (fun c33_ => absurd (by decide) c33_)
      refine lv_iload_n hx hb dX9_mean_71 rfl (lv_at hl 1 rfl) ?_
      refine lv_bipush (v := 10) hx hb dX9_mean_72 (by decide) ?_
      refine lv_iload_n hx hb dX9_mean_74 rfl (lv_at hl 3 rfl) ?_
      refine zgo0_l (zrunS (As := [.int 0, .int 10, .int p1]) (rest := []) ⟨hx, hb, hml, hown, ht⟩ (zc_X9_partOf_1 l D y p1) (va_cwS 3 ht (zgS zm_1033 zm_1034 zm_2 zm_1035) rfl rfl rfl (by decide +kernel) ⟨(Nat.le_of_ble_eq_true rfl), (Nat.le_of_ble_eq_true rfl)⟩) hK hE hS hA hW [] (by decide) rfl rfl hl.1 rfl (Nat.le_of_ble_eq_true rfl) dX9_mean_75 (Nat.le_of_ble_eq_true rfl) (Nat.le_of_ble_eq_true rfl)) hS hA hW (fun r34_ u H locs hw hW hS => ?_)
      have hw : r34_ = (if p1 = 0 then 0 else 1) := hw
      by_cases c35_ : p1 = 0
      · have b36_ : 0 ≤ Int32.toInt p1 ∧ Int32.toInt p1 ≤ 0 := (by have u0 := b9_; have u1 := (zi_eq _ _).mp c35_; have u2 : (0 : Int32).toInt = 0 := (by decide); omega)
        rw [if_pos c35_] at hw
        subst hw
        exact zret_l (v := 0) hx hb hr hlocks hS () (by show _ = _; rw [if_neg c2_, if_neg c6_, if_pos c35_]) (hW.sub [] (by decide) rfl) (Nat.le_of_ble_eq_true rfl) (Nat.le_of_ble_eq_true rfl) dX9_mean_78
      · have b37_ : 1 ≤ Int32.toInt p1 ∧ Int32.toInt p1 ≤ 1 := (by have u0 := b9_; have u1 := (not_congr (zi_eq _ _)).mp c35_; have u2 : (0 : Int32).toInt = 0 := (by decide); omega)
        rw [if_neg c35_] at hw
        subst hw
        exact zret_l (v := 1) hx hb hr hlocks hS () (by show _ = _; rw [if_neg c2_, if_neg c6_, if_neg c35_]) (hW.sub [] (by decide) rfl) (Nat.le_of_ble_eq_true rfl) (Nat.le_of_ble_eq_true rfl) dX9_mean_78
set_option maxHeartbeats 8000000 in
set_option maxRecDepth 100000 in
theorem zc_X10_divisor_1 (l : Launch) (D : va_G) (y : Nat → ClassId) (a0 : Nat) (w1 : Value) (w2 : Value) (w3 : Value) (w4 : Value) (w5 : Value) (w6 : Value) (w7 : Value) (w8 : Value) (w9 : Value) (w10 : Value) (w11 : Value) (w12 : Value) (w13 : Value) (w14 : Value) (w15 : Value) (w16 : Value) (w17 : Value) (w18 : Value) (w19 : Value) (w20 : Value) (w21 : Value) (w22 : Value) (w23 : Value) (w24 : Value) (w25 : Value) (w26 : Value) (w27 : Value) (w28 : Value) (w29 : Value) (w30 : Value) (w31 : Value) (w32 : Value) (w33 : Value) (w34 : Value) (w35 : Value) (w36 : Value) (w37 : Value) (w38 : Value) (w39 : Value) (w40 : Value) (w41 : Value) (w42 : Value) (w43 : Value) (w44 : Value) (w45 : Value) (w46 : Value) (w47 : Value) (w48 : Value) (w49 : Value) (w50 : Value) (w51 : Value) (w52 : Value) (w53 : Value) (w54 : Value) (w55 : Value) (w56 : Value) (w57 : Value) (w58 : Value) (w59 : Value) (w60 : Value) (w61 : Value) (w62 : Value) (w63 : Value) (w64 : Value) (w65 : Value) (w66 : Value) (w67 : Value) (w68 : Value) (w69 : Value) (w70 : Value) (w71 : Value) (w72 : Value) (w73 : Value) (w74 : Value) (w75 : Value) (w76 : Value) : zM l D y yX10_divisor (Cond.code yX10_divisor cX10_divisor 6 (some .int) :: zT) { frames := 0, cells := 0, slots := 0, locals := 0 } [.ref a0, .int 0, .int 10] [(a0, .inr (9, [w1, w2, w3, w4, w5, w6, w7, w8, w9, w10, w11, w12, w13, w14, w15, w16, w17, w18, w19, w20, w21, w22, w23, w24, w25, w26, w27, w28, w29, w30, w31, w32, w33, w34, w35, w36, w37, w38, w39, w40, w41, w42, w43, w44, w45, w46, w47, w48, w49, w50, w51, w52, w53, w54, w55, w56, w57, w58, w59, w60, w61, w62, w63, w64, w65, w66, w67, w68, w69, w70, w71, w72, w73, w74, w75, w76]))] (zQi (S := Unit) D (fun r_ _ => r_ = 10) (fun _ => [(a0, .inr (9, [w1, w2, w3, w4, w5, w6, w7, w8, w9, w10, w11, w12, w13, w14, w15, w16, w17, w18, w19, w20, w21, w22, w23, w24, w25, w26, w27, w28, w29, w30, w31, w32, w33, w34, w35, w36, w37, w38, w39, w40, w41, w42, w43, w44, w45, w46, w47, w48, w49, w50, w51, w52, w53, w54, w55, w56, w57, w58, w59, w60, w61, w62, w63, w64, w65, w66, w67, w68, w69, w70, w71, w72, w73, w74, w75, w76]))])) := by
  refine zent (cc := cX10_divisor) (maxL := 6) (ret := (some .int)) (by decide) (Nat.le_of_ble_eq_true rfl) ?_
  intro p e s m below meth c A H locs ls hx hb hml hr ht hown hlocks hin hA hK hE hS hW hl
  have hown : s.vm.findClass RX10 = some m.cls := hown
  have hW : zPD D A [(a0, .inr (9, [w1, w2, w3, w4, w5, w6, w7, w8, w9, w10, w11, w12, w13, w14, w15, w16, w17, w18, w19, w20, w21, w22, w23, w24, w25, w26, w27, w28, w29, w30, w31, w32, w33, w34, w35, w36, w37, w38, w39, w40, w41, w42, w43, w44, w45, w46, w47, w48, w49, w50, w51, w52, w53, w54, w55, w56, w57, w58, w59, w60, w61, w62, w63, w64, w65, w66, w67, w68, w69, w70, w71, w72, w73, w74, w75, w76]))] H := hW
  have hl : lv_has ls 6 [(0, .ref a0), (1, .int 0), (2, .int 10)] := hl
  refine lv_iload_n hx hb dX10_divisor_0 rfl (lv_at hl 1 rfl) ?_
  refine lv_istore_n (lv' := [(3, .int 0), (0, .ref a0), (1, .int 0), (2, .int 10)]) hx hb dX10_divisor_1 rfl hl (by decide) rfl (fun ls hl => ?_)
  refine lv_iload_n hx hb dX10_divisor_2 rfl (lv_at hl 3 rfl) ?_
  refine lv_istore (lv' := [(4, .int 10), (3, .int 0), (0, .ref a0), (1, .int 0), (2, .int 10)]) hx hb dX10_divisor_3 hl (by decide) rfl (fun ls hl => ?_)
  refine lv_iload hx hb dX10_divisor_5 (lv_at hl 0 rfl) ?_
  refine lv_if_eq (tgt := 26) hx hb dX10_divisor_7 (by decide) (fun c1_ => absurd c1_ (by decide)) (fun c1_ => ?_)
  refine lv_iload_n hx hb dX10_divisor_10 rfl (lv_at hl 1 rfl) ?_
  refine lv_iload hx hb dX10_divisor_11 (lv_at hl 0 rfl) ?_
  refine lv_irem hx hb dX10_divisor_13 (by decide) ?_
  refine ztop (w := .int 0) (congrArg Value.int (by decide)) ?_
  refine lv_istore (lv' := [(5, .int 0), (4, .int 10), (3, .int 0), (0, .ref a0), (1, .int 0), (2, .int 10)]) hx hb dX10_divisor_14 hl (by decide) rfl (fun ls hl => ?_)
  refine lv_iload hx hb dX10_divisor_16 (lv_at hl 1 rfl) ?_
  refine lv_istore_n (lv' := [(3, .int 10), (5, .int 0), (4, .int 10), (0, .ref a0), (1, .int 0), (2, .int 10)]) hx hb dX10_divisor_18 rfl hl (by decide) rfl (fun ls hl => ?_)
  refine lv_iload hx hb dX10_divisor_19 (lv_at hl 1 rfl) ?_
  refine lv_istore (lv' := [(4, .int 0), (3, .int 10), (5, .int 0), (0, .ref a0), (1, .int 0), (2, .int 10)]) hx hb dX10_divisor_21 hl (by decide) rfl (fun ls hl => ?_)
  refine lv_goto (tgt := 5) hx hb dX10_divisor_23 (by decide) ?_
  refine lv_iload hx hb dX10_divisor_5 (lv_at hl 0 rfl) ?_
  refine lv_if_eq (tgt := 26) hx hb dX10_divisor_7 (by decide) (fun c2_ => ?_) (fun c2_ => absurd (by decide) c2_)
  refine lv_iload_n hx hb dX10_divisor_26 rfl (lv_at hl 1 rfl) ?_
  exact zret_i (v := 10) hx hb hr hlocks hS () rfl hW (Nat.le_of_ble_eq_true rfl) (Nat.le_of_ble_eq_true rfl) dX10_divisor_27
set_option maxHeartbeats 8000000 in
set_option maxRecDepth 100000 in
theorem zc_X10_lowest_1 (l : Launch) (D : va_G) (y : Nat → ClassId) (a0 : Nat) (p1 : Int32) (w2 : Value) (w3 : Value) (w4 : Value) (w5 : Value) (w6 : Value) (w7 : Value) (w8 : Value) (w9 : Value) (w10 : Value) (w11 : Value) (w12 : Value) (w13 : Value) (w14 : Value) (w15 : Value) (w16 : Value) (w17 : Value) (w18 : Value) (w19 : Value) (w20 : Value) (w21 : Value) (w22 : Value) (w23 : Value) (w24 : Value) (w25 : Value) (w26 : Value) (w27 : Value) (w28 : Value) (w29 : Value) (w30 : Value) (w31 : Value) (w32 : Value) (w33 : Value) (w34 : Value) (w35 : Value) (w36 : Value) (w37 : Value) (w38 : Value) (w39 : Value) (w40 : Value) (w41 : Value) (w42 : Value) (w43 : Value) (w44 : Value) (w45 : Value) (w46 : Value) (w47 : Value) (w48 : Value) (w49 : Value) (w50 : Value) (w51 : Value) (w52 : Value) (w53 : Value) (w54 : Value) (w55 : Value) (w56 : Value) (w57 : Value) (w58 : Value) (w59 : Value) (w60 : Value) (w61 : Value) (w62 : Value) (w63 : Value) (w64 : Value) (w65 : Value) (w66 : Value) (w67 : Value) (w68 : Value) (w69 : Value) (w70 : Value) (w71 : Value) (w72 : Value) (w73 : Value) (w74 : Value) (w75 : Value) (w76 : Value) (w77 : Value) : zM l D y yX10_lowest (Cond.code yX10_lowest cX10_lowest 5 (some .long) :: zT) { frames := 1, cells := 0, slots := 0, locals := 25 } [.ref a0, .int 0, .int 10, .int p1] [(a0, .inr (9, [w2, w3, w4, w5, w6, w7, w8, w9, w10, w11, w12, w13, w14, w15, w16, w17, w18, w19, w20, w21, w22, w23, w24, w25, w26, w27, w28, w29, w30, w31, w32, w33, w34, w35, w36, w37, w38, w39, w40, w41, w42, w43, w44, w45, w46, w47, w48, w49, w50, w51, w52, w53, w54, w55, w56, w57, w58, w59, w60, w61, w62, w63, w64, w65, w66, w67, w68, w69, w70, w71, w72, w73, w74, w75, w76, w77]))] (zQl (S := Unit) D (fun r_ _ => r_ = (if p1 = 0 then 0 else 1)) (fun _ => [(a0, .inr (9, [w2, w3, w4, w5, w6, w7, w8, w9, w10, w11, w12, w13, w14, w15, w16, w17, w18, w19, w20, w21, w22, w23, w24, w25, w26, w27, w28, w29, w30, w31, w32, w33, w34, w35, w36, w37, w38, w39, w40, w41, w42, w43, w44, w45, w46, w47, w48, w49, w50, w51, w52, w53, w54, w55, w56, w57, w58, w59, w60, w61, w62, w63, w64, w65, w66, w67, w68, w69, w70, w71, w72, w73, w74, w75, w76, w77]))])) := by
  refine zent (cc := cX10_lowest) (maxL := 5) (ret := (some .long)) (by decide) (Nat.le_of_ble_eq_true rfl) ?_
  intro p e s m below meth c A H locs ls hx hb hml hr ht hown hlocks hin hA hK hE hS hW hl
  have hown : s.vm.findClass RX10 = some m.cls := hown
  have hW : zPD D A [(a0, .inr (9, [w2, w3, w4, w5, w6, w7, w8, w9, w10, w11, w12, w13, w14, w15, w16, w17, w18, w19, w20, w21, w22, w23, w24, w25, w26, w27, w28, w29, w30, w31, w32, w33, w34, w35, w36, w37, w38, w39, w40, w41, w42, w43, w44, w45, w46, w47, w48, w49, w50, w51, w52, w53, w54, w55, w56, w57, w58, w59, w60, w61, w62, w63, w64, w65, w66, w67, w68, w69, w70, w71, w72, w73, w74, w75, w76, w77]))] H := hW
  have hl : lv_has ls 5 [(0, .ref a0), (1, .int 0), (2, .int 10), (3, .int p1)] := hl
  refine lv_aload_n hx hb dX10_lowest_0 rfl (lv_at hl 0 rfl) ?_
  refine lv_iload_n hx hb dX10_lowest_1 rfl (lv_at hl 1 rfl) ?_
  refine lv_iload_n hx hb dX10_lowest_2 rfl (lv_at hl 2 rfl) ?_
  refine zgo_i (wr := []) (zrunV (As := [.int 0, .int 10]) (rest := []) ⟨hx, hb, hml, hown, ht⟩ (zc_X10_divisor_1 l D y a0 w2 w3 w4 w5 w6 w7 w8 w9 w10 w11 w12 w13 w14 w15 w16 w17 w18 w19 w20 w21 w22 w23 w24 w25 w26 w27 w28 w29 w30 w31 w32 w33 w34 w35 w36 w37 w38 w39 w40 w41 w42 w43 w44 w45 w46 w47 w48 w49 w50 w51 w52 w53 w54 w55 w56 w57 w58 w59 w60 w61 w62 w63 w64 w65 w66 w67 w68 w69 w70 w71 w72 w73 w74 w75 w76 w77) (cwV 2 ht (zgV zm_1049 zm_1050 zm_1051 zm_5 zm_1052) rfl rfl rfl (by decide +kernel) ⟨(Nat.le_of_ble_eq_true rfl), (Nat.le_of_ble_eq_true rfl)⟩) hK hE hS hA hW [0] (by decide) rfl 0 rfl rfl rfl rfl hl.1 rfl (Nat.le_of_ble_eq_true rfl) dX10_lowest_3 (Nat.le_of_ble_eq_true rfl) (Nat.le_of_ble_eq_true rfl)) hS hA hW [0] [] rfl rfl (by decide) (by decide) (fun r1_ u H locs hw hW hS => ?_)
  have hW : zPD D A [(a0, .inr (9, [w2, w3, w4, w5, w6, w7, w8, w9, w10, w11, w12, w13, w14, w15, w16, w17, w18, w19, w20, w21, w22, w23, w24, w25, w26, w27, w28, w29, w30, w31, w32, w33, w34, w35, w36, w37, w38, w39, w40, w41, w42, w43, w44, w45, w46, w47, w48, w49, w50, w51, w52, w53, w54, w55, w56, w57, w58, w59, w60, w61, w62, w63, w64, w65, w66, w67, w68, w69, w70, w71, w72, w73, w74, w75, w76, w77]))] H := hW
  have hw : r1_ = 10 := hw
  subst hw
  refine lv_istore (lv' := [(4, .int 10), (0, .ref a0), (1, .int 0), (2, .int 10), (3, .int p1)]) hx hb dX10_lowest_6 hl (by decide) rfl (fun ls hl => ?_)
  refine lv_iload_n hx hb dX10_lowest_8 rfl (lv_at hl 4 rfl) ?_
  refine lv_if_ne (tgt := 20) hx hb dX10_lowest_9 (by decide) (fun c2_ => ?_) (fun c2_ => ?_)
  · have b3_ : (-2147483648) ≤ Int32.toInt p1 ∧ Int32.toInt p1 ≤ 2147483647 := (by have u0 := zbnd p1; have u1 := (not_congr (zi_eq _ _)).mp c2_; have u2 : (0 : Int32).toInt = 0 := (by decide); omega)
    refine lv_iload_n hx hb dX10_lowest_20 rfl (lv_at hl 3 rfl) ?_
    refine lv_iload hx hb dX10_lowest_21 (lv_at hl 0 rfl) ?_
    refine lv_idiv hx hb dX10_lowest_23 (by decide) ?_
    refine ztop (w := .int 1) (congrArg Value.int (by decide)) ?_
    refine lv_i2l (v := 1) hx hb dX10_lowest_24 (by decide) ?_
    exact zret_l (v := 1) hx hb hr hlocks hS () (by show _ = _; rw [if_neg c2_]) hW (Nat.le_of_ble_eq_true rfl) (Nat.le_of_ble_eq_true rfl) dX10_lowest_25
  · have b4_ : 0 ≤ Int32.toInt p1 ∧ Int32.toInt p1 ≤ 0 := (by have u0 := zbnd p1; have u1 := (zi_eq _ _).mp c2_; have u2 : (0 : Int32).toInt = 0 := (by decide); omega)
    refine lv_iload_n hx hb dX10_lowest_12 rfl (lv_at hl 2 rfl) ?_
    refine lv_iload hx hb dX10_lowest_13 (lv_at hl 0 rfl) ?_
    refine lv_idiv hx hb dX10_lowest_15 (by decide) ?_
    refine ztop (w := .int 0) (congrArg Value.int (by decide)) ?_
    refine lv_i2l (v := 0) hx hb dX10_lowest_16 (by decide) ?_
    refine lv_goto (tgt := 25) hx hb dX10_lowest_17 (by decide) ?_
    exact zret_l (v := 0) hx hb hr hlocks hS () (by show _ = _; rw [if_pos c2_]) hW (Nat.le_of_ble_eq_true rfl) (Nat.le_of_ble_eq_true rfl) dX10_lowest_25
set_option maxHeartbeats 8000000 in
set_option maxRecDepth 100000 in
theorem zc_X10_harmFrom_4 (l : Launch) (D : va_G) (y : Nat → ClassId) (a0 : Nat) (p1 : Int32) (w2 : Value) (w3 : Value) (p4 : Int32) (w5 : Value) (w6 : Value) (w7 : Value) (w8 : Value) (w9 : Value) (w10 : Value) (w11 : Value) (w12 : Value) (w13 : Value) (w14 : Value) (w15 : Value) (w16 : Value) (w17 : Value) (w18 : Value) (w19 : Value) (w20 : Value) (w21 : Value) (w22 : Value) (w23 : Value) (w24 : Value) (w25 : Value) (w26 : Value) (w27 : Value) (w28 : Value) (w29 : Value) (w30 : Value) (w31 : Value) (w32 : Value) (w33 : Value) (w34 : Value) (w35 : Value) (w36 : Value) (w37 : Value) (w38 : Value) (w39 : Value) (w40 : Value) (w41 : Value) (w42 : Value) (w43 : Value) (w44 : Value) (w45 : Value) (w46 : Value) (w47 : Value) (w48 : Value) (w49 : Value) (w50 : Value) (w51 : Value) (w52 : Value) (w53 : Value) (w54 : Value) (w55 : Value) (w56 : Value) (w57 : Value) (w58 : Value) (w59 : Value) (w60 : Value) (w61 : Value) (w62 : Value) (w63 : Value) (w64 : Value) (w65 : Value) (w66 : Value) (w67 : Value) (w68 : Value) (w69 : Value) (w70 : Value) (w71 : Value) (w72 : Value) (w73 : Value) (w74 : Value) (w75 : Value) (hp1 : 35 ≤ Int32.toInt p1 ∧ Int32.toInt p1 ≤ 44) (hp4 : 20 ≤ Int32.toInt p4 ∧ Int32.toInt p4 ≤ 29) : zM l D y yX10_harmFrom (Cond.code yX10_harmFrom cX10_harmFrom 5 (some .int) :: zT) { frames := 3, cells := 0, slots := 0, locals := 64 } [.ref a0, .int 0, .int p1] [(a0, .inr (9, [.int 0, w2, w3, .int p4, w5, w6, w7, w8, w9, w10, w11, w12, w13, w14, w15, .int (-1), w16, w17, w18, w19, w20, w21, w22, w23, w24, w25, w26, w27, w28, w29, w30, w31, w32, w33, w34, w35, w36, w37, w38, w39, w40, w41, w42, w43, w44, w45, w46, w47, w48, w49, w50, w51, w52, w53, w54, w55, w56, w57, w58, w59, w60, w61, w62, w63, w64, w65, w66, w67, w68, w69, w70, w71, w72, w73, w74, w75]))] (zQi (S := Unit) D (fun r_ _ => r_ = 0) (fun _ => [(a0, .inr (9, [.int 0, w2, w3, .int p4, w5, w6, w7, w8, w9, w10, w11, w12, w13, w14, w15, .int (-1), w16, w17, w18, w19, w20, w21, w22, w23, w24, w25, w26, w27, w28, w29, w30, w31, w32, w33, w34, w35, w36, w37, w38, w39, w40, w41, w42, w43, w44, w45, w46, w47, w48, w49, w50, w51, w52, w53, w54, w55, w56, w57, w58, w59, w60, w61, w62, w63, w64, w65, w66, w67, w68, w69, w70, w71, w72, w73, w74, w75]))])) := by
  refine zent (cc := cX10_harmFrom) (maxL := 5) (ret := (some .int)) (by decide) (Nat.le_of_ble_eq_true rfl) ?_
  intro p e s m below meth c A H locs ls hx hb hml hr ht hown hlocks hin hA hK hE hS hW hl
  have hown : s.vm.findClass RX10 = some m.cls := hown
  replace hW : zPD D A [(a0, .inr (9, [.int 0, w2, w3, .int p4, w5, w6, w7, w8, w9, w10, w11, w12, w13, w14, w15, .int (-1), w16, w17, w18, w19, w20, w21, w22, w23, w24, w25, w26, w27, w28, w29, w30, w31, w32, w33, w34, w35, w36, w37, w38, w39, w40, w41, w42, w43, w44, w45, w46, w47, w48, w49, w50, w51, w52, w53, w54, w55, w56, w57, w58, w59, w60, w61, w62, w63, w64, w65, w66, w67, w68, w69, w70, w71, w72, w73, w74, w75]))] H := hW
  replace hl : lv_has ls 5 [(0, .ref a0), (1, .int 0), (2, .int p1)] := hl
  refine lv_iconst (v := 0) hx hb dX10_harmFrom_0 (by decide) ?_
  refine lv_istore_n (lv' := [(3, .int 0), (0, .ref a0), (1, .int 0), (2, .int p1)]) hx hb dX10_harmFrom_1 rfl hl (by decide) rfl (fun ls hl => ?_)
  refine lv_iload_n hx hb dX10_harmFrom_2 rfl (lv_at hl 2 rfl) ?_
  refine lv_aload_n hx hb dX10_harmFrom_3 rfl (lv_at hl 1 rfl) ?_
  refine zget hx hb ht inlX10 hown hK hW 0 rfl rfl 3 (by decide) zm_143 rfl dX10_harmFrom_4 ?_
  refine lv_icmp_ge (tgt := 17) hx hb dX10_harmFrom_7 (by decide) (fun c1_ => absurd c1_ (by have z0 := hp4; have e0 : (0 : Int32).toInt = 0 := (by decide); rw [zi_le]; omega)) (fun c1_ => ?_)
  refine lv_aload_n hx hb dX10_harmFrom_10 rfl (lv_at hl 1 rfl) ?_
  refine zget hx hb ht inlX10 hown hK hW 0 rfl rfl 3 (by decide) zm_143 rfl dX10_harmFrom_11 ?_
  refine lv_goto (tgt := 18) hx hb dX10_harmFrom_14 (by decide) ?_
  refine lv_istore (lv' := [(4, .int p4), (3, .int 0), (0, .ref a0), (1, .int 0), (2, .int p1)]) hx hb dX10_harmFrom_18 hl (by decide) rfl (fun ls hl => ?_)
  obtain ⟨x2_, ex2_⟩ : ∃ z : Int32, z = p4 := ⟨_, rfl⟩
  obtain ⟨n20_, hI20_⟩ : ∃ n : Nat, (0 ≤ Int32.toInt x2_ ∧ Int32.toInt x2_ ≤ 250) ∧ (250 - Int32.toInt x2_ < (n : Int)) ∧ zPD D A [(a0, .inr (9, [.int 0, w2, w3, .int p4, w5, w6, w7, w8, w9, w10, w11, w12, w13, w14, w15, .int (-1), w16, w17, w18, w19, w20, w21, w22, w23, w24, w25, w26, w27, w28, w29, w30, w31, w32, w33, w34, w35, w36, w37, w38, w39, w40, w41, w42, w43, w44, w45, w46, w47, w48, w49, w50, w51, w52, w53, w54, w55, w56, w57, w58, w59, w60, w61, w62, w63, w64, w65, w66, w67, w68, w69, w70, w71, w72, w73, w74, w75]))] H ∧ va_S A s.heap H locs ∧ lv_has ls 5 [(4, .int x2_), (3, .int 0), (0, .ref a0), (1, .int 0), (2, .int p1)] := ⟨(250 - Int32.toInt x2_ + 1).toNat, by rw [ex2_]; exact (by have u0 := hp4; omega), by omega, by (try rw [ex2_]); exact hW, hS, by (try rw [ex2_]); exact hl⟩
  clear hW hS hl ex2_
  induction n20_ generalizing x2_ H locs ls with
  | zero => obtain ⟨bx2_, hn, -⟩ := hI20_; exact absurd hn (by omega)
  | succ n ih =>
    obtain ⟨bx2_, hn, hW, hS, hl⟩ := hI20_
    refine lv_iload hx hb dX10_harmFrom_20 (lv_at hl 0 rfl) ?_
    refine lv_iload_n hx hb dX10_harmFrom_22 rfl (lv_at hl 4 rfl) ?_
    refine lv_icmp_ge (tgt := 55) hx hb dX10_harmFrom_23 (by decide) (fun c3_ => ?_) (fun c3_ => ?_)
    · have b4_ : 35 ≤ Int32.toInt x2_ ∧ Int32.toInt x2_ ≤ 250 := (by have u0 := bx2_; have u1 := (zi_le _ _).mp c3_; have u2 := hp1; omega)
      refine lv_iload_n hx hb dX10_harmFrom_55 rfl (lv_at hl 1 rfl) ?_
      exact zret_i (v := 0) hx hb hr hlocks hS () rfl hW (Nat.le_of_ble_eq_true rfl) (Nat.le_of_ble_eq_true rfl) dX10_harmFrom_56
    · have b5_ : 0 ≤ Int32.toInt x2_ ∧ Int32.toInt x2_ ≤ 43 := (by have u0 := bx2_; have u1 := (not_congr (zi_le _ _)).mp c3_; have u2 := hp1; omega)
      refine lv_iload hx hb dX10_harmFrom_26 (lv_at hl 0 rfl) ?_
      refine lv_aload_n hx hb dX10_harmFrom_28 rfl (lv_at hl 2 rfl) ?_
      refine zget hx hb ht inlX10 hown hK hW 0 rfl rfl 3 (by decide) zm_143 rfl dX10_harmFrom_29 ?_
      refine lv_aload_n hx hb dX10_harmFrom_32 rfl (lv_at hl 2 rfl) ?_
      refine zgo_i (wr := []) (zrunV (As := []) (rest := [.int p4, .int x2_]) ⟨hx, hb, hml, hown, ht⟩ (zc_X10_lastNow_0 l D y a0 (.int 0) w2 w3 (.int p4) w5 w6 w7 w8 w9 w10 w11 w12 w13 w14 w15 w16 w17 w18 w19 w20 w21 w22 w23 w24 w25 w26 w27 w28 w29 w30 w31 w32 w33 w34 w35 w36 w37 w38 w39 w40 w41 w42 w43 w44 w45 w46 w47 w48 w49 w50 w51 w52 w53 w54 w55 w56 w57 w58 w59 w60 w61 w62 w63 w64 w65 w66 w67 w68 w69 w70 w71 w72 w73 w74 w75) (cwV 0 ht (zgV zm_381 zm_382 zm_383 zm_5 zm_384) rfl rfl rfl (by decide +kernel) ⟨(Nat.le_of_ble_eq_true rfl), (Nat.le_of_ble_eq_true rfl)⟩) hK hE hS hA hW [0] (by decide) rfl 0 rfl rfl rfl rfl hl.1 rfl (Nat.le_of_ble_eq_true rfl) dX10_harmFrom_33 (Nat.le_of_ble_eq_true rfl) (Nat.le_of_ble_eq_true rfl)) hS hA hW [0] [] rfl rfl (by decide) (by decide) (fun r6_ u H locs hw hW hS => ?_)
      replace hW : zPD D A [(a0, .inr (9, [.int 0, w2, w3, .int p4, w5, w6, w7, w8, w9, w10, w11, w12, w13, w14, w15, .int (-1), w16, w17, w18, w19, w20, w21, w22, w23, w24, w25, w26, w27, w28, w29, w30, w31, w32, w33, w34, w35, w36, w37, w38, w39, w40, w41, w42, w43, w44, w45, w46, w47, w48, w49, w50, w51, w52, w53, w54, w55, w56, w57, w58, w59, w60, w61, w62, w63, w64, w65, w66, w67, w68, w69, w70, w71, w72, w73, w74, w75]))] H := hW
      have hw : r6_ = 15 := hw
      subst hw
      refine lv_iadd hx hb dX10_harmFrom_36 ?_
      have b7_ : 35 ≤ Int32.toInt (p4 + 15) ∧ Int32.toInt (p4 + 15) ≤ 44 := by have u0 := hp4; have u1 := (show (15 : Int32).toInt = 15 from (by decide)); have u2 := zadd p4 15 (by omega) (by omega); omega
      refine lv_icmp_ge (tgt := 55) hx hb dX10_harmFrom_37 (by decide) (fun c8_ => ?_) (fun c8_ => ?_)
      · have b9_ : 35 ≤ Int32.toInt (p4 + 15) ∧ Int32.toInt (p4 + 15) ≤ 43 := (by have u0 := b7_; have u1 := (zi_le _ _).mp c8_; have u2 := b5_; omega)
        have b10_ : 35 ≤ Int32.toInt x2_ ∧ Int32.toInt x2_ ≤ 43 := (by have u0 := b5_; have u1 := (zi_le _ _).mp c8_; have u2 := b9_; omega)
        refine lv_iload_n hx hb dX10_harmFrom_55 rfl (lv_at hl 1 rfl) ?_
        exact zret_i (v := 0) hx hb hr hlocks hS () rfl hW (Nat.le_of_ble_eq_true rfl) (Nat.le_of_ble_eq_true rfl) dX10_harmFrom_56
      · refine lv_iload_n hx hb dX10_harmFrom_40 rfl (lv_at hl 1 rfl) ?_
        refine lv_aload_n hx hb dX10_harmFrom_41 rfl (lv_at hl 2 rfl) ?_
        refine lv_iload hx hb dX10_harmFrom_42 (lv_at hl 0 rfl) ?_
        refine zgo_i (wr := []) (zrunV (As := [.int x2_]) (rest := [.int 0]) ⟨hx, hb, hml, hown, ht⟩ (zc_X10_harmAt_0 l D y a0 x2_ w2 w3 (.int p4) w5 w6 w7 w8 w9 w10 w11 w12 w13 w14 w15 (.int (-1)) w16 w17 w18 w19 w20 w21 w22 w23 w24 w25 w26 w27 w28 w29 w30 w31 w32 w33 w34 w35 w36 w37 w38 w39 w40 w41 w42 w43 w44 w45 w46 w47 w48 w49 w50 w51 w52 w53 w54 w55 w56 w57 w58 w59 w60 w61 w62 w63 w64 w65 w66 w67 w68 w69 w70 w71 w72 w73 w74 w75) (cwV 1 ht (zgV zm_750 zm_751 zm_752 zm_5 zm_753) rfl rfl rfl (by decide +kernel) ⟨(Nat.le_of_ble_eq_true rfl), (Nat.le_of_ble_eq_true rfl)⟩) hK hE hS hA hW [0] (by decide) rfl 0 rfl rfl rfl rfl hl.1 rfl (Nat.le_of_ble_eq_true rfl) dX10_harmFrom_44 (Nat.le_of_ble_eq_true rfl) (Nat.le_of_ble_eq_true rfl)) hS hA hW [0] [] rfl rfl (by decide) (by decide) (fun r11_ u H locs hw hW hS => ?_)
        replace hW : zPD D A [(a0, .inr (9, [.int 0, w2, w3, .int p4, w5, w6, w7, w8, w9, w10, w11, w12, w13, w14, w15, .int (-1), w16, w17, w18, w19, w20, w21, w22, w23, w24, w25, w26, w27, w28, w29, w30, w31, w32, w33, w34, w35, w36, w37, w38, w39, w40, w41, w42, w43, w44, w45, w46, w47, w48, w49, w50, w51, w52, w53, w54, w55, w56, w57, w58, w59, w60, w61, w62, w63, w64, w65, w66, w67, w68, w69, w70, w71, w72, w73, w74, w75]))] H := hW
        have hw : r11_ = 0 := hw
        subst hw
        refine lv_iadd hx hb dX10_harmFrom_47 ?_
        refine ztop (w := .int 0) (congrArg Value.int (by decide)) ?_
        refine lv_istore_n (lv' := [(3, .int 0), (4, .int x2_), (0, .ref a0), (1, .int 0), (2, .int p1)]) hx hb dX10_harmFrom_48 rfl hl (by decide) rfl (fun ls hl => ?_)
        refine lv_iinc (k := 1) (v := (x2_ + 1)) (lv' := [(4, .int (x2_ + 1)), (3, .int 0), (0, .ref a0), (1, .int 0), (2, .int p1)]) hx hb dX10_harmFrom_49 hl rfl (by rfl) (by decide) rfl (fun ls hl => ?_)
        refine lv_goto (tgt := 20) hx hb dX10_harmFrom_52 (by decide) ?_
        have b12_ : 1 ≤ Int32.toInt (x2_ + 1) ∧ Int32.toInt (x2_ + 1) ≤ 44 := by have u0 := b5_; have u1 := zadd_1 x2_ (by omega); omega
        exact ih _ _ _ _ ⟨(by have u0 := b12_; omega), by have u0 := zadd_1 x2_ (by have u0 := b5_; omega); omega, hW, hS, (lv_sub hl [0, 1, 2, 3, 4] rfl)⟩
set_option maxHeartbeats 8000000 in
set_option maxRecDepth 100000 in
theorem zc_X10_harmTillEnd_3 (l : Launch) (D : va_G) (y : Nat → ClassId) (a0 : Nat) (w1 : Value) (p2 : Int32) (w3 : Value) (w4 : Value) (w5 : Value) (w6 : Value) (w7 : Value) (w8 : Value) (w9 : Value) (w10 : Value) (w11 : Value) (w12 : Value) (w13 : Value) (w14 : Value) (w15 : Value) (w16 : Value) (w17 : Value) (w18 : Value) (w19 : Value) (w20 : Value) (w21 : Value) (w22 : Value) (w23 : Value) (w24 : Value) (w25 : Value) (w26 : Value) (w27 : Value) (w28 : Value) (w29 : Value) (w30 : Value) (w31 : Value) (w32 : Value) (w33 : Value) (w34 : Value) (w35 : Value) (w36 : Value) (w37 : Value) (w38 : Value) (w39 : Value) (w40 : Value) (w41 : Value) (w42 : Value) (w43 : Value) (w44 : Value) (w45 : Value) (w46 : Value) (w47 : Value) (w48 : Value) (w49 : Value) (w50 : Value) (w51 : Value) (w52 : Value) (w53 : Value) (w54 : Value) (w55 : Value) (w56 : Value) (w57 : Value) (w58 : Value) (w59 : Value) (w60 : Value) (w61 : Value) (w62 : Value) (w63 : Value) (w64 : Value) (w65 : Value) (w66 : Value) (w67 : Value) (w68 : Value) (w69 : Value) (w70 : Value) (w71 : Value) (w72 : Value) (w73 : Value) (hp2 : 20 ≤ Int32.toInt p2 ∧ Int32.toInt p2 ≤ 29) : zM l D y yX10_harmTillEnd (Cond.code yX10_harmTillEnd cX10_harmTillEnd 1 (some .int) :: zT) { frames := 4, cells := 0, slots := 0, locals := 88 } [.ref a0] [(a0, .inr (9, [.int 0, .int 0, w1, .int p2, w3, w4, w5, w6, w7, w8, w9, w10, w11, w12, w13, .int (-1), w14, w15, w16, w17, w18, w19, w20, w21, w22, w23, w24, w25, w26, w27, w28, w29, w30, w31, w32, w33, w34, w35, w36, w37, w38, w39, w40, w41, w42, w43, w44, w45, w46, w47, w48, w49, w50, w51, w52, w53, w54, w55, w56, w57, w58, w59, w60, w61, w62, w63, w64, w65, w66, w67, w68, w69, w70, w71, w72, w73]))] (zQi (S := Unit) D (fun r_ _ => r_ = 0) (fun _ => [(a0, .inr (9, [.int 0, .int 0, w1, .int p2, w3, w4, w5, w6, w7, w8, w9, w10, w11, w12, w13, .int (-1), w14, w15, w16, w17, w18, w19, w20, w21, w22, w23, w24, w25, w26, w27, w28, w29, w30, w31, w32, w33, w34, w35, w36, w37, w38, w39, w40, w41, w42, w43, w44, w45, w46, w47, w48, w49, w50, w51, w52, w53, w54, w55, w56, w57, w58, w59, w60, w61, w62, w63, w64, w65, w66, w67, w68, w69, w70, w71, w72, w73]))])) := by
  refine zent (cc := cX10_harmTillEnd) (maxL := 1) (ret := (some .int)) (by decide) (Nat.le_of_ble_eq_true rfl) ?_
  intro p e s m below meth c A H locs ls hx hb hml hr ht hown hlocks hin hA hK hE hS hW hl
  have hown : s.vm.findClass RX10 = some m.cls := hown
  have hW : zPD D A [(a0, .inr (9, [.int 0, .int 0, w1, .int p2, w3, w4, w5, w6, w7, w8, w9, w10, w11, w12, w13, .int (-1), w14, w15, w16, w17, w18, w19, w20, w21, w22, w23, w24, w25, w26, w27, w28, w29, w30, w31, w32, w33, w34, w35, w36, w37, w38, w39, w40, w41, w42, w43, w44, w45, w46, w47, w48, w49, w50, w51, w52, w53, w54, w55, w56, w57, w58, w59, w60, w61, w62, w63, w64, w65, w66, w67, w68, w69, w70, w71, w72, w73]))] H := hW
  have hl : lv_has ls 1 [(0, .ref a0)] := hl
  refine lv_aload_n hx hb dX10_harmTillEnd_0 rfl (lv_at hl 0 rfl) ?_
  refine lv_aload_n hx hb dX10_harmTillEnd_1 rfl (lv_at hl 0 rfl) ?_
  refine zget hx hb ht inlX10 hown hK hW 0 rfl rfl 1 (by decide) zm_141 rfl dX10_harmTillEnd_2 ?_
  refine lv_aload_n hx hb dX10_harmTillEnd_5 rfl (lv_at hl 0 rfl) ?_
  refine zget hx hb ht inlX10 hown hK hW 0 rfl rfl 3 (by decide) zm_143 rfl dX10_harmTillEnd_6 ?_
  refine lv_aload_n hx hb dX10_harmTillEnd_9 rfl (lv_at hl 0 rfl) ?_
  refine zgo_i (wr := []) (zrunV (As := []) (rest := [.int p2, .int 0, .ref a0]) ⟨hx, hb, hml, hown, ht⟩ (zc_X10_lastNow_0 l D y a0 (.int 0) (.int 0) w1 (.int p2) w3 w4 w5 w6 w7 w8 w9 w10 w11 w12 w13 w14 w15 w16 w17 w18 w19 w20 w21 w22 w23 w24 w25 w26 w27 w28 w29 w30 w31 w32 w33 w34 w35 w36 w37 w38 w39 w40 w41 w42 w43 w44 w45 w46 w47 w48 w49 w50 w51 w52 w53 w54 w55 w56 w57 w58 w59 w60 w61 w62 w63 w64 w65 w66 w67 w68 w69 w70 w71 w72 w73) (cwV 0 ht (zgV zm_381 zm_382 zm_383 zm_5 zm_384) rfl rfl rfl (by decide +kernel) ⟨(Nat.le_of_ble_eq_true rfl), (Nat.le_of_ble_eq_true rfl)⟩) hK hE hS hA hW [0] (by decide) rfl 0 rfl rfl rfl rfl hl.1 rfl (Nat.le_of_ble_eq_true rfl) dX10_harmTillEnd_10 (Nat.le_of_ble_eq_true rfl) (Nat.le_of_ble_eq_true rfl)) hS hA hW [0] [] rfl rfl (by decide) (by decide) (fun r1_ u H locs hw hW hS => ?_)
  have hW : zPD D A [(a0, .inr (9, [.int 0, .int 0, w1, .int p2, w3, w4, w5, w6, w7, w8, w9, w10, w11, w12, w13, .int (-1), w14, w15, w16, w17, w18, w19, w20, w21, w22, w23, w24, w25, w26, w27, w28, w29, w30, w31, w32, w33, w34, w35, w36, w37, w38, w39, w40, w41, w42, w43, w44, w45, w46, w47, w48, w49, w50, w51, w52, w53, w54, w55, w56, w57, w58, w59, w60, w61, w62, w63, w64, w65, w66, w67, w68, w69, w70, w71, w72, w73]))] H := hW
  have hw : r1_ = 15 := hw
  subst hw
  refine lv_iadd hx hb dX10_harmTillEnd_13 ?_
  have b2_ : 35 ≤ Int32.toInt (p2 + 15) ∧ Int32.toInt (p2 + 15) ≤ 44 := by have u0 := hp2; have u1 := (show (15 : Int32).toInt = 15 from (by decide)); have u2 := zadd p2 15 (by omega) (by omega); omega
  refine zgo_i (wr := []) (zrunV (As := [.int 0, .int (p2 + 15)]) (rest := []) ⟨hx, hb, hml, hown, ht⟩ (zc_X10_harmFrom_4 l D y a0 (p2 + 15) (.int 0) w1 p2 w3 w4 w5 w6 w7 w8 w9 w10 w11 w12 w13 w14 w15 w16 w17 w18 w19 w20 w21 w22 w23 w24 w25 w26 w27 w28 w29 w30 w31 w32 w33 w34 w35 w36 w37 w38 w39 w40 w41 w42 w43 w44 w45 w46 w47 w48 w49 w50 w51 w52 w53 w54 w55 w56 w57 w58 w59 w60 w61 w62 w63 w64 w65 w66 w67 w68 w69 w70 w71 w72 w73 b2_ hp2) (cwV 2 ht (zgV zm_746 zm_747 zm_748 zm_5 zm_749) rfl rfl rfl (by decide +kernel) ⟨(Nat.le_of_ble_eq_true rfl), (Nat.le_of_ble_eq_true rfl)⟩) hK hE hS hA hW [0] (by decide) rfl 0 rfl rfl rfl rfl hl.1 rfl (Nat.le_of_ble_eq_true rfl) dX10_harmTillEnd_14 (Nat.le_of_ble_eq_true rfl) (Nat.le_of_ble_eq_true rfl)) hS hA hW [0] [] rfl rfl (by decide) (by decide) (fun r3_ u H locs hw hW hS => ?_)
  have hW : zPD D A [(a0, .inr (9, [.int 0, .int 0, w1, .int p2, w3, w4, w5, w6, w7, w8, w9, w10, w11, w12, w13, .int (-1), w14, w15, w16, w17, w18, w19, w20, w21, w22, w23, w24, w25, w26, w27, w28, w29, w30, w31, w32, w33, w34, w35, w36, w37, w38, w39, w40, w41, w42, w43, w44, w45, w46, w47, w48, w49, w50, w51, w52, w53, w54, w55, w56, w57, w58, w59, w60, w61, w62, w63, w64, w65, w66, w67, w68, w69, w70, w71, w72, w73]))] H := hW
  have hw : r3_ = 0 := hw
  subst hw
  exact zret_i (v := 0) hx hb hr hlocks hS () rfl hW (Nat.le_of_ble_eq_true rfl) (Nat.le_of_ble_eq_true rfl) dX10_harmTillEnd_17
set_option maxHeartbeats 8000000 in
set_option maxRecDepth 100000 in
theorem zc_X10_costOfPath_7 (l : Launch) (D : va_G) (y : Nat → ClassId) (a0 : Nat) (w1 : Value) (p2 : Int32) (w3 : Value) (w4 : Value) (w5 : Value) (w6 : Value) (w7 : Value) (w8 : Value) (w9 : Value) (a10 : Nat) (w11 : Value) (w12 : Value) (w13 : Value) (w14 : Value) (w15 : Value) (w16 : Value) (w17 : Value) (w18 : Value) (w19 : Value) (w20 : Value) (w21 : Value) (w22 : Value) (w23 : Value) (w24 : Value) (w25 : Value) (w26 : Value) (w27 : Value) (w28 : Value) (w29 : Value) (a30 : Nat) (w31 : Value) (w32 : Value) (w33 : Value) (w34 : Value) (w35 : Value) (w36 : Value) (w37 : Value) (w38 : Value) (w39 : Value) (w40 : Value) (w41 : Value) (w42 : Value) (w43 : Value) (w44 : Value) (w45 : Value) (w46 : Value) (w47 : Value) (w48 : Value) (w49 : Value) (w50 : Value) (w51 : Value) (w52 : Value) (w53 : Value) (w54 : Value) (w55 : Value) (w56 : Value) (w57 : Value) (w58 : Value) (w59 : Value) (w60 : Value) (w61 : Value) (w62 : Value) (w63 : Value) (w64 : Value) (w65 : Value) (w66 : Value) (w67 : Value) (w68 : Value) (w69 : Value) (w70 : Value) (f71 : Nat → Int32) (hp2 : 20 ≤ Int32.toInt p2 ∧ Int32.toInt p2 ≤ 29) : zM l D y yX10_costOfPath (Cond.code yX10_costOfPath cX10_costOfPath 3 (some .int) :: zT) { frames := 5, cells := 0, slots := 0, locals := 108 } [.ref a0, .int 0] [(a0, .inr (9, [.int 0, .int 0, w1, .int p2, w3, .int 0, .int 0, w4, w5, w6, w7, w8, w9, .ref a10, w11, .int (-1), w12, w13, w14, w15, w16, w17, w18, w19, w20, w21, w22, w23, w24, w25, w26, w27, w28, w29, .ref a30, .int 0, w31, w32, w33, w34, w35, w36, w37, w38, w39, w40, w41, w42, w43, w44, w45, w46, w47, w48, w49, w50, w51, w52, w53, w54, w55, w56, w57, w58, w59, w60, w61, w62, w63, w64, w65, w66, w67, w68, w69, w70])), (a10, .inl (y 2, 7, .inl (fun _ => 0))), (a30, .inl (y 0, 7, .inl f71))] (zQi (S := Unit) D (fun r_ _ => r_ = 0) (fun _ => [(a0, .inr (9, [.int 0, .int 0, w1, .int p2, w3, .int 0, .int 0, w4, w5, w6, w7, w8, w9, .ref a10, w11, .int (-1), w12, w13, w14, w15, w16, w17, w18, w19, w20, w21, w22, w23, w24, w25, w26, w27, w28, w29, .ref a30, .int 0, w31, w32, w33, w34, w35, w36, w37, w38, w39, w40, w41, w42, w43, w44, w45, w46, w47, w48, w49, w50, w51, w52, w53, w54, w55, w56, w57, w58, w59, w60, w61, w62, w63, w64, w65, w66, w67, w68, w69, w70])), (a10, .inl (y 2, 7, .inl (fun _ => 0))), (a30, .inl (y 0, 7, .inl (upd (upd (upd (upd (upd (upd (upd f71 0 99999) 1 99999) 2 99999) 3 99999) 4 99999) 5 99999) 6 99999)))])) := by
  refine zent (cc := cX10_costOfPath) (maxL := 3) (ret := (some .int)) (by decide) (Nat.le_of_ble_eq_true rfl) ?_
  intro p e s m below meth c A H locs ls hx hb hml hr ht hown hlocks hin hA hK hE hS hW hl
  have hown : s.vm.findClass RX10 = some m.cls := hown
  have hW : zPD D A [(a0, .inr (9, [.int 0, .int 0, w1, .int p2, w3, .int 0, .int 0, w4, w5, w6, w7, w8, w9, .ref a10, w11, .int (-1), w12, w13, w14, w15, w16, w17, w18, w19, w20, w21, w22, w23, w24, w25, w26, w27, w28, w29, .ref a30, .int 0, w31, w32, w33, w34, w35, w36, w37, w38, w39, w40, w41, w42, w43, w44, w45, w46, w47, w48, w49, w50, w51, w52, w53, w54, w55, w56, w57, w58, w59, w60, w61, w62, w63, w64, w65, w66, w67, w68, w69, w70])), (a10, .inl (y 2, 7, .inl (fun _ => 0))), (a30, .inl (y 0, 7, .inl f71))] H := hW
  have hl : lv_has ls 3 [(0, .ref a0), (1, .int 0)] := hl
  refine lv_aload_n hx hb dX10_costOfPath_0 rfl (lv_at hl 0 rfl) ?_
  refine zgo_v (wr := []) (zrunV (As := []) (rest := []) ⟨hx, hb, hml, hown, ht⟩ (zc_X10_layOpen_4 l D y a0 (.int 0) (.int 0) w1 (.int p2) w3 (.int 0) (.int 0) w4 w5 w6 w7 w8 w9 a10 w11 (.int (-1)) w12 w13 w14 w15 w16 w17 w18 w19 w20 w21 w22 w23 w24 w25 w26 w27 w28 w29 a30 (.int 0) w31 w32 w33 w34 w35 w36 w37 w38 w39 w40 w41 w42 w43 w44 w45 w46 w47 w48 w49 w50 w51 w52 w53 w54 w55 w56 w57 w58 w59 w60 w61 w62 w63 w64 w65 w66 w67 w68 w69 w70 f71) (cwV 0 ht (zgV zm_397 zm_398 zm_399 zm_5 zm_400) rfl rfl rfl (by decide +kernel) ⟨(Nat.le_of_ble_eq_true rfl), (Nat.le_of_ble_eq_true rfl)⟩) hK hE hS hA hW [0, 1, 2] (by decide) rfl 0 rfl rfl rfl rfl hl.1 rfl (Nat.le_of_ble_eq_true rfl) dX10_costOfPath_1 (Nat.le_of_ble_eq_true rfl) (Nat.le_of_ble_eq_true rfl)) hS hA hW [0, 1, 2] [] rfl rfl (by decide) (by decide) (fun u H locs hw hW hS => ?_)
  have hW : zPD D A [(a0, .inr (9, [.int 0, .int 0, w1, .int p2, w3, .int 0, .int 0, w4, w5, w6, w7, w8, w9, .ref a10, w11, .int (-1), w12, w13, w14, w15, w16, w17, w18, w19, w20, w21, w22, w23, w24, w25, w26, w27, w28, w29, .ref a30, .int 0, w31, w32, w33, w34, w35, w36, w37, w38, w39, w40, w41, w42, w43, w44, w45, w46, w47, w48, w49, w50, w51, w52, w53, w54, w55, w56, w57, w58, w59, w60, w61, w62, w63, w64, w65, w66, w67, w68, w69, w70])), (a10, .inl (y 2, 7, .inl (fun _ => 0))), (a30, .inl (y 0, 7, .inl (upd (upd (upd (upd (upd (upd (upd f71 0 99999) 1 99999) 2 99999) 3 99999) 4 99999) 5 99999) 6 99999)))] H := hW
  refine lv_aload_n hx hb dX10_costOfPath_4 rfl (lv_at hl 0 rfl) ?_
  refine lv_iconst (v := 0) hx hb dX10_costOfPath_5 (by decide) ?_
  refine lv_aload_n hx hb dX10_costOfPath_6 rfl (lv_at hl 0 rfl) ?_
  refine zget hx hb ht inlX10 hown hK hW 0 rfl rfl 35 (by decide) zm_175 rfl dX10_costOfPath_7 ?_
  refine lv_aload_n hx hb dX10_costOfPath_10 rfl (lv_at hl 0 rfl) ?_
  refine zget hx hb ht inlX10 hown hK hW 0 rfl rfl 1 (by decide) zm_141 rfl dX10_costOfPath_11 ?_
  refine lv_iload_n hx hb dX10_costOfPath_14 rfl (lv_at hl 1 rfl) ?_
  refine lv_iadd hx hb dX10_costOfPath_15 ?_
  refine ztop (w := .int 0) (congrArg Value.int (by decide)) ?_
  refine zgo_i (wr := [(a10, .inl (y 2, 7, .inl (fun _ => 0))), (a30, .inl (y 0, 7, .inl (upd (upd (upd (upd (upd (upd (upd f71 0 99999) 1 99999) 2 99999) 3 99999) 4 99999) 5 99999) 6 99999)))]) (zrunV (As := [.int 0, .int 0, .int 0]) (rest := []) ⟨hx, hb, hml, hown, ht⟩ (zc_X10_goes_0 l D y a0 (.int 0) (.int 0) w1 (.int p2) w3 w4 w5 w6 w7 w8 w9 (.ref a10) w11 (.int (-1)) w12 w13 w14 w15 w16 w17 w18 w19 w20 w21 w22 w23 w24 w25 w26 w27 w28 w29 (.ref a30) (.int 0) w31 w32 w33 w34 w35 w36 w37 w38 w39 w40 w41 w42 w43 w44 w45 w46 w47 w48 w49 w50 w51 w52 w53 w54 w55 w56 w57 w58 w59 w60 w61 w62 w63 w64 w65 w66 w67 w68 w69 w70) (cwV 3 ht (zgV zm_852 zm_853 zm_854 zm_5 zm_855) rfl rfl rfl (by decide +kernel) ⟨(Nat.le_of_ble_eq_true rfl), (Nat.le_of_ble_eq_true rfl)⟩) hK hE hS hA hW [0] (by decide) rfl 0 rfl rfl rfl rfl hl.1 rfl (Nat.le_of_ble_eq_true rfl) dX10_costOfPath_16 (Nat.le_of_ble_eq_true rfl) (Nat.le_of_ble_eq_true rfl)) hS hA hW [0] [1, 2] rfl rfl (by decide) (by decide) (fun r2_ u H locs hw hW hS => ?_)
  have hW : zPD D A [(a10, .inl (y 2, 7, .inl (fun _ => 0))), (a30, .inl (y 0, 7, .inl (upd (upd (upd (upd (upd (upd (upd f71 0 99999) 1 99999) 2 99999) 3 99999) 4 99999) 5 99999) 6 99999))), (a0, .inr (9, [.int 0, .int 0, w1, .int p2, w3, .int 0, .int 0, w4, w5, w6, w7, w8, w9, .ref a10, w11, .int (-1), w12, w13, w14, w15, w16, w17, w18, w19, w20, w21, w22, w23, w24, w25, w26, w27, w28, w29, .ref a30, .int 0, w31, w32, w33, w34, w35, w36, w37, w38, w39, w40, w41, w42, w43, w44, w45, w46, w47, w48, w49, w50, w51, w52, w53, w54, w55, w56, w57, w58, w59, w60, w61, w62, w63, w64, w65, w66, w67, w68, w69, w70]))] H := hW
  have hw : r2_ = 0 := hw
  subst hw
  refine lv_istore_n (lv' := [(2, .int 0), (0, .ref a0), (1, .int 0)]) hx hb dX10_costOfPath_19 rfl hl (by decide) rfl (fun ls hl => ?_)
  refine lv_aload_n hx hb dX10_costOfPath_20 rfl (lv_at hl 1 rfl) ?_
  refine zgo_i (wr := [(a10, .inl (y 2, 7, .inl (fun _ => 0))), (a30, .inl (y 0, 7, .inl (upd (upd (upd (upd (upd (upd (upd f71 0 99999) 1 99999) 2 99999) 3 99999) 4 99999) 5 99999) 6 99999)))]) (zrunV (As := []) (rest := []) ⟨hx, hb, hml, hown, ht⟩ (zc_X10_harmTillEnd_3 l D y a0 w1 p2 w3 (.int 0) (.int 0) w4 w5 w6 w7 w8 w9 (.ref a10) w11 w12 w13 w14 w15 w16 w17 w18 w19 w20 w21 w22 w23 w24 w25 w26 w27 w28 w29 (.ref a30) (.int 0) w31 w32 w33 w34 w35 w36 w37 w38 w39 w40 w41 w42 w43 w44 w45 w46 w47 w48 w49 w50 w51 w52 w53 w54 w55 w56 w57 w58 w59 w60 w61 w62 w63 w64 w65 w66 w67 w68 w69 w70 hp2) (cwV 0 ht (zgV zm_856 zm_857 zm_858 zm_5 zm_859) rfl rfl rfl (by decide +kernel) ⟨(Nat.le_of_ble_eq_true rfl), (Nat.le_of_ble_eq_true rfl)⟩) hK hE hS hA hW [2] (by decide) rfl 0 rfl rfl rfl rfl hl.1 rfl (Nat.le_of_ble_eq_true rfl) dX10_costOfPath_21 (Nat.le_of_ble_eq_true rfl) (Nat.le_of_ble_eq_true rfl)) hS hA hW [2] [0, 1] rfl rfl (by decide) (by decide) (fun r3_ u H locs hw hW hS => ?_)
  have hW : zPD D A [(a10, .inl (y 2, 7, .inl (fun _ => 0))), (a30, .inl (y 0, 7, .inl (upd (upd (upd (upd (upd (upd (upd f71 0 99999) 1 99999) 2 99999) 3 99999) 4 99999) 5 99999) 6 99999))), (a0, .inr (9, [.int 0, .int 0, w1, .int p2, w3, .int 0, .int 0, w4, w5, w6, w7, w8, w9, .ref a10, w11, .int (-1), w12, w13, w14, w15, w16, w17, w18, w19, w20, w21, w22, w23, w24, w25, w26, w27, w28, w29, .ref a30, .int 0, w31, w32, w33, w34, w35, w36, w37, w38, w39, w40, w41, w42, w43, w44, w45, w46, w47, w48, w49, w50, w51, w52, w53, w54, w55, w56, w57, w58, w59, w60, w61, w62, w63, w64, w65, w66, w67, w68, w69, w70]))] H := hW
  have hw : r3_ = 0 := hw
  subst hw
  exact zret_i (v := 0) hx hb hr hlocks hS () rfl (hW.sub [2, 0, 1] (by decide) rfl) (Nat.le_of_ble_eq_true rfl) (Nat.le_of_ble_eq_true rfl) dX10_costOfPath_24
set_option maxHeartbeats 8000000 in
set_option maxRecDepth 100000 in
theorem zc_X10_costOfRound_4 (l : Launch) (D : va_G) (y : Nat → ClassId) (a0 : Nat) (w1 : Value) (p2 : Int32) (w3 : Value) (w4 : Value) (w5 : Value) (w6 : Value) (w7 : Value) (w8 : Value) (w9 : Value) (a10 : Nat) (w11 : Value) (w12 : Value) (w13 : Value) (w14 : Value) (w15 : Value) (w16 : Value) (w17 : Value) (w18 : Value) (w19 : Value) (w20 : Value) (w21 : Value) (w22 : Value) (w23 : Value) (w24 : Value) (w25 : Value) (w26 : Value) (w27 : Value) (w28 : Value) (a29 : Nat) (a30 : Nat) (a31 : Nat) (w32 : Value) (w33 : Value) (w34 : Value) (w35 : Value) (w36 : Value) (w37 : Value) (w38 : Value) (w39 : Value) (w40 : Value) (w41 : Value) (w42 : Value) (w43 : Value) (w44 : Value) (w45 : Value) (w46 : Value) (w47 : Value) (w48 : Value) (w49 : Value) (w50 : Value) (w51 : Value) (w52 : Value) (w53 : Value) (w54 : Value) (w55 : Value) (w56 : Value) (w57 : Value) (w58 : Value) (w59 : Value) (w60 : Value) (w61 : Value) (w62 : Value) (w63 : Value) (w64 : Value) (w65 : Value) (w66 : Value) (w67 : Value) (w68 : Value) (f69 : Nat → Int32) (hp2 : 20 ≤ Int32.toInt p2 ∧ Int32.toInt p2 ≤ 29) : zM l D y yX10_costOfRound (Cond.code yX10_costOfRound cX10_costOfRound 2 (some .int) :: zT) { frames := 6, cells := 0, slots := 0, locals := 130 } [.ref a0, .int 0] [(a0, .inr (9, [.int 0, .int 0, w1, .int p2, w3, .int 0, .int 0, w4, w5, w6, w7, w8, w9, .ref a10, w11, .int (-1), w12, w13, w14, w15, w16, w17, w18, w19, w20, w21, w22, w23, w24, w25, w26, w27, .int 0, w28, .ref a29, .int 0, .ref a30, .int 0, .ref a31, w32, w33, w34, w35, w36, w37, w38, w39, w40, w41, w42, w43, w44, w45, w46, w47, w48, w49, w50, w51, w52, w53, w54, w55, w56, w57, w58, w59, w60, w61, w62, w63, w64, w65, w66, w67, w68])), (a10, .inl (y 2, 7, .inl (fun _ => 0))), (a29, .inl (y 0, 7, .inl f69)), (a30, .inl (y 0, 7, .inl (fun _ => 0))), (a31, .inl (y 0, 7, .inl (fun _ => 0)))] (zQi (S := Unit) D (fun r_ _ => r_ = 0) (fun _ => [(a0, .inr (9, [.int 0, .int 0, w1, .int p2, w3, .int 0, .int 0, w4, w5, w6, w7, w8, w9, .ref a10, w11, .int (-1), w12, w13, w14, w15, w16, w17, w18, w19, w20, w21, w22, w23, w24, w25, w26, w27, .int 0, w28, .ref a29, .int 0, .ref a30, .int 0, .ref a31, w32, w33, w34, w35, w36, w37, w38, w39, w40, w41, w42, w43, w44, w45, w46, w47, w48, w49, w50, w51, w52, w53, w54, w55, w56, w57, w58, w59, w60, w61, w62, w63, w64, w65, w66, w67, w68])), (a10, .inl (y 2, 7, .inl (fun _ => 0))), (a29, .inl (y 0, 7, .inl (upd (upd (upd (upd (upd (upd (upd f69 0 99999) 1 99999) 2 99999) 3 99999) 4 99999) 5 99999) 6 99999))), (a30, .inl (y 0, 7, .inl (fun _ => 0))), (a31, .inl (y 0, 7, .inl (fun _ => 0)))])) := by
  refine zent (cc := cX10_costOfRound) (maxL := 2) (ret := (some .int)) (by decide) (Nat.le_of_ble_eq_true rfl) ?_
  intro p e s m below meth c A H locs ls hx hb hml hr ht hown hlocks hin hA hK hE hS hW hl
  have hown : s.vm.findClass RX10 = some m.cls := hown
  have hW : zPD D A [(a0, .inr (9, [.int 0, .int 0, w1, .int p2, w3, .int 0, .int 0, w4, w5, w6, w7, w8, w9, .ref a10, w11, .int (-1), w12, w13, w14, w15, w16, w17, w18, w19, w20, w21, w22, w23, w24, w25, w26, w27, .int 0, w28, .ref a29, .int 0, .ref a30, .int 0, .ref a31, w32, w33, w34, w35, w36, w37, w38, w39, w40, w41, w42, w43, w44, w45, w46, w47, w48, w49, w50, w51, w52, w53, w54, w55, w56, w57, w58, w59, w60, w61, w62, w63, w64, w65, w66, w67, w68])), (a10, .inl (y 2, 7, .inl (fun _ => 0))), (a29, .inl (y 0, 7, .inl f69)), (a30, .inl (y 0, 7, .inl (fun _ => 0))), (a31, .inl (y 0, 7, .inl (fun _ => 0)))] H := hW
  have hl : lv_has ls 2 [(0, .ref a0), (1, .int 0)] := hl
  refine lv_aload_n hx hb dX10_costOfRound_0 rfl (lv_at hl 0 rfl) ?_
  refine zgo_v (wr := [(a10, .inl (y 2, 7, .inl (fun _ => 0))), (a29, .inl (y 0, 7, .inl f69)), (a30, .inl (y 0, 7, .inl (fun _ => 0))), (a31, .inl (y 0, 7, .inl (fun _ => 0)))]) (zrunV (As := []) (rest := []) ⟨hx, hb, hml, hown, ht⟩ (zc_X10_layRain_0 l D y a0 (.int 0) w1 (.int p2) w3 (.int 0) (.int 0) w4 w5 w6 w7 w8 w9 (.ref a10) w11 w12 w13 w14 w15 w16 w17 w18 w19 w20 w21 w22 w23 w24 w25 w26 w27 w28 (.ref a29) (.int 0) (.ref a30) (.int 0) (.ref a31) w32 w33 w34 w35 w36 w37 w38 w39 w40 w41 w42 w43 w44 w45 w46 w47 w48 w49 w50 w51 w52 w53 w54 w55 w56 w57 w58 w59 w60 w61 w62 w63 w64 w65 w66 w67 w68) (cwV 0 ht (zgV zm_377 zm_378 zm_379 zm_5 zm_380) rfl rfl rfl (by decide +kernel) ⟨(Nat.le_of_ble_eq_true rfl), (Nat.le_of_ble_eq_true rfl)⟩) hK hE hS hA hW [0] (by decide) rfl 0 rfl rfl rfl rfl hl.1 rfl (Nat.le_of_ble_eq_true rfl) dX10_costOfRound_1 (Nat.le_of_ble_eq_true rfl) (Nat.le_of_ble_eq_true rfl)) hS hA hW [0] [1, 2, 3, 4] rfl rfl (by decide) (by decide) (fun u H locs hw hW hS => ?_)
  have hW : zPD D A [(a10, .inl (y 2, 7, .inl (fun _ => 0))), (a29, .inl (y 0, 7, .inl f69)), (a30, .inl (y 0, 7, .inl (fun _ => 0))), (a31, .inl (y 0, 7, .inl (fun _ => 0))), (a0, .inr (9, [.int 0, .int 0, w1, .int p2, w3, .int 0, .int 0, w4, w5, w6, w7, w8, w9, .ref a10, w11, .int (-1), w12, w13, w14, w15, w16, w17, w18, w19, w20, w21, w22, w23, w24, w25, w26, w27, .int 0, w28, .ref a29, .int 0, .ref a30, .int 0, .ref a31, w32, w33, w34, w35, w36, w37, w38, w39, w40, w41, w42, w43, w44, w45, w46, w47, w48, w49, w50, w51, w52, w53, w54, w55, w56, w57, w58, w59, w60, w61, w62, w63, w64, w65, w66, w67, w68]))] H := hW
  refine lv_aload_n hx hb dX10_costOfRound_4 rfl (lv_at hl 0 rfl) ?_
  refine zgo_v (wr := [(a10, .inl (y 2, 7, .inl (fun _ => 0))), (a29, .inl (y 0, 7, .inl f69))]) (zrunV (As := []) (rest := []) ⟨hx, hb, hml, hown, ht⟩ (zc_X10_layRound_0 l D y a0 (.int 0) (.int 0) w1 (.int p2) w3 (.int 0) (.int 0) w4 w5 w6 w7 w8 w9 (.ref a10) w11 (.int (-1)) w12 w13 w14 w15 w16 w17 w18 w19 w20 w21 w22 w23 w24 w25 w26 w27 (.int 0) w28 (.ref a29) a30 a31 w32 w33 w34 w35 w36 w37 w38 w39 w40 w41 w42 w43 w44 w45 w46 w47 w48 w49 w50 w51 w52 w53 w54 w55 w56 w57 w58 w59 w60 w61 w62 w63 w64 w65 w66 w67 w68) (cwV 0 ht (zgV zm_844 zm_845 zm_846 zm_5 zm_847) rfl rfl rfl (by decide +kernel) ⟨(Nat.le_of_ble_eq_true rfl), (Nat.le_of_ble_eq_true rfl)⟩) hK hE hS hA hW [4, 2, 3] (by decide) rfl 0 rfl rfl rfl rfl hl.1 rfl (Nat.le_of_ble_eq_true rfl) dX10_costOfRound_5 (Nat.le_of_ble_eq_true rfl) (Nat.le_of_ble_eq_true rfl)) hS hA hW [4, 2, 3] [0, 1] rfl rfl (by decide) (by decide) (fun u H locs hw hW hS => ?_)
  have hW : zPD D A [(a10, .inl (y 2, 7, .inl (fun _ => 0))), (a29, .inl (y 0, 7, .inl f69)), (a0, .inr (9, [.int 0, .int 0, w1, .int p2, w3, .int 0, .int 0, w4, w5, w6, w7, w8, w9, .ref a10, w11, .int (-1), w12, w13, w14, w15, w16, w17, w18, w19, w20, w21, w22, w23, w24, w25, w26, w27, .int 0, w28, .ref a29, .int 0, .ref a30, .int 0, .ref a31, w32, w33, w34, w35, w36, w37, w38, w39, w40, w41, w42, w43, w44, w45, w46, w47, w48, w49, w50, w51, w52, w53, w54, w55, w56, w57, w58, w59, w60, w61, w62, w63, w64, w65, w66, w67, w68])), (a30, .inl (y 0, 7, .inl (fun _ => 0))), (a31, .inl (y 0, 7, .inl (fun _ => 0)))] H := hW
  refine lv_aload_n hx hb dX10_costOfRound_8 rfl (lv_at hl 0 rfl) ?_
  refine lv_iload_n hx hb dX10_costOfRound_9 rfl (lv_at hl 1 rfl) ?_
  refine zgo_i (wr := [(a30, .inl (y 0, 7, .inl (fun _ => 0))), (a31, .inl (y 0, 7, .inl (fun _ => 0)))]) (zrunV (As := [.int 0]) (rest := []) ⟨hx, hb, hml, hown, ht⟩ (zc_X10_costOfPath_7 l D y a0 w1 p2 w3 w4 w5 w6 w7 w8 w9 a10 w11 w12 w13 w14 w15 w16 w17 w18 w19 w20 w21 w22 w23 w24 w25 w26 w27 (.int 0) w28 a29 (.ref a30) (.int 0) (.ref a31) w32 w33 w34 w35 w36 w37 w38 w39 w40 w41 w42 w43 w44 w45 w46 w47 w48 w49 w50 w51 w52 w53 w54 w55 w56 w57 w58 w59 w60 w61 w62 w63 w64 w65 w66 w67 w68 f69 hp2) (cwV 1 ht (zgV zm_848 zm_849 zm_850 zm_5 zm_851) rfl rfl rfl (by decide +kernel) ⟨(Nat.le_of_ble_eq_true rfl), (Nat.le_of_ble_eq_true rfl)⟩) hK hE hS hA hW [2, 0, 1] (by decide) rfl 0 rfl rfl rfl rfl hl.1 rfl (Nat.le_of_ble_eq_true rfl) dX10_costOfRound_10 (Nat.le_of_ble_eq_true rfl) (Nat.le_of_ble_eq_true rfl)) hS hA hW [2, 0, 1] [3, 4] rfl rfl (by decide) (by decide) (fun r3_ u H locs hw hW hS => ?_)
  have hW : zPD D A [(a30, .inl (y 0, 7, .inl (fun _ => 0))), (a31, .inl (y 0, 7, .inl (fun _ => 0))), (a0, .inr (9, [.int 0, .int 0, w1, .int p2, w3, .int 0, .int 0, w4, w5, w6, w7, w8, w9, .ref a10, w11, .int (-1), w12, w13, w14, w15, w16, w17, w18, w19, w20, w21, w22, w23, w24, w25, w26, w27, .int 0, w28, .ref a29, .int 0, .ref a30, .int 0, .ref a31, w32, w33, w34, w35, w36, w37, w38, w39, w40, w41, w42, w43, w44, w45, w46, w47, w48, w49, w50, w51, w52, w53, w54, w55, w56, w57, w58, w59, w60, w61, w62, w63, w64, w65, w66, w67, w68])), (a10, .inl (y 2, 7, .inl (fun _ => 0))), (a29, .inl (y 0, 7, .inl (upd (upd (upd (upd (upd (upd (upd f69 0 99999) 1 99999) 2 99999) 3 99999) 4 99999) 5 99999) 6 99999)))] H := hW
  have hw : r3_ = 0 := hw
  subst hw
  exact zret_i (v := 0) hx hb hr hlocks hS () rfl (hW.sub [2, 3, 4, 0, 1] (by decide) rfl) (Nat.le_of_ble_eq_true rfl) (Nat.le_of_ble_eq_true rfl) dX10_costOfRound_13
set_option maxHeartbeats 8000000 in
set_option maxRecDepth 100000 in
theorem zc_X10_mean_0 (l : Launch) (D : va_G) (y : Nat → ClassId) (a0 : Nat) (p1 : Int32) (w2 : Value) (w3 : Value) (w4 : Value) (w5 : Value) (w6 : Value) (w7 : Value) (w8 : Value) (w9 : Value) (a10 : Nat) (w11 : Value) (w12 : Value) (w13 : Value) (w14 : Value) (w15 : Value) (w16 : Value) (w17 : Value) (w18 : Value) (w19 : Value) (w20 : Value) (w21 : Value) (w22 : Value) (w23 : Value) (w24 : Value) (w25 : Value) (w26 : Value) (w27 : Value) (w28 : Value) (a29 : Nat) (a30 : Nat) (a31 : Nat) (w32 : Value) (w33 : Value) (w34 : Value) (w35 : Value) (w36 : Value) (w37 : Value) (w38 : Value) (w39 : Value) (w40 : Value) (w41 : Value) (w42 : Value) (w43 : Value) (w44 : Value) (w45 : Value) (w46 : Value) (w47 : Value) (w48 : Value) (w49 : Value) (w50 : Value) (w51 : Value) (w52 : Value) (w53 : Value) (w54 : Value) (w55 : Value) (w56 : Value) (w57 : Value) (w58 : Value) (w59 : Value) (w60 : Value) (w61 : Value) (w62 : Value) (w63 : Value) (w64 : Value) (w65 : Value) (w66 : Value) (w67 : Value) (w68 : Value) : zM l D y yX10_mean (Cond.code yX10_mean cX10_mean 5 (some .long) :: zT) { frames := 7, cells := 0, slots := 0, locals := 151 } [.ref a0, .int p1] [(a0, .inr (9, [.int 0, .int 0, w2, .int 20, w3, .int 0, .int 0, w4, w5, w6, w7, w8, w9, .ref a10, w11, .int (-1), w12, w13, w14, w15, w16, w17, w18, w19, w20, w21, w22, w23, w24, w25, w26, w27, .int 0, w28, .ref a29, .int 0, .ref a30, .int 0, .ref a31, w32, w33, w34, w35, w36, w37, w38, w39, w40, w41, w42, w43, w44, w45, w46, w47, w48, w49, w50, w51, w52, w53, w54, w55, w56, w57, w58, w59, w60, w61, w62, w63, w64, w65, w66, w67, w68])), (a10, .inl (y 2, 7, .inl (fun _ => 0))), (a29, .inl (y 0, 7, .inl (fun _ => 0))), (a30, .inl (y 0, 7, .inl (fun _ => 0))), (a31, .inl (y 0, 7, .inl (fun _ => 0)))] (zQl (S := Unit) D (fun r_ _ => r_ = (if p1 < 0 then (-9223372036854775808) else (if 1 < p1 then (-9223372036854775808) else (if p1 = 0 then 0 else 1)))) (fun _ => [])) := by
  refine zent (cc := cX10_mean) (maxL := 5) (ret := (some .long)) (by decide) (Nat.le_of_ble_eq_true rfl) ?_
  intro p e s m below meth c A H locs ls hx hb hml hr ht hown hlocks hin hA hK hE hS hW hl
  have hown : s.vm.findClass RX10 = some m.cls := hown
  replace hW : zPD D A [(a0, .inr (9, [.int 0, .int 0, w2, .int 20, w3, .int 0, .int 0, w4, w5, w6, w7, w8, w9, .ref a10, w11, .int (-1), w12, w13, w14, w15, w16, w17, w18, w19, w20, w21, w22, w23, w24, w25, w26, w27, .int 0, w28, .ref a29, .int 0, .ref a30, .int 0, .ref a31, w32, w33, w34, w35, w36, w37, w38, w39, w40, w41, w42, w43, w44, w45, w46, w47, w48, w49, w50, w51, w52, w53, w54, w55, w56, w57, w58, w59, w60, w61, w62, w63, w64, w65, w66, w67, w68])), (a10, .inl (y 2, 7, .inl (fun _ => 0))), (a29, .inl (y 0, 7, .inl (fun _ => 0))), (a30, .inl (y 0, 7, .inl (fun _ => 0))), (a31, .inl (y 0, 7, .inl (fun _ => 0)))] H := hW
  replace hl : lv_has ls 5 [(0, .ref a0), (1, .int p1)] := hl
  refine lv_aload_n hx hb dX10_mean_0 rfl (lv_at hl 0 rfl) ?_
  refine lv_iload_n hx hb dX10_mean_1 rfl (lv_at hl 1 rfl) ?_
  refine lv_iconst (v := 0) hx hb dX10_mean_2 (by decide) ?_
  refine lv_iconst (v := 1) hx hb dX10_mean_3 (by decide) ?_
  refine zgo_i (wr := [(a10, .inl (y 2, 7, .inl (fun _ => 0))), (a29, .inl (y 0, 7, .inl (fun _ => 0))), (a30, .inl (y 0, 7, .inl (fun _ => 0))), (a31, .inl (y 0, 7, .inl (fun _ => 0)))]) (zrunV (As := [.int p1, .int 0, .int 1]) (rest := []) ⟨hx, hb, hml, hown, ht⟩ (zc_X10_in_11 l D y a0 p1 (.int 0) (.int 0) w2 (.int 20) w3 (.int 0) (.int 0) w4 w5 w6 w7 w8 w9 (.ref a10) w11 (.int (-1)) w12 w13 w14 w15 w16 w17 w18 w19 w20 w21 w22 w23 w24 w25 w26 w27 (.int 0) w28 (.ref a29) (.int 0) (.ref a30) (.int 0) (.ref a31) w32 w33 w34 w35 w36 w37 w38 w39 w40 w41 w42 w43 w44 w45 w46 w47 w48 w49 w50 w51 w52 w53 w54 w55 w56 w57 w58 w59 w60 w61 w62 w63 w64 w65 w66 w67 w68) (cwV 3 ht (zgV zm_240 zm_241 zm_242 zm_5 zm_243) rfl rfl rfl (by decide +kernel) ⟨(Nat.le_of_ble_eq_true rfl), (Nat.le_of_ble_eq_true rfl)⟩) hK hE hS hA hW [0] (by decide) rfl 0 rfl rfl rfl rfl hl.1 rfl (Nat.le_of_ble_eq_true rfl) dX10_mean_4 (Nat.le_of_ble_eq_true rfl) (Nat.le_of_ble_eq_true rfl)) hS hA hW [0] [1, 2, 3, 4] rfl rfl (by decide) (by decide) (fun r1_ u H locs hw hW hS => ?_)
  replace hW : zPD D A [(a10, .inl (y 2, 7, .inl (fun _ => 0))), (a29, .inl (y 0, 7, .inl (fun _ => 0))), (a30, .inl (y 0, 7, .inl (fun _ => 0))), (a31, .inl (y 0, 7, .inl (fun _ => 0))), (a0, .inr (9, [.int 0, .int 0, w2, .int 20, w3, .int 0, .int 0, w4, w5, w6, w7, w8, w9, .ref a10, w11, .int (-1), w12, w13, w14, w15, w16, w17, w18, w19, w20, w21, w22, w23, w24, w25, w26, w27, .int 0, w28, .ref a29, .int 0, .ref a30, .int 0, .ref a31, w32, w33, w34, w35, w36, w37, w38, w39, w40, w41, w42, w43, w44, w45, w46, w47, w48, w49, w50, w51, w52, w53, w54, w55, w56, w57, w58, w59, w60, w61, w62, w63, w64, w65, w66, w67, w68]))] H := hW
  have hw : r1_ = (if p1 < 0 then 0 else (if 1 < p1 then 0 else 1)) := hw
  by_cases c2_ : p1 < 0
  · have b3_ : (-2147483648) ≤ Int32.toInt p1 ∧ Int32.toInt p1 ≤ (-1) := (by have u0 := zbnd p1; have u1 := (zi_lt _ _).mp c2_; have u2 : (0 : Int32).toInt = 0 := (by decide); omega)
    rw [if_pos c2_] at hw
    subst hw
    refine lv_if_ne (tgt := 14) hx hb dX10_mean_7 (by decide) (fun c4_ => absurd (by decide) c4_) (fun c4_ => ?_)
    refine lv_ldc2 (v := (-9223372036854775808)) hx hb hown (ht _ zm_1044) dX10_mean_10 ?_
    exact zret_l (v := (-9223372036854775808)) hx hb hr hlocks hS () (by show _ = _; rw [if_pos c2_]) (hW.sub [] (by decide) rfl) (Nat.le_of_ble_eq_true rfl) (Nat.le_of_ble_eq_true rfl) dX10_mean_13
  · have b5_ : 0 ≤ Int32.toInt p1 ∧ Int32.toInt p1 ≤ 2147483647 := (by have u0 := zbnd p1; have u1 := (not_congr (zi_lt _ _)).mp c2_; have u2 : (0 : Int32).toInt = 0 := (by decide); omega)
    rw [if_neg c2_] at hw
    by_cases c6_ : 1 < p1
    · have b7_ : 2 ≤ Int32.toInt p1 ∧ Int32.toInt p1 ≤ 2147483647 := (by have u0 := b5_; have u1 := (zi_lt _ _).mp c6_; have u2 : (1 : Int32).toInt = 1 := (by decide); omega)
      rw [if_pos c6_] at hw
      subst hw
      refine lv_if_ne (tgt := 14) hx hb dX10_mean_7 (by decide) (fun c8_ => absurd (by decide) c8_) (fun c8_ => ?_)
      refine lv_ldc2 (v := (-9223372036854775808)) hx hb hown (ht _ zm_1044) dX10_mean_10 ?_
      exact zret_l (v := (-9223372036854775808)) hx hb hr hlocks hS () (by show _ = _; rw [if_neg c2_, if_pos c6_]) (hW.sub [] (by decide) rfl) (Nat.le_of_ble_eq_true rfl) (Nat.le_of_ble_eq_true rfl) dX10_mean_13
    · have b9_ : 0 ≤ Int32.toInt p1 ∧ Int32.toInt p1 ≤ 1 := (by have u0 := b5_; have u1 := (not_congr (zi_lt _ _)).mp c6_; have u2 : (1 : Int32).toInt = 1 := (by decide); omega)
      rw [if_neg c6_] at hw
      subst hw
      refine lv_if_ne (tgt := 14) hx hb dX10_mean_7 (by decide) (fun c10_ => ?_) (fun c10_ => absurd c10_ (by decide))
      refine lv_aload_n hx hb dX10_mean_14 rfl (lv_at hl 0 rfl) ?_
      refine zget hx hb ht inlX10 hown hK hW 4 rfl rfl 3 (by decide) zm_143 rfl dX10_mean_15 ?_
      refine lv_istore_n (lv' := [(2, .int 20), (0, .ref a0), (1, .int p1)]) hx hb dX10_mean_18 rfl hl (by decide) rfl (fun ls hl => ?_)
      refine lv_iconst (v := 0) hx hb dX10_mean_19 (by decide) ?_
      refine lv_istore_n (lv' := [(3, .int 0), (2, .int 20), (0, .ref a0), (1, .int p1)]) hx hb dX10_mean_20 rfl hl (by decide) rfl (fun ls hl => ?_)
      refine lv_iconst (v := 0) hx hb dX10_mean_21 (by decide) ?_
      refine lv_istore (lv' := [(4, .int 0), (3, .int 0), (2, .int 20), (0, .ref a0), (1, .int p1)]) hx hb dX10_mean_22 hl (by decide) rfl (fun ls hl => ?_)
      obtain ⟨x11_, ex11_⟩ : ∃ z : Int32, z = 0 := ⟨_, rfl⟩
      obtain ⟨x12_, ex12_⟩ : ∃ z : Int32, z = 20 := ⟨_, rfl⟩
      obtain ⟨g13_, eg13_⟩ : ∃ z : Nat → Int32, z = (fun _ => 0) := ⟨_, rfl⟩
      obtain ⟨n24_, hI24_⟩ : ∃ n : Nat, (0 ≤ Int32.toInt x11_ ∧ Int32.toInt x11_ ≤ 10) ∧ (0 ≤ Int32.toInt x12_ ∧ Int32.toInt x12_ ≤ 60) ∧ (10 - Int32.toInt x11_ < (n : Int)) ∧ zPD D A [(a10, .inl (y 2, 7, .inl (fun _ => 0))), (a29, .inl (y 0, 7, .inl g13_)), (a30, .inl (y 0, 7, .inl (fun _ => 0))), (a31, .inl (y 0, 7, .inl (fun _ => 0))), (a0, .inr (9, [.int 0, .int 0, w2, .int x12_, w3, .int 0, .int 0, w4, w5, w6, w7, w8, w9, .ref a10, w11, .int (-1), w12, w13, w14, w15, w16, w17, w18, w19, w20, w21, w22, w23, w24, w25, w26, w27, .int 0, w28, .ref a29, .int 0, .ref a30, .int 0, .ref a31, w32, w33, w34, w35, w36, w37, w38, w39, w40, w41, w42, w43, w44, w45, w46, w47, w48, w49, w50, w51, w52, w53, w54, w55, w56, w57, w58, w59, w60, w61, w62, w63, w64, w65, w66, w67, w68]))] H ∧ va_S A s.heap H locs ∧ lv_has ls 5 [(4, .int x11_), (3, .int 0), (2, .int 20), (0, .ref a0), (1, .int p1)] := ⟨(10 - Int32.toInt x11_ + 1).toNat, by rw [ex11_]; exact (by decide), by rw [ex12_]; exact (by decide), by omega, by (try rw [ex11_]); (try rw [ex12_]); (try rw [eg13_]); exact hW, hS, by (try rw [ex11_]); (try rw [ex12_]); (try rw [eg13_]); exact hl⟩
      clear hW hS hl ex11_ ex12_ eg13_
      induction n24_ generalizing x11_ x12_ g13_ H locs ls with
      | zero => obtain ⟨bx11_, bx12_, hn, -⟩ := hI24_; exact absurd hn (by omega)
      | succ n ih =>
        obtain ⟨bx11_, bx12_, hn, hW, hS, hl⟩ := hI24_
        refine lv_iload hx hb dX10_mean_24 (lv_at hl 0 rfl) ?_
        refine lv_bipush (v := 10) hx hb dX10_mean_26 (by decide) ?_
        refine lv_icmp_ge (tgt := 53) hx hb dX10_mean_28 (by decide) (fun c14_ => ?_) (fun c14_ => ?_)
        · have b15_ : 10 ≤ Int32.toInt x11_ ∧ Int32.toInt x11_ ≤ 10 := (by have u0 := bx11_; have u1 := (zi_le _ _).mp c14_; have u2 : (10 : Int32).toInt = 10 := (by decide); omega)
          refine lv_aload_n hx hb dX10_mean_53 rfl (lv_at hl 3 rfl) ?_
          refine lv_iload_n hx hb dX10_mean_54 rfl (lv_at hl 2 rfl) ?_
          refine zput (ws' := [(a10, .inl (y 2, 7, .inl (fun _ => 0))), (a29, .inl (y 0, 7, .inl g13_)), (a30, .inl (y 0, 7, .inl (fun _ => 0))), (a31, .inl (y 0, 7, .inl (fun _ => 0))), (a0, .inr (9, [.int 0, .int 0, w2, .int 20, w3, .int 0, .int 0, w4, w5, w6, w7, w8, w9, .ref a10, w11, .int (-1), w12, w13, w14, w15, w16, w17, w18, w19, w20, w21, w22, w23, w24, w25, w26, w27, .int 0, w28, .ref a29, .int 0, .ref a30, .int 0, .ref a31, w32, w33, w34, w35, w36, w37, w38, w39, w40, w41, w42, w43, w44, w45, w46, w47, w48, w49, w50, w51, w52, w53, w54, w55, w56, w57, w58, w59, w60, w61, w62, w63, w64, w65, w66, w67, w68]))]) hx hb ht inlX10 tyX10 tyX10_ok nmX10 hown hK hS hW 4 rfl rfl 3 (by decide) zm_143 rfl rfl rfl (Nat.le_of_ble_eq_true rfl) rfl dX10_mean_55 (fun H locs hW hS => ?_)
          refine lv_aload_n hx hb dX10_mean_58 rfl (lv_at hl 3 rfl) ?_
          refine lv_iload_n hx hb dX10_mean_59 rfl (lv_at hl 1 rfl) ?_
          refine lv_bipush (v := 10) hx hb dX10_mean_60 (by decide) ?_
          refine lv_iload_n hx hb dX10_mean_62 rfl (lv_at hl 4 rfl) ?_
          refine zgo_l (wr := [(a10, .inl (y 2, 7, .inl (fun _ => 0))), (a29, .inl (y 0, 7, .inl g13_)), (a30, .inl (y 0, 7, .inl (fun _ => 0))), (a31, .inl (y 0, 7, .inl (fun _ => 0)))]) (zrunV (As := [.int 0, .int 10, .int p1]) (rest := []) ⟨hx, hb, hml, hown, ht⟩ (zc_X10_lowest_1 l D y a0 p1 (.int 0) (.int 0) w2 (.int 20) w3 (.int 0) (.int 0) w4 w5 w6 w7 w8 w9 (.ref a10) w11 (.int (-1)) w12 w13 w14 w15 w16 w17 w18 w19 w20 w21 w22 w23 w24 w25 w26 w27 (.int 0) w28 (.ref a29) (.int 0) (.ref a30) (.int 0) (.ref a31) w32 w33 w34 w35 w36 w37 w38 w39 w40 w41 w42 w43 w44 w45 w46 w47 w48 w49 w50 w51 w52 w53 w54 w55 w56 w57 w58 w59 w60 w61 w62 w63 w64 w65 w66 w67 w68) (cwV 3 ht (zgV zm_1045 zm_1046 zm_1047 zm_5 zm_1048) rfl rfl rfl (by decide +kernel) ⟨(Nat.le_of_ble_eq_true rfl), (Nat.le_of_ble_eq_true rfl)⟩) hK hE hS hA hW [4] (by decide) rfl 0 rfl rfl rfl rfl hl.1 rfl (Nat.le_of_ble_eq_true rfl) dX10_mean_63 (Nat.le_of_ble_eq_true rfl) (Nat.le_of_ble_eq_true rfl)) hS hA hW [4] [0, 1, 2, 3] rfl rfl (by decide) (by decide) (fun r16_ u H locs hw hW hS => ?_)
          replace hW : zPD D A [(a10, .inl (y 2, 7, .inl (fun _ => 0))), (a29, .inl (y 0, 7, .inl g13_)), (a30, .inl (y 0, 7, .inl (fun _ => 0))), (a31, .inl (y 0, 7, .inl (fun _ => 0))), (a0, .inr (9, [.int 0, .int 0, w2, .int 20, w3, .int 0, .int 0, w4, w5, w6, w7, w8, w9, .ref a10, w11, .int (-1), w12, w13, w14, w15, w16, w17, w18, w19, w20, w21, w22, w23, w24, w25, w26, w27, .int 0, w28, .ref a29, .int 0, .ref a30, .int 0, .ref a31, w32, w33, w34, w35, w36, w37, w38, w39, w40, w41, w42, w43, w44, w45, w46, w47, w48, w49, w50, w51, w52, w53, w54, w55, w56, w57, w58, w59, w60, w61, w62, w63, w64, w65, w66, w67, w68]))] H := hW
          have hw : r16_ = (if p1 = 0 then 0 else 1) := hw
          by_cases c17_ : p1 = 0
          · have b18_ : 0 ≤ Int32.toInt p1 ∧ Int32.toInt p1 ≤ 0 := (by have u0 := b9_; have u1 := (zi_eq _ _).mp c17_; have u2 : (0 : Int32).toInt = 0 := (by decide); omega)
            rw [if_pos c17_] at hw
            subst hw
            exact zret_l (v := 0) hx hb hr hlocks hS () (by show _ = _; rw [if_neg c2_, if_neg c6_, if_pos c17_]) (hW.sub [] (by decide) rfl) (Nat.le_of_ble_eq_true rfl) (Nat.le_of_ble_eq_true rfl) dX10_mean_66
          · have b19_ : 1 ≤ Int32.toInt p1 ∧ Int32.toInt p1 ≤ 1 := (by have u0 := b9_; have u1 := (not_congr (zi_eq _ _)).mp c17_; have u2 : (0 : Int32).toInt = 0 := (by decide); omega)
            rw [if_neg c17_] at hw
            subst hw
            exact zret_l (v := 1) hx hb hr hlocks hS () (by show _ = _; rw [if_neg c2_, if_neg c6_, if_neg c17_]) (hW.sub [] (by decide) rfl) (Nat.le_of_ble_eq_true rfl) (Nat.le_of_ble_eq_true rfl) dX10_mean_66
        · have b20_ : 0 ≤ Int32.toInt x11_ ∧ Int32.toInt x11_ ≤ 9 := (by have u0 := bx11_; have u1 := (not_congr (zi_le _ _)).mp c14_; have u2 : (10 : Int32).toInt = 10 := (by decide); omega)
          refine lv_aload_n hx hb dX10_mean_31 rfl (lv_at hl 3 rfl) ?_
          refine lv_iload_n hx hb dX10_mean_32 rfl (lv_at hl 2 rfl) ?_
          refine lv_iload hx hb dX10_mean_33 (lv_at hl 0 rfl) ?_
          refine lv_iadd hx hb dX10_mean_35 ?_
          have b21_ : 20 ≤ Int32.toInt (20 + x11_) ∧ Int32.toInt (20 + x11_) ≤ 29 := by have u0 := (show (20 : Int32).toInt = 20 from (by decide)); have u1 := b20_; have u2 := zadd 20 x11_ (by omega) (by omega); omega
          refine zput (ws' := [(a10, .inl (y 2, 7, .inl (fun _ => 0))), (a29, .inl (y 0, 7, .inl g13_)), (a30, .inl (y 0, 7, .inl (fun _ => 0))), (a31, .inl (y 0, 7, .inl (fun _ => 0))), (a0, .inr (9, [.int 0, .int 0, w2, .int (20 + x11_), w3, .int 0, .int 0, w4, w5, w6, w7, w8, w9, .ref a10, w11, .int (-1), w12, w13, w14, w15, w16, w17, w18, w19, w20, w21, w22, w23, w24, w25, w26, w27, .int 0, w28, .ref a29, .int 0, .ref a30, .int 0, .ref a31, w32, w33, w34, w35, w36, w37, w38, w39, w40, w41, w42, w43, w44, w45, w46, w47, w48, w49, w50, w51, w52, w53, w54, w55, w56, w57, w58, w59, w60, w61, w62, w63, w64, w65, w66, w67, w68]))]) hx hb ht inlX10 tyX10 tyX10_ok nmX10 hown hK hS hW 4 rfl rfl 3 (by decide) zm_143 rfl rfl rfl (Nat.le_of_ble_eq_true rfl) rfl dX10_mean_36 (fun H locs hW hS => ?_)
          refine lv_iload_n hx hb dX10_mean_39 rfl (lv_at hl 1 rfl) ?_
          refine lv_aload_n hx hb dX10_mean_40 rfl (lv_at hl 3 rfl) ?_
          refine lv_iconst (v := 0) hx hb dX10_mean_41 (by decide) ?_
          refine zgo_i (wr := []) (zrunV (As := [.int 0]) (rest := [.int 0]) ⟨hx, hb, hml, hown, ht⟩ (zc_X10_costOfRound_4 l D y a0 w2 (20 + x11_) w3 w4 w5 w6 w7 w8 w9 a10 w11 w12 w13 w14 w15 w16 w17 w18 w19 w20 w21 w22 w23 w24 w25 w26 w27 w28 a29 a30 a31 w32 w33 w34 w35 w36 w37 w38 w39 w40 w41 w42 w43 w44 w45 w46 w47 w48 w49 w50 w51 w52 w53 w54 w55 w56 w57 w58 w59 w60 w61 w62 w63 w64 w65 w66 w67 w68 g13_ b21_) (cwV 1 ht (zgV zm_840 zm_841 zm_842 zm_5 zm_843) rfl rfl rfl (by decide +kernel) ⟨(Nat.le_of_ble_eq_true rfl), (Nat.le_of_ble_eq_true rfl)⟩) hK hE hS hA hW [4, 0, 1, 2, 3] (by decide) rfl 0 rfl rfl rfl rfl hl.1 rfl (Nat.le_of_ble_eq_true rfl) dX10_mean_42 (Nat.le_of_ble_eq_true rfl) (Nat.le_of_ble_eq_true rfl)) hS hA hW [4, 0, 1, 2, 3] [] rfl rfl (by decide) (by decide) (fun r22_ u H locs hw hW hS => ?_)
          replace hW : zPD D A [(a0, .inr (9, [.int 0, .int 0, w2, .int (20 + x11_), w3, .int 0, .int 0, w4, w5, w6, w7, w8, w9, .ref a10, w11, .int (-1), w12, w13, w14, w15, w16, w17, w18, w19, w20, w21, w22, w23, w24, w25, w26, w27, .int 0, w28, .ref a29, .int 0, .ref a30, .int 0, .ref a31, w32, w33, w34, w35, w36, w37, w38, w39, w40, w41, w42, w43, w44, w45, w46, w47, w48, w49, w50, w51, w52, w53, w54, w55, w56, w57, w58, w59, w60, w61, w62, w63, w64, w65, w66, w67, w68])), (a10, .inl (y 2, 7, .inl (fun _ => 0))), (a29, .inl (y 0, 7, .inl (upd (upd (upd (upd (upd (upd (upd g13_ 0 99999) 1 99999) 2 99999) 3 99999) 4 99999) 5 99999) 6 99999))), (a30, .inl (y 0, 7, .inl (fun _ => 0))), (a31, .inl (y 0, 7, .inl (fun _ => 0)))] H := hW
          have hw : r22_ = 0 := hw
          subst hw
          refine lv_iadd hx hb dX10_mean_45 ?_
          refine ztop (w := .int 0) (congrArg Value.int (by decide)) ?_
          refine lv_istore_n (lv' := [(3, .int 0), (4, .int x11_), (2, .int 20), (0, .ref a0), (1, .int p1)]) hx hb dX10_mean_46 rfl hl (by decide) rfl (fun ls hl => ?_)
          refine lv_iinc (k := 1) (v := (x11_ + 1)) (lv' := [(4, .int (x11_ + 1)), (3, .int 0), (2, .int 20), (0, .ref a0), (1, .int p1)]) hx hb dX10_mean_47 hl rfl (by rfl) (by decide) rfl (fun ls hl => ?_)
          refine lv_goto (tgt := 24) hx hb dX10_mean_50 (by decide) ?_
          have b23_ : 1 ≤ Int32.toInt (x11_ + 1) ∧ Int32.toInt (x11_ + 1) ≤ 10 := by have u0 := b20_; have u1 := zadd_1 x11_ (by omega); omega
          exact ih _ _ _ _ _ _ ⟨(by have u0 := b23_; omega), (by have u0 := b21_; omega), by have u0 := zadd_1 x11_ (by have u0 := b20_; omega); omega, (hW.sub [1, 2, 3, 4, 0] (by decide) rfl), hS, (lv_sub hl [0, 1, 2, 3, 4] rfl)⟩
set_option maxHeartbeats 8000000 in
set_option maxRecDepth 100000 in
theorem zc_X9_book_0 (l : Launch) (D : va_G) (y : Nat → ClassId) (a0 : Nat) (p1 : Int32) (p2 : Int32) (w3 : Value) (w4 : Value) (w5 : Value) (a6 : Nat) (w7 : Value) (w8 : Value) (w9 : Value) (w10 : Value) (w11 : Value) (w12 : Value) (w13 : Value) (w14 : Value) (w15 : Value) (w16 : Value) (w17 : Value) (w18 : Value) (w19 : Value) (w20 : Value) (w21 : Value) (a22 : Nat) (w23 : Value) (w24 : Value) : zM l D y yX9_book (Cond.code yX9_book cX9_book 3 (some .int) :: zT) { frames := 2, cells := 0, slots := 0, locals := 44 } [.ref a0, .int p1, .int p2] [(a0, .inr (8, [w3, w4, w5, .ref a6, w7, w8, w9, w10, w11])), (a6, .inr (6, [w12, .int 0, w13, w14, w15, w16, w17, w18, w19, w20, w21, .ref a22])), (a22, .inr (5, [.int 0, w23, w24]))] (zQi (S := Unit) D (fun r_ _ => r_ = (if p1 = (-1) then 0 else (-1))) (fun _ => [])) := by
  refine zent (cc := cX9_book) (maxL := 3) (ret := (some .int)) (by decide) (Nat.le_of_ble_eq_true rfl) ?_
  intro p e s m below meth c A H locs ls hx hb hml hr ht hown hlocks hin hA hK hE hS hW hl
  have hown : s.vm.findClass RX9 = some m.cls := hown
  have hW : zPD D A [(a0, .inr (8, [w3, w4, w5, .ref a6, w7, w8, w9, w10, w11])), (a6, .inr (6, [w12, .int 0, w13, w14, w15, w16, w17, w18, w19, w20, w21, .ref a22])), (a22, .inr (5, [.int 0, w23, w24]))] H := hW
  have hl : lv_has ls 3 [(0, .ref a0), (1, .int p1), (2, .int p2)] := hl
  refine lv_aload_n hx hb dX9_book_0 rfl (lv_at hl 0 rfl) ?_
  refine lv_aload_n hx hb dX9_book_1 rfl (lv_at hl 0 rfl) ?_
  refine zget hx hb ht inlX9 hown hK hW 0 rfl rfl 3 (by decide) zm_23 rfl dX9_book_2 ?_
  refine zget hx hb ht inlX7 hown hK hW 1 rfl rfl 11 (by decide) zm_1065 rfl dX9_book_5 ?_
  refine lv_iload_n hx hb dX9_book_8 rfl (lv_at hl 1 rfl) ?_
  refine lv_iload_n hx hb dX9_book_9 rfl (lv_at hl 2 rfl) ?_
  refine zgo_i (wr := []) (zrunV (As := [.ref a22, .int p1, .int p2]) (rest := []) ⟨hx, hb, hml, hown, ht⟩ (zc_X9_appendTold_0 l D y a0 a22 p1 p2 w3 w4 w5 a6 w7 w8 w9 w10 w11 w23 w24 w12 w13 w14 w15 w16 w17 w18 w19 w20 w21 (.ref a22)) (cwV 3 ht (zgV zm_1002 zm_1003 zm_1004 zm_2 zm_1005) rfl rfl rfl (by decide +kernel) ⟨(Nat.le_of_ble_eq_true rfl), (Nat.le_of_ble_eq_true rfl)⟩) hK hE hS hA hW [0, 2, 1] (by decide) rfl 0 rfl rfl rfl rfl hl.1 rfl (Nat.le_of_ble_eq_true rfl) dX9_book_10 (Nat.le_of_ble_eq_true rfl) (Nat.le_of_ble_eq_true rfl)) hS hA hW [0, 2, 1] [] rfl rfl (by decide) (by decide) (fun r1_ u H locs hw hW hS => ?_)
  have hW : zPD D A [(a0, .inr (8, [w3, w4, w5, .ref a6, w7, w8, w9, w10, w11])), (a22, .inr (5, [.int 0, w23, w24])), (a6, .inr (6, [w12, .int 0, w13, w14, w15, w16, w17, w18, w19, w20, w21, .ref a22]))] H := hW
  have hw : r1_ = (if p1 = (-1) then 0 else (-1)) := hw
  by_cases c2_ : p1 = (-1)
  · have b3_ : (-1) ≤ Int32.toInt p1 ∧ Int32.toInt p1 ≤ (-1) := (by have u0 := zbnd p1; have u1 := (zi_eq _ _).mp c2_; have u2 : ((-1) : Int32).toInt = -1 := (by decide); omega)
    rw [if_pos c2_] at hw
    subst hw
    exact zret_i (v := 0) hx hb hr hlocks hS () (by show _ = _; rw [if_pos c2_]) (hW.sub [] (by decide) rfl) (Nat.le_of_ble_eq_true rfl) (Nat.le_of_ble_eq_true rfl) dX9_book_13
  · have b4_ : (-2147483648) ≤ Int32.toInt p1 ∧ Int32.toInt p1 ≤ 2147483647 := (by have u0 := zbnd p1; have u1 := (not_congr (zi_eq _ _)).mp c2_; have u2 : ((-1) : Int32).toInt = -1 := (by decide); omega)
    rw [if_neg c2_] at hw
    subst hw
    exact zret_i (v := (-1)) hx hb hr hlocks hS () (by show _ = _; rw [if_neg c2_]) (hW.sub [] (by decide) rfl) (Nat.le_of_ble_eq_true rfl) (Nat.le_of_ble_eq_true rfl) dX9_book_13
set_option maxHeartbeats 8000000 in
set_option maxRecDepth 100000 in
theorem zc_X10_book_0 (l : Launch) (D : va_G) (y : Nat → ClassId) (a0 : Nat) (p1 : Int32) (p2 : Int32) (w3 : Value) (w4 : Value) (w5 : Value) (w6 : Value) (w7 : Value) (w8 : Value) (w9 : Value) (w10 : Value) (w11 : Value) (w12 : Value) (w13 : Value) (w14 : Value) (w15 : Value) (w16 : Value) (w17 : Value) (w18 : Value) (w19 : Value) (w20 : Value) (w21 : Value) (w22 : Value) (w23 : Value) (w24 : Value) (w25 : Value) (w26 : Value) (w27 : Value) (w28 : Value) (w29 : Value) (w30 : Value) (w31 : Value) (w32 : Value) (w33 : Value) (w34 : Value) (w35 : Value) (w36 : Value) (w37 : Value) (w38 : Value) (w39 : Value) (w40 : Value) (w41 : Value) (w42 : Value) (w43 : Value) (w44 : Value) (w45 : Value) (w46 : Value) (w47 : Value) (w48 : Value) (w49 : Value) (w50 : Value) (w51 : Value) (w52 : Value) (w53 : Value) (w54 : Value) (w55 : Value) (w56 : Value) (w57 : Value) (w58 : Value) (w59 : Value) (w60 : Value) (w61 : Value) (w62 : Value) (w63 : Value) (w64 : Value) (w65 : Value) (w66 : Value) (w67 : Value) (w68 : Value) (w69 : Value) (w70 : Value) (w71 : Value) (w72 : Value) (w73 : Value) (w74 : Value) (w75 : Value) (w76 : Value) : zM l D y yX10_book (Cond.code yX10_book cX10_book 3 (some .int) :: zT) { frames := 2, cells := 0, slots := 0, locals := 44 } [.ref a0, .int p1, .int p2] [(a0, .inr (9, [.int 0, w3, w4, w5, w6, w7, w8, w9, w10, w11, w12, w13, w14, w15, w16, w17, w18, w19, w20, w21, w22, w23, w24, w25, w26, w27, w28, w29, w30, w31, w32, w33, w34, w35, w36, w37, w38, w39, w40, w41, w42, w43, w44, .int 0, w45, w46, w47, w48, w49, w50, w51, w52, w53, w54, w55, w56, w57, w58, w59, w60, w61, w62, w63, w64, w65, w66, w67, w68, w69, w70, w71, w72, w73, w74, w75, w76]))] (zQi (S := Unit) D (fun r_ _ => r_ = (if p1 = (-1) then 0 else (-1))) (fun _ => [])) := by
  refine zent (cc := cX10_book) (maxL := 3) (ret := (some .int)) (by decide) (Nat.le_of_ble_eq_true rfl) ?_
  intro p e s m below meth c A H locs ls hx hb hml hr ht hown hlocks hin hA hK hE hS hW hl
  have hown : s.vm.findClass RX10 = some m.cls := hown
  have hW : zPD D A [(a0, .inr (9, [.int 0, w3, w4, w5, w6, w7, w8, w9, w10, w11, w12, w13, w14, w15, w16, w17, w18, w19, w20, w21, w22, w23, w24, w25, w26, w27, w28, w29, w30, w31, w32, w33, w34, w35, w36, w37, w38, w39, w40, w41, w42, w43, w44, .int 0, w45, w46, w47, w48, w49, w50, w51, w52, w53, w54, w55, w56, w57, w58, w59, w60, w61, w62, w63, w64, w65, w66, w67, w68, w69, w70, w71, w72, w73, w74, w75, w76]))] H := hW
  have hl : lv_has ls 3 [(0, .ref a0), (1, .int p1), (2, .int p2)] := hl
  refine lv_iload_n hx hb dX10_book_0 rfl (lv_at hl 1 rfl) ?_
  refine lv_iconst (v := (-1)) hx hb dX10_book_1 (by decide) ?_
  refine lv_icmp_ne (tgt := 12) hx hb dX10_book_2 (by decide) (fun c1_ => ?_) (fun c1_ => ?_)
  · have b2_ : (-2147483648) ≤ Int32.toInt p1 ∧ Int32.toInt p1 ≤ 2147483647 := (by have u0 := zbnd p1; have u1 := (not_congr (zi_eq _ _)).mp c1_; have u2 : ((-1) : Int32).toInt = -1 := (by decide); omega)
    refine lv_aload_n hx hb dX10_book_12 rfl (lv_at hl 0 rfl) ?_
    refine lv_iload_n hx hb dX10_book_13 rfl (lv_at hl 1 rfl) ?_
    refine zgo_i (wr := []) (zrunV (As := [.int p1]) (rest := []) ⟨hx, hb, hml, hown, ht⟩ (zc_X10_isWindow_0 l D y a0 p1 w3 w4 w5 w6 w7 w8 w9 w10 w11 w12 w13 w14 w15 w16 w17 w18 w19 w20 w21 w22 w23 w24 w25 w26 w27 w28 w29 w30 w31 w32 w33 w34 w35 w36 w37 w38 w39 w40 w41 w42 w43 w44 (.int 0) w45 w46 w47 w48 w49 w50 w51 w52 w53 w54 w55 w56 w57 w58 w59 w60 w61 w62 w63 w64 w65 w66 w67 w68 w69 w70 w71 w72 w73 w74 w75 w76) (cwV 1 ht (zgV zm_353 zm_354 zm_355 zm_5 zm_356) rfl rfl rfl (by decide +kernel) ⟨(Nat.le_of_ble_eq_true rfl), (Nat.le_of_ble_eq_true rfl)⟩) hK hE hS hA hW [0] (by decide) rfl 0 rfl rfl rfl rfl hl.1 rfl (Nat.le_of_ble_eq_true rfl) dX10_book_14 (Nat.le_of_ble_eq_true rfl) (Nat.le_of_ble_eq_true rfl)) hS hA hW [0] [] rfl rfl (by decide) (by decide) (fun r3_ u H locs hw hW hS => ?_)
    have hW : zPD D A [(a0, .inr (9, [.int 0, w3, w4, w5, w6, w7, w8, w9, w10, w11, w12, w13, w14, w15, w16, w17, w18, w19, w20, w21, w22, w23, w24, w25, w26, w27, w28, w29, w30, w31, w32, w33, w34, w35, w36, w37, w38, w39, w40, w41, w42, w43, w44, .int 0, w45, w46, w47, w48, w49, w50, w51, w52, w53, w54, w55, w56, w57, w58, w59, w60, w61, w62, w63, w64, w65, w66, w67, w68, w69, w70, w71, w72, w73, w74, w75, w76]))] H := hW
    have hw : r3_ = 0 := hw
    subst hw
    refine lv_if_ne (tgt := 22) hx hb dX10_book_17 (by decide) (fun c4_ => absurd (by decide) c4_) (fun c4_ => ?_)
    refine lv_iconst (v := (-1)) hx hb dX10_book_20 (by decide) ?_
    exact zret_i (v := (-1)) hx hb hr hlocks hS () (by show _ = _; rw [if_neg c1_]) (hW.sub [] (by decide) rfl) (Nat.le_of_ble_eq_true rfl) (Nat.le_of_ble_eq_true rfl) dX10_book_21
  · have b5_ : (-1) ≤ Int32.toInt p1 ∧ Int32.toInt p1 ≤ (-1) := (by have u0 := zbnd p1; have u1 := (zi_eq _ _).mp c1_; have u2 : ((-1) : Int32).toInt = -1 := (by decide); omega)
    refine lv_aload_n hx hb dX10_book_5 rfl (lv_at hl 0 rfl) ?_
    refine lv_iconst (v := 0) hx hb dX10_book_6 (by decide) ?_
    refine zput (ws' := [(a0, .inr (9, [.int 0, w3, w4, w5, w6, w7, w8, w9, w10, w11, w12, w13, w14, w15, w16, w17, w18, w19, w20, w21, w22, w23, w24, w25, w26, w27, w28, w29, w30, w31, w32, w33, w34, w35, w36, w37, w38, w39, w40, w41, w42, w43, w44, .int 0, w45, w46, w47, w48, w49, w50, w51, w52, w53, w54, w55, w56, w57, w58, w59, w60, w61, w62, w63, w64, w65, w66, w67, w68, w69, w70, w71, w72, w73, w74, w75, w76]))]) hx hb ht inlX10 tyX10 tyX10_ok nmX10 hown hK hS hW 0 rfl rfl 43 (by decide) zm_183 rfl rfl rfl (Nat.le_of_ble_eq_true rfl) rfl dX10_book_7 (fun H locs hW hS => ?_)
    refine lv_iconst (v := 0) hx hb dX10_book_10 (by decide) ?_
    exact zret_i (v := 0) hx hb hr hlocks hS () (by show _ = _; rw [if_pos c1_]) (hW.sub [] (by decide) rfl) (Nat.le_of_ble_eq_true rfl) (Nat.le_of_ble_eq_true rfl) dX10_book_11
set_option maxHeartbeats 8000000 in
set_option maxRecDepth 100000 in
theorem zc_X9_looked_0 (l : Launch) (D : va_G) (y : Nat → ClassId) (a0 : Nat) (w1 : Value) (w2 : Value) (w3 : Value) (a4 : Nat) (w5 : Value) (w6 : Value) (a7 : Nat) (w8 : Value) (w9 : Value) (w10 : Value) (w11 : Value) (w12 : Value) (a13 : Nat) (w14 : Value) (a15 : Nat) (w16 : Value) (w17 : Value) (w18 : Value) (w19 : Value) (w20 : Value) (a21 : Nat) (w22 : Value) (w23 : Value) (w24 : Value) (w25 : Value) : zM l D y yX9_looked (Cond.code yX9_looked cX9_looked 2 (some .int) :: zT) { frames := 2, cells := 0, slots := 0, locals := 50 } [.ref a0] [(a0, .inr (8, [w1, w2, w3, .ref a4, w5, w6, .ref a7, w8, w9])), (a4, .inr (6, [w10, .int 0, .int 20, .int 0, .int 0, w11, .int 0, .int 0, w12, .ref a13, w14, .ref a15])), (a7, .inr (1, [.ref a4, .int 0, .int 0, w16, w17, w18, w19, w20, .ref a21])), (a13, .inr (5, [.int 0, w22, w23])), (a15, .inr (5, [.int 0, w24, w25])), (a21, .inl (y 2, 4, .inl (fun _ => 0)))] (zQi (S := Unit) D (fun r_ _ => r_ = (-5)) (fun _ => [])) := by
  refine zent (cc := cX9_looked) (maxL := 2) (ret := (some .int)) (by decide) (Nat.le_of_ble_eq_true rfl) ?_
  intro p e s m below meth c A H locs ls hx hb hml hr ht hown hlocks hin hA hK hE hS hW hl
  have hown : s.vm.findClass RX9 = some m.cls := hown
  have hW : zPD D A [(a0, .inr (8, [w1, w2, w3, .ref a4, w5, w6, .ref a7, w8, w9])), (a4, .inr (6, [w10, .int 0, .int 20, .int 0, .int 0, w11, .int 0, .int 0, w12, .ref a13, w14, .ref a15])), (a7, .inr (1, [.ref a4, .int 0, .int 0, w16, w17, w18, w19, w20, .ref a21])), (a13, .inr (5, [.int 0, w22, w23])), (a15, .inr (5, [.int 0, w24, w25])), (a21, .inl (y 2, 4, .inl (fun _ => 0)))] H := hW
  have hl : lv_has ls 2 [(0, .ref a0)] := hl
  refine lv_aload_n hx hb dX9_looked_0 rfl (lv_at hl 0 rfl) ?_
  refine zget hx hb ht inlX9 hown hK hW 0 rfl rfl 6 (by decide) zm_29 rfl dX9_looked_1 ?_
  refine zgo_v (wr := [(a0, .inr (8, [w1, w2, w3, .ref a4, w5, w6, .ref a7, w8, w9])), (a13, .inr (5, [.int 0, w22, w23])), (a15, .inr (5, [.int 0, w24, w25]))]) (zrunV (As := []) (rest := []) ⟨hx, hb, hml, hown, ht⟩ (zc_X1_beginFromNow_0 l D y a7 a4 w16 w17 w18 w19 w20 a21 w10 (.int 0) w11 (.int 0) (.int 0) w12 (.ref a13) w14 (.ref a15)) (cwV 0 ht (zgV zm_274 zm_275 zm_276 zm_28 zm_277) rfl rfl rfl (by decide +kernel) ⟨(Nat.le_of_ble_eq_true rfl), (Nat.le_of_ble_eq_true rfl)⟩) hK hE hS hA hW [2, 1, 5] (by decide) rfl 0 rfl rfl rfl rfl hl.1 rfl (Nat.le_of_ble_eq_true rfl) dX9_looked_4 (Nat.le_of_ble_eq_true rfl) (Nat.le_of_ble_eq_true rfl)) hS hA hW [2, 1, 5] [0, 3, 4] rfl rfl (by decide) (by decide) (fun u H locs hw hW hS => ?_)
  have hW : zPD D A [(a0, .inr (8, [w1, w2, w3, .ref a4, w5, w6, .ref a7, w8, w9])), (a13, .inr (5, [.int 0, w22, w23])), (a15, .inr (5, [.int 0, w24, w25])), (a7, .inr (1, [.ref a4, .int 0, .int 20, w16, w17, w18, w19, w20, .ref a21])), (a4, .inr (6, [w10, .int 0, .int 20, .int 0, .int 0, w11, .int 0, .int 0, w12, .ref a13, w14, .ref a15])), (a21, .inl (y 2, 4, .inl (upd (fun _ => 0) 0 1)))] H := hW
  refine lv_aload_n hx hb dX9_looked_7 rfl (lv_at hl 0 rfl) ?_
  refine zget hx hb ht inlX9 hown hK hW 0 rfl rfl 6 (by decide) zm_29 rfl dX9_looked_8 ?_
  refine lv_iconst (v := 0) hx hb dX9_looked_11 (by decide) ?_
  refine zgo_i (wr := [(a0, .inr (8, [w1, w2, w3, .ref a4, w5, w6, .ref a7, w8, w9])), (a15, .inr (5, [.int 0, w24, w25])), (a21, .inl (y 2, 4, .inl (upd (fun _ => 0) 0 1)))]) (zrunV (As := [.int 0]) (rest := []) ⟨hx, hb, hml, hown, ht⟩ (zc_X1_goRound_0 l D y a7 a4 (.int 0) (.int 20) w16 w17 w18 w19 w20 (.ref a21) w10 (.int 0) (.int 20) (.int 0) w11 w12 a13 w14 (.ref a15) w22 w23) (cwV 1 ht (zgV zm_809 zm_810 zm_811 zm_28 zm_812) rfl rfl rfl (by decide +kernel) ⟨(Nat.le_of_ble_eq_true rfl), (Nat.le_of_ble_eq_true rfl)⟩) hK hE hS hA hW [3, 4, 1] (by decide) rfl 0 rfl rfl rfl rfl hl.1 rfl (Nat.le_of_ble_eq_true rfl) dX9_looked_12 (Nat.le_of_ble_eq_true rfl) (Nat.le_of_ble_eq_true rfl)) hS hA hW [3, 4, 1] [0, 2, 5] rfl rfl (by decide) (by decide) (fun r2_ u H locs hw hW hS => ?_)
  have hW : zPD D A [(a0, .inr (8, [w1, w2, w3, .ref a4, w5, w6, .ref a7, w8, w9])), (a15, .inr (5, [.int 0, w24, w25])), (a21, .inl (y 2, 4, .inl (upd (fun _ => 0) 0 1))), (a7, .inr (1, [.ref a4, .int 0, .int 20, w16, w17, w18, w19, w20, .ref a21])), (a4, .inr (6, [w10, .int 0, .int 20, .int 0, .int 0, w11, .int 0, .int 0, w12, .ref a13, w14, .ref a15])), (a13, .inr (5, [.int 0, w22, w23]))] H := hW
  have hw : r2_ = 0 := hw
  subst hw
  refine lv_pop hx hb dX9_looked_15 rfl ?_
  refine lv_iconst (v := 0) hx hb dX9_looked_16 (by decide) ?_
  refine lv_istore_n (lv' := [(1, .int 0), (0, .ref a0)]) hx hb dX9_looked_17 rfl hl (by decide) rfl (fun ls hl => ?_)
  refine lv_iload_n hx hb dX9_looked_18 rfl (lv_at hl 0 rfl) ?_
  refine lv_aload_n hx hb dX9_looked_19 rfl (lv_at hl 1 rfl) ?_
  refine zget hx hb ht inlX9 hown hK hW 0 rfl rfl 3 (by decide) zm_23 rfl dX9_looked_20 ?_
  refine zget hx hb ht inlX7 hown hK hW 4 rfl rfl 11 (by decide) zm_1065 rfl dX9_looked_23 ?_
  refine zget hx hb ht inlX6 hown hK hW 1 rfl rfl 0 (by decide) zm_945 rfl dX9_looked_26 ?_
  refine lv_icmp_ge (tgt := 75) hx hb dX9_looked_29 (by decide) (fun c3_ => ?_) (fun c3_ => absurd (by decide) c3_)
  refine lv_bipush (v := (-5)) hx hb dX9_looked_75 (by decide) ?_
  exact zret_i (v := (-5)) hx hb hr hlocks hS () rfl (hW.sub [] (by decide) rfl) (Nat.le_of_ble_eq_true rfl) (Nat.le_of_ble_eq_true rfl) dX9_looked_77
set_option maxHeartbeats 8000000 in
set_option maxRecDepth 100000 in
theorem zc_X10_looked_0 (l : Launch) (D : va_G) (y : Nat → ClassId) (a0 : Nat) (w1 : Value) (w2 : Value) (w3 : Value) (w4 : Value) (w5 : Value) (w6 : Value) (w7 : Value) (w8 : Value) (w9 : Value) (w10 : Value) (a11 : Nat) (w12 : Value) (w13 : Value) (w14 : Value) (w15 : Value) (w16 : Value) (w17 : Value) (w18 : Value) (w19 : Value) (w20 : Value) (w21 : Value) (w22 : Value) (w23 : Value) (w24 : Value) (w25 : Value) (w26 : Value) (w27 : Value) (w28 : Value) (w29 : Value) (w30 : Value) (w31 : Value) (a32 : Nat) (a33 : Nat) (a34 : Nat) (w35 : Value) (w36 : Value) (w37 : Value) (w38 : Value) (w39 : Value) (w40 : Value) (w41 : Value) (w42 : Value) (w43 : Value) (w44 : Value) (w45 : Value) (w46 : Value) (w47 : Value) (w48 : Value) (w49 : Value) (w50 : Value) (w51 : Value) (w52 : Value) (w53 : Value) (w54 : Value) (w55 : Value) (w56 : Value) (w57 : Value) (w58 : Value) (w59 : Value) (w60 : Value) (w61 : Value) (w62 : Value) (w63 : Value) (w64 : Value) (w65 : Value) (w66 : Value) (w67 : Value) (w68 : Value) (w69 : Value) (w70 : Value) : zM l D y yX10_looked (Cond.code yX10_looked cX10_looked 3 (some .int) :: zT) { frames := 1, cells := 0, slots := 0, locals := 28 } [.ref a0] [(a0, .inr (9, [w1, .int 0, w2, w3, w4, .int 0, .int 0, w5, w6, w7, w8, w9, w10, .ref a11, w12, w13, w14, w15, w16, w17, w18, w19, w20, w21, w22, w23, w24, w25, w26, w27, w28, w29, w30, w31, .ref a32, .int 0, .ref a33, .int 0, .ref a34, w35, w36, w37, w38, .int 0, w39, w40, w41, w42, w43, w44, w45, w46, w47, w48, w49, w50, w51, w52, w53, w54, w55, w56, w57, w58, w59, w60, w61, w62, w63, w64, w65, w66, w67, w68, w69, w70])), (a11, .inl (y 2, 7, .inl (fun _ => 0))), (a32, .inl (y 0, 7, .inl (fun _ => 0))), (a33, .inl (y 0, 7, .inl (fun _ => 0))), (a34, .inl (y 0, 7, .inl (fun _ => 0)))] (zQi (S := Unit) D (fun r_ _ => r_ = (-5)) (fun _ => [])) := by
  refine zent (cc := cX10_looked) (maxL := 3) (ret := (some .int)) (by decide) (Nat.le_of_ble_eq_true rfl) ?_
  intro p e s m below meth c A H locs ls hx hb hml hr ht hown hlocks hin hA hK hE hS hW hl
  have hown : s.vm.findClass RX10 = some m.cls := hown
  have hW : zPD D A [(a0, .inr (9, [w1, .int 0, w2, w3, w4, .int 0, .int 0, w5, w6, w7, w8, w9, w10, .ref a11, w12, w13, w14, w15, w16, w17, w18, w19, w20, w21, w22, w23, w24, w25, w26, w27, w28, w29, w30, w31, .ref a32, .int 0, .ref a33, .int 0, .ref a34, w35, w36, w37, w38, .int 0, w39, w40, w41, w42, w43, w44, w45, w46, w47, w48, w49, w50, w51, w52, w53, w54, w55, w56, w57, w58, w59, w60, w61, w62, w63, w64, w65, w66, w67, w68, w69, w70])), (a11, .inl (y 2, 7, .inl (fun _ => 0))), (a32, .inl (y 0, 7, .inl (fun _ => 0))), (a33, .inl (y 0, 7, .inl (fun _ => 0))), (a34, .inl (y 0, 7, .inl (fun _ => 0)))] H := hW
  have hl : lv_has ls 3 [(0, .ref a0)] := hl
  refine lv_aload_n hx hb dX10_looked_0 rfl (lv_at hl 0 rfl) ?_
  refine zgo_v (wr := [(a11, .inl (y 2, 7, .inl (fun _ => 0))), (a32, .inl (y 0, 7, .inl (fun _ => 0)))]) (zrunV (As := []) (rest := []) ⟨hx, hb, hml, hown, ht⟩ (zc_X10_layRound_0 l D y a0 w1 (.int 0) w2 w3 w4 (.int 0) (.int 0) w5 w6 w7 w8 w9 w10 (.ref a11) w12 w13 w14 w15 w16 w17 w18 w19 w20 w21 w22 w23 w24 w25 w26 w27 w28 w29 w30 w31 (.ref a32) a33 a34 w35 w36 w37 w38 (.int 0) w39 w40 w41 w42 w43 w44 w45 w46 w47 w48 w49 w50 w51 w52 w53 w54 w55 w56 w57 w58 w59 w60 w61 w62 w63 w64 w65 w66 w67 w68 w69 w70) (cwV 0 ht (zgV zm_844 zm_845 zm_846 zm_5 zm_847) rfl rfl rfl (by decide +kernel) ⟨(Nat.le_of_ble_eq_true rfl), (Nat.le_of_ble_eq_true rfl)⟩) hK hE hS hA hW [0, 3, 4] (by decide) rfl 0 rfl rfl rfl rfl hl.1 rfl (Nat.le_of_ble_eq_true rfl) dX10_looked_1 (Nat.le_of_ble_eq_true rfl) (Nat.le_of_ble_eq_true rfl)) hS hA hW [0, 3, 4] [1, 2] rfl rfl (by decide) (by decide) (fun u H locs hw hW hS => ?_)
  have hW : zPD D A [(a11, .inl (y 2, 7, .inl (fun _ => 0))), (a32, .inl (y 0, 7, .inl (fun _ => 0))), (a0, .inr (9, [w1, .int 0, w2, w3, w4, .int 0, .int 0, w5, w6, w7, w8, w9, w10, .ref a11, w12, w13, w14, w15, w16, w17, w18, w19, w20, w21, w22, w23, w24, w25, w26, w27, w28, w29, w30, w31, .ref a32, .int 0, .ref a33, .int 0, .ref a34, w35, w36, w37, w38, .int 0, w39, w40, w41, w42, w43, w44, w45, w46, w47, w48, w49, w50, w51, w52, w53, w54, w55, w56, w57, w58, w59, w60, w61, w62, w63, w64, w65, w66, w67, w68, w69, w70])), (a33, .inl (y 0, 7, .inl (fun _ => 0))), (a34, .inl (y 0, 7, .inl (fun _ => 0)))] H := hW
  refine lv_aload_n hx hb dX10_looked_4 rfl (lv_at hl 0 rfl) ?_
  refine zgo_v (wr := [(a33, .inl (y 0, 7, .inl (fun _ => 0))), (a34, .inl (y 0, 7, .inl (fun _ => 0)))]) (zrunV (As := []) (rest := []) ⟨hx, hb, hml, hown, ht⟩ (zc_X10_layOpen_0 l D y a0 w1 (.int 0) w2 w3 w4 (.int 0) (.int 0) w5 w6 w7 w8 w9 w10 a11 w12 w13 w14 w15 w16 w17 w18 w19 w20 w21 w22 w23 w24 w25 w26 w27 w28 w29 w30 w31 a32 (.int 0) (.ref a33) (.int 0) (.ref a34) w35 w36 w37 w38 (.int 0) w39 w40 w41 w42 w43 w44 w45 w46 w47 w48 w49 w50 w51 w52 w53 w54 w55 w56 w57 w58 w59 w60 w61 w62 w63 w64 w65 w66 w67 w68 w69 w70) (cwV 0 ht (zgV zm_397 zm_398 zm_399 zm_5 zm_400) rfl rfl rfl (by decide +kernel) ⟨(Nat.le_of_ble_eq_true rfl), (Nat.le_of_ble_eq_true rfl)⟩) hK hE hS hA hW [2, 0, 1] (by decide) rfl 0 rfl rfl rfl rfl hl.1 rfl (Nat.le_of_ble_eq_true rfl) dX10_looked_5 (Nat.le_of_ble_eq_true rfl) (Nat.le_of_ble_eq_true rfl)) hS hA hW [2, 0, 1] [3, 4] rfl rfl (by decide) (by decide) (fun u H locs hw hW hS => ?_)
  have hW : zPD D A [(a33, .inl (y 0, 7, .inl (fun _ => 0))), (a34, .inl (y 0, 7, .inl (fun _ => 0))), (a0, .inr (9, [w1, .int 0, w2, w3, w4, .int 0, .int 0, w5, w6, w7, w8, w9, w10, .ref a11, w12, w13, w14, w15, w16, w17, w18, w19, w20, w21, w22, w23, w24, w25, w26, w27, w28, w29, w30, w31, .ref a32, .int 0, .ref a33, .int 0, .ref a34, w35, w36, w37, w38, .int 0, w39, w40, w41, w42, w43, w44, w45, w46, w47, w48, w49, w50, w51, w52, w53, w54, w55, w56, w57, w58, w59, w60, w61, w62, w63, w64, w65, w66, w67, w68, w69, w70])), (a11, .inl (y 2, 7, .inl (fun _ => 0))), (a32, .inl (y 0, 7, .inl (upd (upd (upd (upd (upd (upd (upd (fun _ => 0) 0 99999) 1 99999) 2 99999) 3 99999) 4 99999) 5 99999) 6 99999)))] H := hW
  refine lv_aload_n hx hb dX10_looked_8 rfl (lv_at hl 0 rfl) ?_
  refine lv_iconst (v := 0) hx hb dX10_looked_9 (by decide) ?_
  refine lv_aload_n hx hb dX10_looked_10 rfl (lv_at hl 0 rfl) ?_
  refine zget hx hb ht inlX10 hown hK hW 2 rfl rfl 35 (by decide) zm_175 rfl dX10_looked_11 ?_
  refine lv_aload_n hx hb dX10_looked_14 rfl (lv_at hl 0 rfl) ?_
  refine zget hx hb ht inlX10 hown hK hW 2 rfl rfl 1 (by decide) zm_141 rfl dX10_looked_15 ?_
  refine zgo_i (wr := [(a33, .inl (y 0, 7, .inl (fun _ => 0))), (a34, .inl (y 0, 7, .inl (fun _ => 0))), (a11, .inl (y 2, 7, .inl (fun _ => 0))), (a32, .inl (y 0, 7, .inl (upd (upd (upd (upd (upd (upd (upd (fun _ => 0) 0 99999) 1 99999) 2 99999) 3 99999) 4 99999) 5 99999) 6 99999)))]) (zrunV (As := [.int 0, .int 0, .int 0]) (rest := []) ⟨hx, hb, hml, hown, ht⟩ (zc_X10_goes_0 l D y a0 w1 (.int 0) w2 w3 w4 w5 w6 w7 w8 w9 w10 (.ref a11) w12 w13 w14 w15 w16 w17 w18 w19 w20 w21 w22 w23 w24 w25 w26 w27 w28 w29 w30 w31 (.ref a32) (.int 0) (.ref a33) (.int 0) (.ref a34) w35 w36 w37 w38 (.int 0) w39 w40 w41 w42 w43 w44 w45 w46 w47 w48 w49 w50 w51 w52 w53 w54 w55 w56 w57 w58 w59 w60 w61 w62 w63 w64 w65 w66 w67 w68 w69 w70) (cwV 3 ht (zgV zm_852 zm_853 zm_854 zm_5 zm_855) rfl rfl rfl (by decide +kernel) ⟨(Nat.le_of_ble_eq_true rfl), (Nat.le_of_ble_eq_true rfl)⟩) hK hE hS hA hW [2] (by decide) rfl 0 rfl rfl rfl rfl hl.1 rfl (Nat.le_of_ble_eq_true rfl) dX10_looked_18 (Nat.le_of_ble_eq_true rfl) (Nat.le_of_ble_eq_true rfl)) hS hA hW [2] [0, 1, 3, 4] rfl rfl (by decide) (by decide) (fun r3_ u H locs hw hW hS => ?_)
  have hW : zPD D A [(a33, .inl (y 0, 7, .inl (fun _ => 0))), (a34, .inl (y 0, 7, .inl (fun _ => 0))), (a11, .inl (y 2, 7, .inl (fun _ => 0))), (a32, .inl (y 0, 7, .inl (upd (upd (upd (upd (upd (upd (upd (fun _ => 0) 0 99999) 1 99999) 2 99999) 3 99999) 4 99999) 5 99999) 6 99999))), (a0, .inr (9, [w1, .int 0, w2, w3, w4, .int 0, .int 0, w5, w6, w7, w8, w9, w10, .ref a11, w12, w13, w14, w15, w16, w17, w18, w19, w20, w21, w22, w23, w24, w25, w26, w27, w28, w29, w30, w31, .ref a32, .int 0, .ref a33, .int 0, .ref a34, w35, w36, w37, w38, .int 0, w39, w40, w41, w42, w43, w44, w45, w46, w47, w48, w49, w50, w51, w52, w53, w54, w55, w56, w57, w58, w59, w60, w61, w62, w63, w64, w65, w66, w67, w68, w69, w70]))] H := hW
  have hw : r3_ = 0 := hw
  subst hw
  refine lv_istore_n (lv' := [(1, .int 0), (0, .ref a0)]) hx hb dX10_looked_21 rfl hl (by decide) rfl (fun ls hl => ?_)
  refine lv_iconst (v := 0) hx hb dX10_looked_22 (by decide) ?_
  refine lv_istore_n (lv' := [(2, .int 0), (1, .int 0), (0, .ref a0)]) hx hb dX10_looked_23 rfl hl (by decide) rfl (fun ls hl => ?_)
  refine lv_iload_n hx hb dX10_looked_24 rfl (lv_at hl 0 rfl) ?_
  refine lv_aload_n hx hb dX10_looked_25 rfl (lv_at hl 2 rfl) ?_
  refine zget hx hb ht inlX10 hown hK hW 4 rfl rfl 43 (by decide) zm_183 rfl dX10_looked_26 ?_
  refine lv_icmp_ge (tgt := 60) hx hb dX10_looked_29 (by decide) (fun c4_ => ?_) (fun c4_ => absurd (by decide) c4_)
  refine lv_bipush (v := (-5)) hx hb dX10_looked_60 (by decide) ?_
  exact zret_i (v := (-5)) hx hb hr hlocks hS () rfl (hW.sub [] (by decide) rfl) (Nat.le_of_ble_eq_true rfl) (Nat.le_of_ble_eq_true rfl) dX10_looked_62
set_option maxHeartbeats 8000000 in
set_option maxRecDepth 100000 in
theorem zc_X9_within_11 (l : Launch) (D : va_G) (y : Nat → ClassId) (p0 : Int32) : zM l D y yX9_within (Cond.code yX9_within cX9_within 3 (some .boolean) :: zT) { frames := 0, cells := 0, slots := 0, locals := 0 } [.int p0, .int 0, .int 5] [] (zQi (S := Unit) D (fun r_ _ => r_ = (if p0 < 0 then 0 else (if 5 < p0 then 0 else 1))) (fun _ => [])) := by
  refine zent (cc := cX9_within) (maxL := 3) (ret := (some .boolean)) (by decide) (Nat.le_of_ble_eq_true rfl) ?_
  intro p e s m below meth c A H locs ls hx hb hml hr ht hown hlocks hin hA hK hE hS hW hl
  have hown : s.vm.findClass RX9 = some m.cls := hown
  have hW : zPD D A [] H := hW
  have hl : lv_has ls 3 [(0, .int p0), (1, .int 0), (2, .int 5)] := hl
  refine lv_iload_n hx hb dX9_within_0 rfl (lv_at hl 0 rfl) ?_
  refine lv_iload_n hx hb dX9_within_1 rfl (lv_at hl 1 rfl) ?_
  refine lv_icmp_lt (tgt := 14) hx hb dX9_within_2 (by decide) (fun c1_ => ?_) (fun c1_ => ?_)
  · have b2_ : (-2147483648) ≤ Int32.toInt p0 ∧ Int32.toInt p0 ≤ (-1) := (by have u0 := zbnd p0; have u1 := (zi_lt _ _).mp c1_; have u2 : (0 : Int32).toInt = 0 := (by decide); omega)
    refine lv_iconst (v := 0) hx hb dX9_within_14 (by decide) ?_
    exact zret_z (v := 0) hx hb hr hlocks hS () rfl (by show _ = _; rw [if_pos c1_]) hW (Nat.le_of_ble_eq_true rfl) (Nat.le_of_ble_eq_true rfl) dX9_within_15
  · have b3_ : 0 ≤ Int32.toInt p0 ∧ Int32.toInt p0 ≤ 2147483647 := (by have u0 := zbnd p0; have u1 := (not_congr (zi_lt _ _)).mp c1_; have u2 : (0 : Int32).toInt = 0 := (by decide); omega)
    refine lv_iload_n hx hb dX9_within_5 rfl (lv_at hl 0 rfl) ?_
    refine lv_iload_n hx hb dX9_within_6 rfl (lv_at hl 2 rfl) ?_
    refine lv_icmp_gt (tgt := 14) hx hb dX9_within_7 (by decide) (fun c4_ => ?_) (fun c4_ => ?_)
    · have b5_ : 6 ≤ Int32.toInt p0 ∧ Int32.toInt p0 ≤ 2147483647 := (by have u0 := b3_; have u1 := (zi_lt _ _).mp c4_; have u2 : (5 : Int32).toInt = 5 := (by decide); omega)
      refine lv_iconst (v := 0) hx hb dX9_within_14 (by decide) ?_
      exact zret_z (v := 0) hx hb hr hlocks hS () rfl (by show _ = _; rw [if_neg c1_, if_pos c4_]) hW (Nat.le_of_ble_eq_true rfl) (Nat.le_of_ble_eq_true rfl) dX9_within_15
    · have b6_ : 0 ≤ Int32.toInt p0 ∧ Int32.toInt p0 ≤ 5 := (by have u0 := b3_; have u1 := (not_congr (zi_lt _ _)).mp c4_; have u2 : (5 : Int32).toInt = 5 := (by decide); omega)
      refine lv_iconst (v := 1) hx hb dX9_within_10 (by decide) ?_
      refine lv_goto (tgt := 15) hx hb dX9_within_11 (by decide) ?_
      exact zret_z (v := 1) hx hb hr hlocks hS () rfl (by show _ = _; rw [if_neg c1_, if_neg c4_]) hW (Nat.le_of_ble_eq_true rfl) (Nat.le_of_ble_eq_true rfl) dX9_within_15
set_option maxHeartbeats 8000000 in
set_option maxRecDepth 100000 in
theorem zc_X9_isTape_0 (l : Launch) (D : va_G) (y : Nat → ClassId) (p0 : Int32) : zM l D y yX9_isTape (Cond.code yX9_isTape cX9_isTape 1 (some .boolean) :: zT) { frames := 1, cells := 0, slots := 0, locals := 22 } [.int p0] [] (zQi (S := Unit) D (fun r_ _ => r_ = (if p0 < 0 then 0 else (if 5 < p0 then 0 else 1))) (fun _ => [])) := by
  refine zent (cc := cX9_isTape) (maxL := 1) (ret := (some .boolean)) (by decide) (Nat.le_of_ble_eq_true rfl) ?_
  intro p e s m below meth c A H locs ls hx hb hml hr ht hown hlocks hin hA hK hE hS hW hl
  have hown : s.vm.findClass RX9 = some m.cls := hown
  have hW : zPD D A [] H := hW
  have hl : lv_has ls 1 [(0, .int p0)] := hl
  refine lv_iload_n hx hb dX9_isTape_0 rfl (lv_at hl 0 rfl) ?_
  refine lv_iconst (v := 0) hx hb dX9_isTape_1 (by decide) ?_
  refine lv_iconst (v := 5) hx hb dX9_isTape_2 (by decide) ?_
  refine zgo0_i (zrunS (As := [.int p0, .int 0, .int 5]) (rest := []) ⟨hx, hb, hml, hown, ht⟩ (zc_X9_within_11 l D y p0) (va_cwS 3 ht (zgS zm_222 zm_223 zm_2 zm_224) rfl rfl rfl (by decide +kernel) ⟨(Nat.le_of_ble_eq_true rfl), (Nat.le_of_ble_eq_true rfl)⟩) hK hE hS hA hW [] (by decide) rfl rfl hl.1 rfl (Nat.le_of_ble_eq_true rfl) dX9_isTape_3 (Nat.le_of_ble_eq_true rfl) (Nat.le_of_ble_eq_true rfl)) hS hA hW (fun r1_ u H locs hw hW hS => ?_)
  have hw : r1_ = (if p0 < 0 then 0 else (if 5 < p0 then 0 else 1)) := hw
  by_cases c2_ : p0 < 0
  · have b3_ : (-2147483648) ≤ Int32.toInt p0 ∧ Int32.toInt p0 ≤ (-1) := (by have u0 := zbnd p0; have u1 := (zi_lt _ _).mp c2_; have u2 : (0 : Int32).toInt = 0 := (by decide); omega)
    rw [if_pos c2_] at hw
    subst hw
    exact zret_z (v := 0) hx hb hr hlocks hS () rfl (by show _ = _; rw [if_pos c2_]) hW (Nat.le_of_ble_eq_true rfl) (Nat.le_of_ble_eq_true rfl) dX9_isTape_6
  · have b4_ : 0 ≤ Int32.toInt p0 ∧ Int32.toInt p0 ≤ 2147483647 := (by have u0 := zbnd p0; have u1 := (not_congr (zi_lt _ _)).mp c2_; have u2 : (0 : Int32).toInt = 0 := (by decide); omega)
    rw [if_neg c2_] at hw
    by_cases c5_ : 5 < p0
    · have b6_ : 6 ≤ Int32.toInt p0 ∧ Int32.toInt p0 ≤ 2147483647 := (by have u0 := b4_; have u1 := (zi_lt _ _).mp c5_; have u2 : (5 : Int32).toInt = 5 := (by decide); omega)
      rw [if_pos c5_] at hw
      subst hw
      exact zret_z (v := 0) hx hb hr hlocks hS () rfl (by show _ = _; rw [if_neg c2_, if_pos c5_]) hW (Nat.le_of_ble_eq_true rfl) (Nat.le_of_ble_eq_true rfl) dX9_isTape_6
    · have b7_ : 0 ≤ Int32.toInt p0 ∧ Int32.toInt p0 ≤ 5 := (by have u0 := b4_; have u1 := (not_congr (zi_lt _ _)).mp c5_; have u2 : (5 : Int32).toInt = 5 := (by decide); omega)
      rw [if_neg c5_] at hw
      subst hw
      exact zret_z (v := 1) hx hb hr hlocks hS () rfl (by show _ = _; rw [if_neg c2_, if_neg c5_]) hW (Nat.le_of_ble_eq_true rfl) (Nat.le_of_ble_eq_true rfl) dX9_isTape_6
set_option maxHeartbeats 8000000 in
set_option maxRecDepth 100000 in
theorem zc_X8_isNothing_0 (l : Launch) (D : va_G) (y : Nat → ClassId) (a0 : Nat) (w1 : Value) (w2 : Value) : zM l D y yX8_isNothing (Cond.code yX8_isNothing cX8_isNothing 1 (some .boolean) :: zT) { frames := 0, cells := 0, slots := 0, locals := 0 } [.ref a0] [(a0, .inr (7, [.int (-1), w1, w2]))] (zQi (S := Unit) D (fun r_ _ => r_ = 1) (fun _ => [(a0, .inr (7, [.int (-1), w1, w2]))])) := by
  refine zent (cc := cX8_isNothing) (maxL := 1) (ret := (some .boolean)) (by decide) (Nat.le_of_ble_eq_true rfl) ?_
  intro p e s m below meth c A H locs ls hx hb hml hr ht hown hlocks hin hA hK hE hS hW hl
  have hown : s.vm.findClass RX8 = some m.cls := hown
  have hW : zPD D A [(a0, .inr (7, [.int (-1), w1, w2]))] H := hW
  have hl : lv_has ls 1 [(0, .ref a0)] := hl
  refine lv_aload_n hx hb dX8_isNothing_0 rfl (lv_at hl 0 rfl) ?_
  refine zget hx hb ht inlX8 hown hK hW 0 rfl rfl 0 (by decide) zm_132 rfl dX8_isNothing_1 ?_
  refine lv_iconst (v := (-1)) hx hb dX8_isNothing_4 (by decide) ?_
  refine lv_icmp_ne (tgt := 12) hx hb dX8_isNothing_5 (by decide) (fun c1_ => absurd (by decide) c1_) (fun c1_ => ?_)
  refine lv_iconst (v := 1) hx hb dX8_isNothing_8 (by decide) ?_
  refine lv_goto (tgt := 13) hx hb dX8_isNothing_9 (by decide) ?_
  exact zret_z (v := 1) hx hb hr hlocks hS () rfl rfl hW (Nat.le_of_ble_eq_true rfl) (Nat.le_of_ble_eq_true rfl) dX8_isNothing_13
set_option maxHeartbeats 8000000 in
set_option maxRecDepth 100000 in
theorem zc_X9_judge_0 (l : Launch) (D : va_G) (y : Nat → ClassId) (a0 : Nat) (p1 : Int32) (p2 : Int32) (w3 : Value) (w4 : Value) (w5 : Value) (a6 : Nat) (w7 : Value) (w8 : Value) (w9 : Value) (w10 : Value) (a11 : Nat) (w12 : Value) (w13 : Value) (w14 : Value) (w15 : Value) (w16 : Value) (w17 : Value) (w18 : Value) (w19 : Value) (w20 : Value) (w21 : Value) (w22 : Value) (a23 : Nat) (a24 : Nat) (a25 : Nat) (a26 : Nat) (a27 : Nat) (a28 : Nat) (w29 : Value) (w30 : Value) (w31 : Value) (w32 : Value) (w33 : Value) (w34 : Value) (w35 : Value) (w36 : Value) (w37 : Value) (w38 : Value) (w39 : Value) (w40 : Value) : zM l D y yX9_judge (Cond.code yX9_judge cX9_judge 6 (some .int) :: zT) { frames := 2, cells := 0, slots := 0, locals := 42 } [.ref a0, .int p1, .int p2] [(a0, .inr (8, [w3, w4, w5, .ref a6, w7, w8, w9, w10, .ref a11])), (a6, .inr (6, [w12, .int 0, w13, w14, w15, w16, w17, w18, w19, w20, w21, w22])), (a11, .inl (y 5, 6, .inr (.inr (.inr (.inr (va_up (va_up (va_up (va_up (va_up (va_up (fun _ => none) 0 (some a23)) 1 (some a24)) 2 (some a25)) 3 (some a26)) 4 (some a27)) 5 (some a28))))))), (a23, .inr (7, [.int (-1), w29, w30])), (a24, .inr (7, [.int (-1), w31, w32])), (a25, .inr (7, [.int (-1), w33, w34])), (a26, .inr (7, [.int (-1), w35, w36])), (a27, .inr (7, [.int (-1), w37, w38])), (a28, .inr (7, [.int (-1), w39, w40]))] (zQi (S := Unit) D (fun r_ _ => r_ = (if p1 < 0 then (-1) else (if 5 < p1 then (-1) else (-5)))) (fun _ => [])) := by
  refine zent (cc := cX9_judge) (maxL := 6) (ret := (some .int)) (by decide) (Nat.le_of_ble_eq_true rfl) ?_
  intro p e s m below meth c A H locs ls hx hb hml hr ht hown hlocks hin hA hK hE hS hW hl
  have hown : s.vm.findClass RX9 = some m.cls := hown
  have hW : zPD D A [(a0, .inr (8, [w3, w4, w5, .ref a6, w7, w8, w9, w10, .ref a11])), (a6, .inr (6, [w12, .int 0, w13, w14, w15, w16, w17, w18, w19, w20, w21, w22])), (a11, .inl (y 5, 6, .inr (.inr (.inr (.inr (va_up (va_up (va_up (va_up (va_up (va_up (fun _ => none) 0 (some a23)) 1 (some a24)) 2 (some a25)) 3 (some a26)) 4 (some a27)) 5 (some a28))))))), (a23, .inr (7, [.int (-1), w29, w30])), (a24, .inr (7, [.int (-1), w31, w32])), (a25, .inr (7, [.int (-1), w33, w34])), (a26, .inr (7, [.int (-1), w35, w36])), (a27, .inr (7, [.int (-1), w37, w38])), (a28, .inr (7, [.int (-1), w39, w40]))] H := hW
  have hl : lv_has ls 6 [(0, .ref a0), (1, .int p1), (2, .int p2)] := hl
  refine lv_iload_n hx hb dX9_judge_0 rfl (lv_at hl 1 rfl) ?_
  refine zgo0_i (zrunS (As := [.int p1]) (rest := []) ⟨hx, hb, hml, hown, ht⟩ (zc_X9_isTape_0 l D y p1) (va_cwS 1 ht (zgS zm_1086 zm_1087 zm_2 zm_1088) rfl rfl rfl (by decide +kernel) ⟨(Nat.le_of_ble_eq_true rfl), (Nat.le_of_ble_eq_true rfl)⟩) hK hE hS hA hW [] (by decide) rfl rfl hl.1 rfl (Nat.le_of_ble_eq_true rfl) dX9_judge_1 (Nat.le_of_ble_eq_true rfl) (Nat.le_of_ble_eq_true rfl)) hS hA hW (fun r1_ u H locs hw hW hS => ?_)
  have hw : r1_ = (if p1 < 0 then 0 else (if 5 < p1 then 0 else 1)) := hw
  by_cases c2_ : p1 < 0
  · have b3_ : (-2147483648) ≤ Int32.toInt p1 ∧ Int32.toInt p1 ≤ (-1) := (by have u0 := zbnd p1; have u1 := (zi_lt _ _).mp c2_; have u2 : (0 : Int32).toInt = 0 := (by decide); omega)
    rw [if_pos c2_] at hw
    subst hw
    refine lv_if_ne (tgt := 9) hx hb dX9_judge_4 (by decide) (fun c4_ => absurd (by decide) c4_) (fun c4_ => ?_)
    refine lv_iconst (v := (-1)) hx hb dX9_judge_7 (by decide) ?_
    exact zret_i (v := (-1)) hx hb hr hlocks hS () (by show _ = _; rw [if_pos c2_]) (hW.sub [] (by decide) rfl) (Nat.le_of_ble_eq_true rfl) (Nat.le_of_ble_eq_true rfl) dX9_judge_8
  · have b5_ : 0 ≤ Int32.toInt p1 ∧ Int32.toInt p1 ≤ 2147483647 := (by have u0 := zbnd p1; have u1 := (not_congr (zi_lt _ _)).mp c2_; have u2 : (0 : Int32).toInt = 0 := (by decide); omega)
    rw [if_neg c2_] at hw
    by_cases c6_ : 5 < p1
    · have b7_ : 6 ≤ Int32.toInt p1 ∧ Int32.toInt p1 ≤ 2147483647 := (by have u0 := b5_; have u1 := (zi_lt _ _).mp c6_; have u2 : (5 : Int32).toInt = 5 := (by decide); omega)
      rw [if_pos c6_] at hw
      subst hw
      refine lv_if_ne (tgt := 9) hx hb dX9_judge_4 (by decide) (fun c8_ => absurd (by decide) c8_) (fun c8_ => ?_)
      refine lv_iconst (v := (-1)) hx hb dX9_judge_7 (by decide) ?_
      exact zret_i (v := (-1)) hx hb hr hlocks hS () (by show _ = _; rw [if_neg c2_, if_pos c6_]) (hW.sub [] (by decide) rfl) (Nat.le_of_ble_eq_true rfl) (Nat.le_of_ble_eq_true rfl) dX9_judge_8
    · have b9_ : 0 ≤ Int32.toInt p1 ∧ Int32.toInt p1 ≤ 5 := (by have u0 := b5_; have u1 := (not_congr (zi_lt _ _)).mp c6_; have u2 : (5 : Int32).toInt = 5 := (by decide); omega)
      rw [if_neg c6_] at hw
      subst hw
      refine lv_if_ne (tgt := 9) hx hb dX9_judge_4 (by decide) (fun c10_ => ?_) (fun c10_ => absurd c10_ (by decide))
      refine lv_aload_n hx hb dX9_judge_9 rfl (lv_at hl 0 rfl) ?_
      refine zget hx hb ht inlX9 hown hK hW 0 rfl rfl 8 (by decide) zm_35 rfl dX9_judge_10 ?_
      refine lv_iload_n hx hb dX9_judge_13 rfl (lv_at hl 1 rfl) ?_
      by_cases c11_ : p1 = 0
      · have b12_ : 0 ≤ Int32.toInt p1 ∧ Int32.toInt p1 ≤ 0 := (by have u0 := b9_; have u1 := (zi_eq _ _).mp c11_; have u2 : (0 : Int32).toInt = 0 := (by decide); omega)
        refine ztop (w := .int 0) (congrArg Value.int c11_) ?_
        refine zaald (v := .ref a23) hx hb hK hW 2 5 rfl rfl (by unfold vp_in; decide) rfl dX9_judge_14 ?_
        refine lv_astore_n (lv' := [(3, .ref a23), (0, .ref a0), (1, .int p1), (2, .int p2)]) hx hb dX9_judge_15 rfl hl (by decide) rfl (fun ls hl => ?_)
        refine lv_aload_n hx hb dX9_judge_16 rfl (lv_at hl 0 rfl) ?_
        refine zgo_i (wr := [(a0, .inr (8, [w3, w4, w5, .ref a6, w7, w8, w9, w10, .ref a11])), (a6, .inr (6, [w12, .int 0, w13, w14, w15, w16, w17, w18, w19, w20, w21, w22])), (a11, .inl (y 5, 6, .inr (.inr (.inr (.inr (va_up (va_up (va_up (va_up (va_up (va_up (fun _ => none) 0 (some a23)) 1 (some a24)) 2 (some a25)) 3 (some a26)) 4 (some a27)) 5 (some a28))))))), (a24, .inr (7, [.int (-1), w31, w32])), (a25, .inr (7, [.int (-1), w33, w34])), (a26, .inr (7, [.int (-1), w35, w36])), (a27, .inr (7, [.int (-1), w37, w38])), (a28, .inr (7, [.int (-1), w39, w40]))]) (zrunV (As := []) (rest := []) ⟨hx, hb, hml, hown, ht⟩ (zc_X8_isNothing_0 l D y a23 w29 w30) (cwV 0 ht (zgV zm_1089 zm_1090 zm_1091 zm_39 zm_1092) rfl rfl rfl (by decide +kernel) ⟨(Nat.le_of_ble_eq_true rfl), (Nat.le_of_ble_eq_true rfl)⟩) hK hE hS hA hW [3] (by decide) rfl 0 rfl rfl rfl rfl hl.1 rfl (Nat.le_of_ble_eq_true rfl) dX9_judge_17 (Nat.le_of_ble_eq_true rfl) (Nat.le_of_ble_eq_true rfl)) hS hA hW [3] [0, 1, 2, 4, 5, 6, 7, 8] rfl rfl (by decide) (by decide) (fun r13_ u H locs hw hW hS => ?_)
        have hW : zPD D A [(a0, .inr (8, [w3, w4, w5, .ref a6, w7, w8, w9, w10, .ref a11])), (a6, .inr (6, [w12, .int 0, w13, w14, w15, w16, w17, w18, w19, w20, w21, w22])), (a11, .inl (y 5, 6, .inr (.inr (.inr (.inr (va_up (va_up (va_up (va_up (va_up (va_up (fun _ => none) 0 (some a23)) 1 (some a24)) 2 (some a25)) 3 (some a26)) 4 (some a27)) 5 (some a28))))))), (a24, .inr (7, [.int (-1), w31, w32])), (a25, .inr (7, [.int (-1), w33, w34])), (a26, .inr (7, [.int (-1), w35, w36])), (a27, .inr (7, [.int (-1), w37, w38])), (a28, .inr (7, [.int (-1), w39, w40])), (a23, .inr (7, [.int (-1), w29, w30]))] H := hW
        have hw : r13_ = 1 := hw
        subst hw
        refine lv_if_ne (tgt := 34) hx hb dX9_judge_20 (by decide) (fun c14_ => ?_) (fun c14_ => absurd c14_ (by decide))
        refine lv_iconst (v := 0) hx hb dX9_judge_34 (by decide) ?_
        refine lv_istore (lv' := [(4, .int 0), (3, .ref a23), (0, .ref a0), (1, .int p1), (2, .int p2)]) hx hb dX9_judge_35 hl (by decide) rfl (fun ls hl => ?_)
        refine lv_iload hx hb dX9_judge_37 (lv_at hl 0 rfl) ?_
        refine lv_aload_n hx hb dX9_judge_39 rfl (lv_at hl 2 rfl) ?_
        refine zget hx hb ht inlX9 hown hK hW 0 rfl rfl 3 (by decide) zm_23 rfl dX9_judge_40 ?_
        refine zget hx hb ht inlX7 hown hK hW 1 rfl rfl 1 (by decide) zm_220 rfl dX9_judge_43 ?_
        refine lv_icmp_ge (tgt := 118) hx hb dX9_judge_46 (by decide) (fun c15_ => ?_) (fun c15_ => absurd (by decide) c15_)
        refine lv_bipush (v := (-5)) hx hb dX9_judge_118 (by decide) ?_
        exact zret_i (v := (-5)) hx hb hr hlocks hS () (by show _ = _; rw [if_neg c2_, if_neg c6_]) (hW.sub [] (by decide) rfl) (Nat.le_of_ble_eq_true rfl) (Nat.le_of_ble_eq_true rfl) dX9_judge_120
      · have b16_ : 1 ≤ Int32.toInt p1 ∧ Int32.toInt p1 ≤ 5 := (by have u0 := b9_; have u1 := (not_congr (zi_eq _ _)).mp c11_; have u2 : (0 : Int32).toInt = 0 := (by decide); omega)
        by_cases c17_ : p1 = 1
        · have b18_ : 1 ≤ Int32.toInt p1 ∧ Int32.toInt p1 ≤ 1 := (by have u0 := b16_; have u1 := (zi_eq _ _).mp c17_; have u2 : (1 : Int32).toInt = 1 := (by decide); omega)
          refine ztop (w := .int 1) (congrArg Value.int c17_) ?_
          refine zaald (v := .ref a24) hx hb hK hW 2 5 rfl rfl (by unfold vp_in; decide) rfl dX9_judge_14 ?_
          refine lv_astore_n (lv' := [(3, .ref a24), (0, .ref a0), (1, .int p1), (2, .int p2)]) hx hb dX9_judge_15 rfl hl (by decide) rfl (fun ls hl => ?_)
          refine lv_aload_n hx hb dX9_judge_16 rfl (lv_at hl 0 rfl) ?_
          refine zgo_i (wr := [(a0, .inr (8, [w3, w4, w5, .ref a6, w7, w8, w9, w10, .ref a11])), (a6, .inr (6, [w12, .int 0, w13, w14, w15, w16, w17, w18, w19, w20, w21, w22])), (a11, .inl (y 5, 6, .inr (.inr (.inr (.inr (va_up (va_up (va_up (va_up (va_up (va_up (fun _ => none) 0 (some a23)) 1 (some a24)) 2 (some a25)) 3 (some a26)) 4 (some a27)) 5 (some a28))))))), (a23, .inr (7, [.int (-1), w29, w30])), (a25, .inr (7, [.int (-1), w33, w34])), (a26, .inr (7, [.int (-1), w35, w36])), (a27, .inr (7, [.int (-1), w37, w38])), (a28, .inr (7, [.int (-1), w39, w40]))]) (zrunV (As := []) (rest := []) ⟨hx, hb, hml, hown, ht⟩ (zc_X8_isNothing_0 l D y a24 w31 w32) (cwV 0 ht (zgV zm_1089 zm_1090 zm_1091 zm_39 zm_1092) rfl rfl rfl (by decide +kernel) ⟨(Nat.le_of_ble_eq_true rfl), (Nat.le_of_ble_eq_true rfl)⟩) hK hE hS hA hW [4] (by decide) rfl 0 rfl rfl rfl rfl hl.1 rfl (Nat.le_of_ble_eq_true rfl) dX9_judge_17 (Nat.le_of_ble_eq_true rfl) (Nat.le_of_ble_eq_true rfl)) hS hA hW [4] [0, 1, 2, 3, 5, 6, 7, 8] rfl rfl (by decide) (by decide) (fun r19_ u H locs hw hW hS => ?_)
          have hW : zPD D A [(a0, .inr (8, [w3, w4, w5, .ref a6, w7, w8, w9, w10, .ref a11])), (a6, .inr (6, [w12, .int 0, w13, w14, w15, w16, w17, w18, w19, w20, w21, w22])), (a11, .inl (y 5, 6, .inr (.inr (.inr (.inr (va_up (va_up (va_up (va_up (va_up (va_up (fun _ => none) 0 (some a23)) 1 (some a24)) 2 (some a25)) 3 (some a26)) 4 (some a27)) 5 (some a28))))))), (a23, .inr (7, [.int (-1), w29, w30])), (a25, .inr (7, [.int (-1), w33, w34])), (a26, .inr (7, [.int (-1), w35, w36])), (a27, .inr (7, [.int (-1), w37, w38])), (a28, .inr (7, [.int (-1), w39, w40])), (a24, .inr (7, [.int (-1), w31, w32]))] H := hW
          have hw : r19_ = 1 := hw
          subst hw
          refine lv_if_ne (tgt := 34) hx hb dX9_judge_20 (by decide) (fun c20_ => ?_) (fun c20_ => absurd c20_ (by decide))
          refine lv_iconst (v := 0) hx hb dX9_judge_34 (by decide) ?_
          refine lv_istore (lv' := [(4, .int 0), (3, .ref a24), (0, .ref a0), (1, .int p1), (2, .int p2)]) hx hb dX9_judge_35 hl (by decide) rfl (fun ls hl => ?_)
          refine lv_iload hx hb dX9_judge_37 (lv_at hl 0 rfl) ?_
          refine lv_aload_n hx hb dX9_judge_39 rfl (lv_at hl 2 rfl) ?_
          refine zget hx hb ht inlX9 hown hK hW 0 rfl rfl 3 (by decide) zm_23 rfl dX9_judge_40 ?_
          refine zget hx hb ht inlX7 hown hK hW 1 rfl rfl 1 (by decide) zm_220 rfl dX9_judge_43 ?_
          refine lv_icmp_ge (tgt := 118) hx hb dX9_judge_46 (by decide) (fun c21_ => ?_) (fun c21_ => absurd (by decide) c21_)
          refine lv_bipush (v := (-5)) hx hb dX9_judge_118 (by decide) ?_
          exact zret_i (v := (-5)) hx hb hr hlocks hS () (by show _ = _; rw [if_neg c2_, if_neg c6_]) (hW.sub [] (by decide) rfl) (Nat.le_of_ble_eq_true rfl) (Nat.le_of_ble_eq_true rfl) dX9_judge_120
        · have b22_ : 2 ≤ Int32.toInt p1 ∧ Int32.toInt p1 ≤ 5 := (by have u0 := b16_; have u1 := (not_congr (zi_eq _ _)).mp c17_; have u2 : (1 : Int32).toInt = 1 := (by decide); omega)
          by_cases c23_ : p1 = 2
          · have b24_ : 2 ≤ Int32.toInt p1 ∧ Int32.toInt p1 ≤ 2 := (by have u0 := b22_; have u1 := (zi_eq _ _).mp c23_; have u2 : (2 : Int32).toInt = 2 := (by decide); omega)
            refine ztop (w := .int 2) (congrArg Value.int c23_) ?_
            refine zaald (v := .ref a25) hx hb hK hW 2 5 rfl rfl (by unfold vp_in; decide) rfl dX9_judge_14 ?_
            refine lv_astore_n (lv' := [(3, .ref a25), (0, .ref a0), (1, .int p1), (2, .int p2)]) hx hb dX9_judge_15 rfl hl (by decide) rfl (fun ls hl => ?_)
            refine lv_aload_n hx hb dX9_judge_16 rfl (lv_at hl 0 rfl) ?_
            refine zgo_i (wr := [(a0, .inr (8, [w3, w4, w5, .ref a6, w7, w8, w9, w10, .ref a11])), (a6, .inr (6, [w12, .int 0, w13, w14, w15, w16, w17, w18, w19, w20, w21, w22])), (a11, .inl (y 5, 6, .inr (.inr (.inr (.inr (va_up (va_up (va_up (va_up (va_up (va_up (fun _ => none) 0 (some a23)) 1 (some a24)) 2 (some a25)) 3 (some a26)) 4 (some a27)) 5 (some a28))))))), (a23, .inr (7, [.int (-1), w29, w30])), (a24, .inr (7, [.int (-1), w31, w32])), (a26, .inr (7, [.int (-1), w35, w36])), (a27, .inr (7, [.int (-1), w37, w38])), (a28, .inr (7, [.int (-1), w39, w40]))]) (zrunV (As := []) (rest := []) ⟨hx, hb, hml, hown, ht⟩ (zc_X8_isNothing_0 l D y a25 w33 w34) (cwV 0 ht (zgV zm_1089 zm_1090 zm_1091 zm_39 zm_1092) rfl rfl rfl (by decide +kernel) ⟨(Nat.le_of_ble_eq_true rfl), (Nat.le_of_ble_eq_true rfl)⟩) hK hE hS hA hW [5] (by decide) rfl 0 rfl rfl rfl rfl hl.1 rfl (Nat.le_of_ble_eq_true rfl) dX9_judge_17 (Nat.le_of_ble_eq_true rfl) (Nat.le_of_ble_eq_true rfl)) hS hA hW [5] [0, 1, 2, 3, 4, 6, 7, 8] rfl rfl (by decide) (by decide) (fun r25_ u H locs hw hW hS => ?_)
            have hW : zPD D A [(a0, .inr (8, [w3, w4, w5, .ref a6, w7, w8, w9, w10, .ref a11])), (a6, .inr (6, [w12, .int 0, w13, w14, w15, w16, w17, w18, w19, w20, w21, w22])), (a11, .inl (y 5, 6, .inr (.inr (.inr (.inr (va_up (va_up (va_up (va_up (va_up (va_up (fun _ => none) 0 (some a23)) 1 (some a24)) 2 (some a25)) 3 (some a26)) 4 (some a27)) 5 (some a28))))))), (a23, .inr (7, [.int (-1), w29, w30])), (a24, .inr (7, [.int (-1), w31, w32])), (a26, .inr (7, [.int (-1), w35, w36])), (a27, .inr (7, [.int (-1), w37, w38])), (a28, .inr (7, [.int (-1), w39, w40])), (a25, .inr (7, [.int (-1), w33, w34]))] H := hW
            have hw : r25_ = 1 := hw
            subst hw
            refine lv_if_ne (tgt := 34) hx hb dX9_judge_20 (by decide) (fun c26_ => ?_) (fun c26_ => absurd c26_ (by decide))
            refine lv_iconst (v := 0) hx hb dX9_judge_34 (by decide) ?_
            refine lv_istore (lv' := [(4, .int 0), (3, .ref a25), (0, .ref a0), (1, .int p1), (2, .int p2)]) hx hb dX9_judge_35 hl (by decide) rfl (fun ls hl => ?_)
            refine lv_iload hx hb dX9_judge_37 (lv_at hl 0 rfl) ?_
            refine lv_aload_n hx hb dX9_judge_39 rfl (lv_at hl 2 rfl) ?_
            refine zget hx hb ht inlX9 hown hK hW 0 rfl rfl 3 (by decide) zm_23 rfl dX9_judge_40 ?_
            refine zget hx hb ht inlX7 hown hK hW 1 rfl rfl 1 (by decide) zm_220 rfl dX9_judge_43 ?_
            refine lv_icmp_ge (tgt := 118) hx hb dX9_judge_46 (by decide) (fun c27_ => ?_) (fun c27_ => absurd (by decide) c27_)
            refine lv_bipush (v := (-5)) hx hb dX9_judge_118 (by decide) ?_
            exact zret_i (v := (-5)) hx hb hr hlocks hS () (by show _ = _; rw [if_neg c2_, if_neg c6_]) (hW.sub [] (by decide) rfl) (Nat.le_of_ble_eq_true rfl) (Nat.le_of_ble_eq_true rfl) dX9_judge_120
          · have b28_ : 3 ≤ Int32.toInt p1 ∧ Int32.toInt p1 ≤ 5 := (by have u0 := b22_; have u1 := (not_congr (zi_eq _ _)).mp c23_; have u2 : (2 : Int32).toInt = 2 := (by decide); omega)
            by_cases c29_ : p1 = 3
            · have b30_ : 3 ≤ Int32.toInt p1 ∧ Int32.toInt p1 ≤ 3 := (by have u0 := b28_; have u1 := (zi_eq _ _).mp c29_; have u2 : (3 : Int32).toInt = 3 := (by decide); omega)
              refine ztop (w := .int 3) (congrArg Value.int c29_) ?_
              refine zaald (v := .ref a26) hx hb hK hW 2 5 rfl rfl (by unfold vp_in; decide) rfl dX9_judge_14 ?_
              refine lv_astore_n (lv' := [(3, .ref a26), (0, .ref a0), (1, .int p1), (2, .int p2)]) hx hb dX9_judge_15 rfl hl (by decide) rfl (fun ls hl => ?_)
              refine lv_aload_n hx hb dX9_judge_16 rfl (lv_at hl 0 rfl) ?_
              refine zgo_i (wr := [(a0, .inr (8, [w3, w4, w5, .ref a6, w7, w8, w9, w10, .ref a11])), (a6, .inr (6, [w12, .int 0, w13, w14, w15, w16, w17, w18, w19, w20, w21, w22])), (a11, .inl (y 5, 6, .inr (.inr (.inr (.inr (va_up (va_up (va_up (va_up (va_up (va_up (fun _ => none) 0 (some a23)) 1 (some a24)) 2 (some a25)) 3 (some a26)) 4 (some a27)) 5 (some a28))))))), (a23, .inr (7, [.int (-1), w29, w30])), (a24, .inr (7, [.int (-1), w31, w32])), (a25, .inr (7, [.int (-1), w33, w34])), (a27, .inr (7, [.int (-1), w37, w38])), (a28, .inr (7, [.int (-1), w39, w40]))]) (zrunV (As := []) (rest := []) ⟨hx, hb, hml, hown, ht⟩ (zc_X8_isNothing_0 l D y a26 w35 w36) (cwV 0 ht (zgV zm_1089 zm_1090 zm_1091 zm_39 zm_1092) rfl rfl rfl (by decide +kernel) ⟨(Nat.le_of_ble_eq_true rfl), (Nat.le_of_ble_eq_true rfl)⟩) hK hE hS hA hW [6] (by decide) rfl 0 rfl rfl rfl rfl hl.1 rfl (Nat.le_of_ble_eq_true rfl) dX9_judge_17 (Nat.le_of_ble_eq_true rfl) (Nat.le_of_ble_eq_true rfl)) hS hA hW [6] [0, 1, 2, 3, 4, 5, 7, 8] rfl rfl (by decide) (by decide) (fun r31_ u H locs hw hW hS => ?_)
              have hW : zPD D A [(a0, .inr (8, [w3, w4, w5, .ref a6, w7, w8, w9, w10, .ref a11])), (a6, .inr (6, [w12, .int 0, w13, w14, w15, w16, w17, w18, w19, w20, w21, w22])), (a11, .inl (y 5, 6, .inr (.inr (.inr (.inr (va_up (va_up (va_up (va_up (va_up (va_up (fun _ => none) 0 (some a23)) 1 (some a24)) 2 (some a25)) 3 (some a26)) 4 (some a27)) 5 (some a28))))))), (a23, .inr (7, [.int (-1), w29, w30])), (a24, .inr (7, [.int (-1), w31, w32])), (a25, .inr (7, [.int (-1), w33, w34])), (a27, .inr (7, [.int (-1), w37, w38])), (a28, .inr (7, [.int (-1), w39, w40])), (a26, .inr (7, [.int (-1), w35, w36]))] H := hW
              have hw : r31_ = 1 := hw
              subst hw
              refine lv_if_ne (tgt := 34) hx hb dX9_judge_20 (by decide) (fun c32_ => ?_) (fun c32_ => absurd c32_ (by decide))
              refine lv_iconst (v := 0) hx hb dX9_judge_34 (by decide) ?_
              refine lv_istore (lv' := [(4, .int 0), (3, .ref a26), (0, .ref a0), (1, .int p1), (2, .int p2)]) hx hb dX9_judge_35 hl (by decide) rfl (fun ls hl => ?_)
              refine lv_iload hx hb dX9_judge_37 (lv_at hl 0 rfl) ?_
              refine lv_aload_n hx hb dX9_judge_39 rfl (lv_at hl 2 rfl) ?_
              refine zget hx hb ht inlX9 hown hK hW 0 rfl rfl 3 (by decide) zm_23 rfl dX9_judge_40 ?_
              refine zget hx hb ht inlX7 hown hK hW 1 rfl rfl 1 (by decide) zm_220 rfl dX9_judge_43 ?_
              refine lv_icmp_ge (tgt := 118) hx hb dX9_judge_46 (by decide) (fun c33_ => ?_) (fun c33_ => absurd (by decide) c33_)
              refine lv_bipush (v := (-5)) hx hb dX9_judge_118 (by decide) ?_
              exact zret_i (v := (-5)) hx hb hr hlocks hS () (by show _ = _; rw [if_neg c2_, if_neg c6_]) (hW.sub [] (by decide) rfl) (Nat.le_of_ble_eq_true rfl) (Nat.le_of_ble_eq_true rfl) dX9_judge_120
            · have b34_ : 4 ≤ Int32.toInt p1 ∧ Int32.toInt p1 ≤ 5 := (by have u0 := b28_; have u1 := (not_congr (zi_eq _ _)).mp c29_; have u2 : (3 : Int32).toInt = 3 := (by decide); omega)
              by_cases c35_ : p1 = 4
              · have b36_ : 4 ≤ Int32.toInt p1 ∧ Int32.toInt p1 ≤ 4 := (by have u0 := b34_; have u1 := (zi_eq _ _).mp c35_; have u2 : (4 : Int32).toInt = 4 := (by decide); omega)
                refine ztop (w := .int 4) (congrArg Value.int c35_) ?_
                refine zaald (v := .ref a27) hx hb hK hW 2 5 rfl rfl (by unfold vp_in; decide) rfl dX9_judge_14 ?_
                refine lv_astore_n (lv' := [(3, .ref a27), (0, .ref a0), (1, .int p1), (2, .int p2)]) hx hb dX9_judge_15 rfl hl (by decide) rfl (fun ls hl => ?_)
                refine lv_aload_n hx hb dX9_judge_16 rfl (lv_at hl 0 rfl) ?_
                refine zgo_i (wr := [(a0, .inr (8, [w3, w4, w5, .ref a6, w7, w8, w9, w10, .ref a11])), (a6, .inr (6, [w12, .int 0, w13, w14, w15, w16, w17, w18, w19, w20, w21, w22])), (a11, .inl (y 5, 6, .inr (.inr (.inr (.inr (va_up (va_up (va_up (va_up (va_up (va_up (fun _ => none) 0 (some a23)) 1 (some a24)) 2 (some a25)) 3 (some a26)) 4 (some a27)) 5 (some a28))))))), (a23, .inr (7, [.int (-1), w29, w30])), (a24, .inr (7, [.int (-1), w31, w32])), (a25, .inr (7, [.int (-1), w33, w34])), (a26, .inr (7, [.int (-1), w35, w36])), (a28, .inr (7, [.int (-1), w39, w40]))]) (zrunV (As := []) (rest := []) ⟨hx, hb, hml, hown, ht⟩ (zc_X8_isNothing_0 l D y a27 w37 w38) (cwV 0 ht (zgV zm_1089 zm_1090 zm_1091 zm_39 zm_1092) rfl rfl rfl (by decide +kernel) ⟨(Nat.le_of_ble_eq_true rfl), (Nat.le_of_ble_eq_true rfl)⟩) hK hE hS hA hW [7] (by decide) rfl 0 rfl rfl rfl rfl hl.1 rfl (Nat.le_of_ble_eq_true rfl) dX9_judge_17 (Nat.le_of_ble_eq_true rfl) (Nat.le_of_ble_eq_true rfl)) hS hA hW [7] [0, 1, 2, 3, 4, 5, 6, 8] rfl rfl (by decide) (by decide) (fun r37_ u H locs hw hW hS => ?_)
                have hW : zPD D A [(a0, .inr (8, [w3, w4, w5, .ref a6, w7, w8, w9, w10, .ref a11])), (a6, .inr (6, [w12, .int 0, w13, w14, w15, w16, w17, w18, w19, w20, w21, w22])), (a11, .inl (y 5, 6, .inr (.inr (.inr (.inr (va_up (va_up (va_up (va_up (va_up (va_up (fun _ => none) 0 (some a23)) 1 (some a24)) 2 (some a25)) 3 (some a26)) 4 (some a27)) 5 (some a28))))))), (a23, .inr (7, [.int (-1), w29, w30])), (a24, .inr (7, [.int (-1), w31, w32])), (a25, .inr (7, [.int (-1), w33, w34])), (a26, .inr (7, [.int (-1), w35, w36])), (a28, .inr (7, [.int (-1), w39, w40])), (a27, .inr (7, [.int (-1), w37, w38]))] H := hW
                have hw : r37_ = 1 := hw
                subst hw
                refine lv_if_ne (tgt := 34) hx hb dX9_judge_20 (by decide) (fun c38_ => ?_) (fun c38_ => absurd c38_ (by decide))
                refine lv_iconst (v := 0) hx hb dX9_judge_34 (by decide) ?_
                refine lv_istore (lv' := [(4, .int 0), (3, .ref a27), (0, .ref a0), (1, .int p1), (2, .int p2)]) hx hb dX9_judge_35 hl (by decide) rfl (fun ls hl => ?_)
                refine lv_iload hx hb dX9_judge_37 (lv_at hl 0 rfl) ?_
                refine lv_aload_n hx hb dX9_judge_39 rfl (lv_at hl 2 rfl) ?_
                refine zget hx hb ht inlX9 hown hK hW 0 rfl rfl 3 (by decide) zm_23 rfl dX9_judge_40 ?_
                refine zget hx hb ht inlX7 hown hK hW 1 rfl rfl 1 (by decide) zm_220 rfl dX9_judge_43 ?_
                refine lv_icmp_ge (tgt := 118) hx hb dX9_judge_46 (by decide) (fun c39_ => ?_) (fun c39_ => absurd (by decide) c39_)
                refine lv_bipush (v := (-5)) hx hb dX9_judge_118 (by decide) ?_
                exact zret_i (v := (-5)) hx hb hr hlocks hS () (by show _ = _; rw [if_neg c2_, if_neg c6_]) (hW.sub [] (by decide) rfl) (Nat.le_of_ble_eq_true rfl) (Nat.le_of_ble_eq_true rfl) dX9_judge_120
              · have b40_ : 5 ≤ Int32.toInt p1 ∧ Int32.toInt p1 ≤ 5 := (by have u0 := b34_; have u1 := (not_congr (zi_eq _ _)).mp c35_; have u2 : (4 : Int32).toInt = 4 := (by decide); omega)
                refine ztop (w := .int 5) (congrArg Value.int ((zi_eq _ _).mpr (by have u0 := b40_; have u1 : (5 : Int32).toInt = 5 := (by decide); omega))) ?_
                refine zaald (v := .ref a28) hx hb hK hW 2 5 rfl rfl (by unfold vp_in; decide) rfl dX9_judge_14 ?_
                refine lv_astore_n (lv' := [(3, .ref a28), (0, .ref a0), (1, .int p1), (2, .int p2)]) hx hb dX9_judge_15 rfl hl (by decide) rfl (fun ls hl => ?_)
                refine lv_aload_n hx hb dX9_judge_16 rfl (lv_at hl 0 rfl) ?_
                refine zgo_i (wr := [(a0, .inr (8, [w3, w4, w5, .ref a6, w7, w8, w9, w10, .ref a11])), (a6, .inr (6, [w12, .int 0, w13, w14, w15, w16, w17, w18, w19, w20, w21, w22])), (a11, .inl (y 5, 6, .inr (.inr (.inr (.inr (va_up (va_up (va_up (va_up (va_up (va_up (fun _ => none) 0 (some a23)) 1 (some a24)) 2 (some a25)) 3 (some a26)) 4 (some a27)) 5 (some a28))))))), (a23, .inr (7, [.int (-1), w29, w30])), (a24, .inr (7, [.int (-1), w31, w32])), (a25, .inr (7, [.int (-1), w33, w34])), (a26, .inr (7, [.int (-1), w35, w36])), (a27, .inr (7, [.int (-1), w37, w38]))]) (zrunV (As := []) (rest := []) ⟨hx, hb, hml, hown, ht⟩ (zc_X8_isNothing_0 l D y a28 w39 w40) (cwV 0 ht (zgV zm_1089 zm_1090 zm_1091 zm_39 zm_1092) rfl rfl rfl (by decide +kernel) ⟨(Nat.le_of_ble_eq_true rfl), (Nat.le_of_ble_eq_true rfl)⟩) hK hE hS hA hW [8] (by decide) rfl 0 rfl rfl rfl rfl hl.1 rfl (Nat.le_of_ble_eq_true rfl) dX9_judge_17 (Nat.le_of_ble_eq_true rfl) (Nat.le_of_ble_eq_true rfl)) hS hA hW [8] [0, 1, 2, 3, 4, 5, 6, 7] rfl rfl (by decide) (by decide) (fun r41_ u H locs hw hW hS => ?_)
                have hW : zPD D A [(a0, .inr (8, [w3, w4, w5, .ref a6, w7, w8, w9, w10, .ref a11])), (a6, .inr (6, [w12, .int 0, w13, w14, w15, w16, w17, w18, w19, w20, w21, w22])), (a11, .inl (y 5, 6, .inr (.inr (.inr (.inr (va_up (va_up (va_up (va_up (va_up (va_up (fun _ => none) 0 (some a23)) 1 (some a24)) 2 (some a25)) 3 (some a26)) 4 (some a27)) 5 (some a28))))))), (a23, .inr (7, [.int (-1), w29, w30])), (a24, .inr (7, [.int (-1), w31, w32])), (a25, .inr (7, [.int (-1), w33, w34])), (a26, .inr (7, [.int (-1), w35, w36])), (a27, .inr (7, [.int (-1), w37, w38])), (a28, .inr (7, [.int (-1), w39, w40]))] H := hW
                have hw : r41_ = 1 := hw
                subst hw
                refine lv_if_ne (tgt := 34) hx hb dX9_judge_20 (by decide) (fun c42_ => ?_) (fun c42_ => absurd c42_ (by decide))
                refine lv_iconst (v := 0) hx hb dX9_judge_34 (by decide) ?_
                refine lv_istore (lv' := [(4, .int 0), (3, .ref a28), (0, .ref a0), (1, .int p1), (2, .int p2)]) hx hb dX9_judge_35 hl (by decide) rfl (fun ls hl => ?_)
                refine lv_iload hx hb dX9_judge_37 (lv_at hl 0 rfl) ?_
                refine lv_aload_n hx hb dX9_judge_39 rfl (lv_at hl 2 rfl) ?_
                refine zget hx hb ht inlX9 hown hK hW 0 rfl rfl 3 (by decide) zm_23 rfl dX9_judge_40 ?_
                refine zget hx hb ht inlX7 hown hK hW 1 rfl rfl 1 (by decide) zm_220 rfl dX9_judge_43 ?_
                refine lv_icmp_ge (tgt := 118) hx hb dX9_judge_46 (by decide) (fun c43_ => ?_) (fun c43_ => absurd (by decide) c43_)
                refine lv_bipush (v := (-5)) hx hb dX9_judge_118 (by decide) ?_
                exact zret_i (v := (-5)) hx hb hr hlocks hS () (by show _ = _; rw [if_neg c2_, if_neg c6_]) (hW.sub [] (by decide) rfl) (Nat.le_of_ble_eq_true rfl) (Nat.le_of_ble_eq_true rfl) dX9_judge_120
set_option maxHeartbeats 8000000 in
set_option maxRecDepth 100000 in
theorem zc_X10_in_12 (l : Launch) (D : va_G) (y : Nat → ClassId) (a0 : Nat) (p1 : Int32) (w2 : Value) (w3 : Value) (w4 : Value) (w5 : Value) (w6 : Value) (w7 : Value) (w8 : Value) (w9 : Value) (w10 : Value) (w11 : Value) (w12 : Value) (w13 : Value) (w14 : Value) (w15 : Value) (w16 : Value) (w17 : Value) (w18 : Value) (w19 : Value) (w20 : Value) (w21 : Value) (w22 : Value) (w23 : Value) (w24 : Value) (w25 : Value) (w26 : Value) (w27 : Value) (w28 : Value) (w29 : Value) (w30 : Value) (w31 : Value) (w32 : Value) (w33 : Value) (w34 : Value) (w35 : Value) (w36 : Value) (w37 : Value) (w38 : Value) (w39 : Value) (w40 : Value) (w41 : Value) (w42 : Value) (w43 : Value) (w44 : Value) (w45 : Value) (w46 : Value) (w47 : Value) (w48 : Value) (w49 : Value) (w50 : Value) (w51 : Value) (w52 : Value) (w53 : Value) (w54 : Value) (w55 : Value) (w56 : Value) (w57 : Value) (w58 : Value) (w59 : Value) (w60 : Value) (w61 : Value) (w62 : Value) (w63 : Value) (w64 : Value) (w65 : Value) (w66 : Value) (w67 : Value) (w68 : Value) (w69 : Value) (w70 : Value) (w71 : Value) (w72 : Value) (w73 : Value) (w74 : Value) (w75 : Value) (w76 : Value) (w77 : Value) : zM l D y yX10_in (Cond.code yX10_in cX10_in 4 (some .boolean) :: zT) { frames := 0, cells := 0, slots := 0, locals := 0 } [.ref a0, .int p1, .int 0, .int 5] [(a0, .inr (9, [w2, w3, w4, w5, w6, w7, w8, w9, w10, w11, w12, w13, w14, w15, w16, w17, w18, w19, w20, w21, w22, w23, w24, w25, w26, w27, w28, w29, w30, w31, w32, w33, w34, w35, w36, w37, w38, w39, w40, w41, w42, w43, w44, w45, w46, w47, w48, w49, w50, w51, w52, w53, w54, w55, w56, w57, w58, w59, w60, w61, w62, w63, w64, w65, w66, w67, w68, w69, w70, w71, w72, w73, w74, w75, w76, w77]))] (zQi (S := Unit) D (fun r_ _ => r_ = (if p1 < 0 then 0 else (if 5 < p1 then 0 else 1))) (fun _ => [(a0, .inr (9, [w2, w3, w4, w5, w6, w7, w8, w9, w10, w11, w12, w13, w14, w15, w16, w17, w18, w19, w20, w21, w22, w23, w24, w25, w26, w27, w28, w29, w30, w31, w32, w33, w34, w35, w36, w37, w38, w39, w40, w41, w42, w43, w44, w45, w46, w47, w48, w49, w50, w51, w52, w53, w54, w55, w56, w57, w58, w59, w60, w61, w62, w63, w64, w65, w66, w67, w68, w69, w70, w71, w72, w73, w74, w75, w76, w77]))])) := by
  refine zent (cc := cX10_in) (maxL := 4) (ret := (some .boolean)) (by decide) (Nat.le_of_ble_eq_true rfl) ?_
  intro p e s m below meth c A H locs ls hx hb hml hr ht hown hlocks hin hA hK hE hS hW hl
  have hown : s.vm.findClass RX10 = some m.cls := hown
  have hW : zPD D A [(a0, .inr (9, [w2, w3, w4, w5, w6, w7, w8, w9, w10, w11, w12, w13, w14, w15, w16, w17, w18, w19, w20, w21, w22, w23, w24, w25, w26, w27, w28, w29, w30, w31, w32, w33, w34, w35, w36, w37, w38, w39, w40, w41, w42, w43, w44, w45, w46, w47, w48, w49, w50, w51, w52, w53, w54, w55, w56, w57, w58, w59, w60, w61, w62, w63, w64, w65, w66, w67, w68, w69, w70, w71, w72, w73, w74, w75, w76, w77]))] H := hW
  have hl : lv_has ls 4 [(0, .ref a0), (1, .int p1), (2, .int 0), (3, .int 5)] := hl
  refine lv_iload_n hx hb dX10_in_0 rfl (lv_at hl 1 rfl) ?_
  refine lv_iload_n hx hb dX10_in_1 rfl (lv_at hl 2 rfl) ?_
  refine lv_icmp_lt (tgt := 14) hx hb dX10_in_2 (by decide) (fun c1_ => ?_) (fun c1_ => ?_)
  · have b2_ : (-2147483648) ≤ Int32.toInt p1 ∧ Int32.toInt p1 ≤ (-1) := (by have u0 := zbnd p1; have u1 := (zi_lt _ _).mp c1_; have u2 : (0 : Int32).toInt = 0 := (by decide); omega)
    refine lv_iconst (v := 0) hx hb dX10_in_14 (by decide) ?_
    exact zret_z (v := 0) hx hb hr hlocks hS () rfl (by show _ = _; rw [if_pos c1_]) hW (Nat.le_of_ble_eq_true rfl) (Nat.le_of_ble_eq_true rfl) dX10_in_15
  · have b3_ : 0 ≤ Int32.toInt p1 ∧ Int32.toInt p1 ≤ 2147483647 := (by have u0 := zbnd p1; have u1 := (not_congr (zi_lt _ _)).mp c1_; have u2 : (0 : Int32).toInt = 0 := (by decide); omega)
    refine lv_iload_n hx hb dX10_in_5 rfl (lv_at hl 1 rfl) ?_
    refine lv_iload_n hx hb dX10_in_6 rfl (lv_at hl 3 rfl) ?_
    refine lv_icmp_gt (tgt := 14) hx hb dX10_in_7 (by decide) (fun c4_ => ?_) (fun c4_ => ?_)
    · have b5_ : 6 ≤ Int32.toInt p1 ∧ Int32.toInt p1 ≤ 2147483647 := (by have u0 := b3_; have u1 := (zi_lt _ _).mp c4_; have u2 : (5 : Int32).toInt = 5 := (by decide); omega)
      refine lv_iconst (v := 0) hx hb dX10_in_14 (by decide) ?_
      exact zret_z (v := 0) hx hb hr hlocks hS () rfl (by show _ = _; rw [if_neg c1_, if_pos c4_]) hW (Nat.le_of_ble_eq_true rfl) (Nat.le_of_ble_eq_true rfl) dX10_in_15
    · have b6_ : 0 ≤ Int32.toInt p1 ∧ Int32.toInt p1 ≤ 5 := (by have u0 := b3_; have u1 := (not_congr (zi_lt _ _)).mp c4_; have u2 : (5 : Int32).toInt = 5 := (by decide); omega)
      refine lv_iconst (v := 1) hx hb dX10_in_10 (by decide) ?_
      refine lv_goto (tgt := 15) hx hb dX10_in_11 (by decide) ?_
      exact zret_z (v := 1) hx hb hr hlocks hS () rfl (by show _ = _; rw [if_neg c1_, if_neg c4_]) hW (Nat.le_of_ble_eq_true rfl) (Nat.le_of_ble_eq_true rfl) dX10_in_15
set_option maxHeartbeats 8000000 in
set_option maxRecDepth 100000 in
theorem zc_X10_isTape_0 (l : Launch) (D : va_G) (y : Nat → ClassId) (a0 : Nat) (p1 : Int32) (w2 : Value) (w3 : Value) (w4 : Value) (w5 : Value) (w6 : Value) (w7 : Value) (w8 : Value) (w9 : Value) (w10 : Value) (w11 : Value) (w12 : Value) (w13 : Value) (w14 : Value) (w15 : Value) (w16 : Value) (w17 : Value) (w18 : Value) (w19 : Value) (w20 : Value) (w21 : Value) (w22 : Value) (w23 : Value) (w24 : Value) (w25 : Value) (w26 : Value) (w27 : Value) (w28 : Value) (w29 : Value) (w30 : Value) (w31 : Value) (w32 : Value) (w33 : Value) (w34 : Value) (w35 : Value) (w36 : Value) (w37 : Value) (w38 : Value) (w39 : Value) (w40 : Value) (w41 : Value) (w42 : Value) (w43 : Value) (w44 : Value) (w45 : Value) (w46 : Value) (w47 : Value) (w48 : Value) (w49 : Value) (w50 : Value) (w51 : Value) (w52 : Value) (w53 : Value) (w54 : Value) (w55 : Value) (w56 : Value) (w57 : Value) (w58 : Value) (w59 : Value) (w60 : Value) (w61 : Value) (w62 : Value) (w63 : Value) (w64 : Value) (w65 : Value) (w66 : Value) (w67 : Value) (w68 : Value) (w69 : Value) (w70 : Value) (w71 : Value) (w72 : Value) (w73 : Value) (w74 : Value) (w75 : Value) (w76 : Value) (w77 : Value) : zM l D y yX10_isTape (Cond.code yX10_isTape cX10_isTape 2 (some .boolean) :: zT) { frames := 1, cells := 0, slots := 0, locals := 23 } [.ref a0, .int p1] [(a0, .inr (9, [w2, w3, w4, w5, w6, w7, w8, w9, w10, w11, w12, w13, w14, w15, w16, w17, w18, w19, w20, w21, w22, w23, w24, w25, w26, w27, w28, w29, w30, w31, w32, w33, w34, w35, w36, w37, w38, w39, w40, w41, w42, w43, w44, w45, w46, w47, w48, w49, w50, w51, w52, w53, w54, w55, w56, w57, w58, w59, w60, w61, w62, w63, w64, w65, w66, w67, w68, w69, w70, w71, w72, w73, w74, w75, w76, w77]))] (zQi (S := Unit) D (fun r_ _ => r_ = (if p1 < 0 then 0 else (if 5 < p1 then 0 else 1))) (fun _ => [(a0, .inr (9, [w2, w3, w4, w5, w6, w7, w8, w9, w10, w11, w12, w13, w14, w15, w16, w17, w18, w19, w20, w21, w22, w23, w24, w25, w26, w27, w28, w29, w30, w31, w32, w33, w34, w35, w36, w37, w38, w39, w40, w41, w42, w43, w44, w45, w46, w47, w48, w49, w50, w51, w52, w53, w54, w55, w56, w57, w58, w59, w60, w61, w62, w63, w64, w65, w66, w67, w68, w69, w70, w71, w72, w73, w74, w75, w76, w77]))])) := by
  refine zent (cc := cX10_isTape) (maxL := 2) (ret := (some .boolean)) (by decide) (Nat.le_of_ble_eq_true rfl) ?_
  intro p e s m below meth c A H locs ls hx hb hml hr ht hown hlocks hin hA hK hE hS hW hl
  have hown : s.vm.findClass RX10 = some m.cls := hown
  have hW : zPD D A [(a0, .inr (9, [w2, w3, w4, w5, w6, w7, w8, w9, w10, w11, w12, w13, w14, w15, w16, w17, w18, w19, w20, w21, w22, w23, w24, w25, w26, w27, w28, w29, w30, w31, w32, w33, w34, w35, w36, w37, w38, w39, w40, w41, w42, w43, w44, w45, w46, w47, w48, w49, w50, w51, w52, w53, w54, w55, w56, w57, w58, w59, w60, w61, w62, w63, w64, w65, w66, w67, w68, w69, w70, w71, w72, w73, w74, w75, w76, w77]))] H := hW
  have hl : lv_has ls 2 [(0, .ref a0), (1, .int p1)] := hl
  refine lv_aload_n hx hb dX10_isTape_0 rfl (lv_at hl 0 rfl) ?_
  refine lv_iload_n hx hb dX10_isTape_1 rfl (lv_at hl 1 rfl) ?_
  refine lv_iconst (v := 0) hx hb dX10_isTape_2 (by decide) ?_
  refine lv_iconst (v := 5) hx hb dX10_isTape_3 (by decide) ?_
  refine zgo_i (wr := []) (zrunV (As := [.int p1, .int 0, .int 5]) (rest := []) ⟨hx, hb, hml, hown, ht⟩ (zc_X10_in_12 l D y a0 p1 w2 w3 w4 w5 w6 w7 w8 w9 w10 w11 w12 w13 w14 w15 w16 w17 w18 w19 w20 w21 w22 w23 w24 w25 w26 w27 w28 w29 w30 w31 w32 w33 w34 w35 w36 w37 w38 w39 w40 w41 w42 w43 w44 w45 w46 w47 w48 w49 w50 w51 w52 w53 w54 w55 w56 w57 w58 w59 w60 w61 w62 w63 w64 w65 w66 w67 w68 w69 w70 w71 w72 w73 w74 w75 w76 w77) (cwV 3 ht (zgV zm_240 zm_241 zm_242 zm_5 zm_243) rfl rfl rfl (by decide +kernel) ⟨(Nat.le_of_ble_eq_true rfl), (Nat.le_of_ble_eq_true rfl)⟩) hK hE hS hA hW [0] (by decide) rfl 0 rfl rfl rfl rfl hl.1 rfl (Nat.le_of_ble_eq_true rfl) dX10_isTape_4 (Nat.le_of_ble_eq_true rfl) (Nat.le_of_ble_eq_true rfl)) hS hA hW [0] [] rfl rfl (by decide) (by decide) (fun r1_ u H locs hw hW hS => ?_)
  have hW : zPD D A [(a0, .inr (9, [w2, w3, w4, w5, w6, w7, w8, w9, w10, w11, w12, w13, w14, w15, w16, w17, w18, w19, w20, w21, w22, w23, w24, w25, w26, w27, w28, w29, w30, w31, w32, w33, w34, w35, w36, w37, w38, w39, w40, w41, w42, w43, w44, w45, w46, w47, w48, w49, w50, w51, w52, w53, w54, w55, w56, w57, w58, w59, w60, w61, w62, w63, w64, w65, w66, w67, w68, w69, w70, w71, w72, w73, w74, w75, w76, w77]))] H := hW
  have hw : r1_ = (if p1 < 0 then 0 else (if 5 < p1 then 0 else 1)) := hw
  by_cases c2_ : p1 < 0
  · have b3_ : (-2147483648) ≤ Int32.toInt p1 ∧ Int32.toInt p1 ≤ (-1) := (by have u0 := zbnd p1; have u1 := (zi_lt _ _).mp c2_; have u2 : (0 : Int32).toInt = 0 := (by decide); omega)
    rw [if_pos c2_] at hw
    subst hw
    exact zret_z (v := 0) hx hb hr hlocks hS () rfl (by show _ = _; rw [if_pos c2_]) hW (Nat.le_of_ble_eq_true rfl) (Nat.le_of_ble_eq_true rfl) dX10_isTape_7
  · have b4_ : 0 ≤ Int32.toInt p1 ∧ Int32.toInt p1 ≤ 2147483647 := (by have u0 := zbnd p1; have u1 := (not_congr (zi_lt _ _)).mp c2_; have u2 : (0 : Int32).toInt = 0 := (by decide); omega)
    rw [if_neg c2_] at hw
    by_cases c5_ : 5 < p1
    · have b6_ : 6 ≤ Int32.toInt p1 ∧ Int32.toInt p1 ≤ 2147483647 := (by have u0 := b4_; have u1 := (zi_lt _ _).mp c5_; have u2 : (5 : Int32).toInt = 5 := (by decide); omega)
      rw [if_pos c5_] at hw
      subst hw
      exact zret_z (v := 0) hx hb hr hlocks hS () rfl (by show _ = _; rw [if_neg c2_, if_pos c5_]) hW (Nat.le_of_ble_eq_true rfl) (Nat.le_of_ble_eq_true rfl) dX10_isTape_7
    · have b7_ : 0 ≤ Int32.toInt p1 ∧ Int32.toInt p1 ≤ 5 := (by have u0 := b4_; have u1 := (not_congr (zi_lt _ _)).mp c5_; have u2 : (5 : Int32).toInt = 5 := (by decide); omega)
      rw [if_neg c5_] at hw
      subst hw
      exact zret_z (v := 1) hx hb hr hlocks hS () rfl (by show _ = _; rw [if_neg c2_, if_neg c5_]) hW (Nat.le_of_ble_eq_true rfl) (Nat.le_of_ble_eq_true rfl) dX10_isTape_7
set_option maxHeartbeats 8000000 in
set_option maxRecDepth 100000 in
theorem zc_X10_judge_0 (l : Launch) (D : va_G) (y : Nat → ClassId) (a0 : Nat) (p1 : Int32) (p2 : Int32) (w3 : Value) (w4 : Value) (w5 : Value) (w6 : Value) (w7 : Value) (w8 : Value) (w9 : Value) (w10 : Value) (w11 : Value) (w12 : Value) (w13 : Value) (w14 : Value) (w15 : Value) (w16 : Value) (w17 : Value) (w18 : Value) (w19 : Value) (w20 : Value) (w21 : Value) (w22 : Value) (w23 : Value) (w24 : Value) (w25 : Value) (w26 : Value) (w27 : Value) (w28 : Value) (w29 : Value) (w30 : Value) (w31 : Value) (w32 : Value) (w33 : Value) (w34 : Value) (w35 : Value) (w36 : Value) (w37 : Value) (w38 : Value) (w39 : Value) (w40 : Value) (w41 : Value) (w42 : Value) (w43 : Value) (w44 : Value) (w45 : Value) (w46 : Value) (w47 : Value) (w48 : Value) (w49 : Value) (w50 : Value) (w51 : Value) (w52 : Value) (w53 : Value) (w54 : Value) (w55 : Value) (w56 : Value) (w57 : Value) (w58 : Value) (w59 : Value) (w60 : Value) (w61 : Value) (w62 : Value) (w63 : Value) (w64 : Value) (w65 : Value) (w66 : Value) (w67 : Value) (w68 : Value) (w69 : Value) (w70 : Value) (w71 : Value) (w72 : Value) (w73 : Value) (a74 : Nat) (w75 : Value) (w76 : Value) (w77 : Value) : zM l D y yX10_judge (Cond.code yX10_judge cX10_judge 4 (some .int) :: zT) { frames := 2, cells := 0, slots := 0, locals := 44 } [.ref a0, .int p1, .int p2] [(a0, .inr (9, [.int 0, w3, w4, w5, w6, w7, w8, w9, w10, w11, w12, w13, w14, w15, w16, w17, w18, w19, w20, w21, w22, w23, w24, w25, w26, w27, w28, w29, w30, w31, w32, w33, w34, w35, w36, w37, w38, w39, w40, w41, w42, w43, w44, w45, w46, w47, w48, w49, w50, w51, w52, w53, w54, w55, w56, w57, w58, w59, w60, w61, w62, w63, w64, w65, w66, w67, w68, w69, w70, w71, w72, w73, .ref a74, w75, w76, w77])), (a74, .inl (y 0, 6, .inl (upd (upd (upd (upd (upd (upd (fun _ => 0) 0 (-1)) 1 (-1)) 2 (-1)) 3 (-1)) 4 (-1)) 5 (-1))))] (zQi (S := Unit) D (fun r_ _ => r_ = (if p1 < 0 then (-1) else (if 5 < p1 then (-1) else (-5)))) (fun _ => [])) := by
  refine zent (cc := cX10_judge) (maxL := 4) (ret := (some .int)) (by decide) (Nat.le_of_ble_eq_true rfl) ?_
  intro p e s m below meth c A H locs ls hx hb hml hr ht hown hlocks hin hA hK hE hS hW hl
  have hown : s.vm.findClass RX10 = some m.cls := hown
  have hW : zPD D A [(a0, .inr (9, [.int 0, w3, w4, w5, w6, w7, w8, w9, w10, w11, w12, w13, w14, w15, w16, w17, w18, w19, w20, w21, w22, w23, w24, w25, w26, w27, w28, w29, w30, w31, w32, w33, w34, w35, w36, w37, w38, w39, w40, w41, w42, w43, w44, w45, w46, w47, w48, w49, w50, w51, w52, w53, w54, w55, w56, w57, w58, w59, w60, w61, w62, w63, w64, w65, w66, w67, w68, w69, w70, w71, w72, w73, .ref a74, w75, w76, w77])), (a74, .inl (y 0, 6, .inl (upd (upd (upd (upd (upd (upd (fun _ => 0) 0 (-1)) 1 (-1)) 2 (-1)) 3 (-1)) 4 (-1)) 5 (-1))))] H := hW
  have hl : lv_has ls 4 [(0, .ref a0), (1, .int p1), (2, .int p2)] := hl
  refine lv_aload_n hx hb dX10_judge_0 rfl (lv_at hl 0 rfl) ?_
  refine lv_iload_n hx hb dX10_judge_1 rfl (lv_at hl 1 rfl) ?_
  refine zgo_i (wr := [(a74, .inl (y 0, 6, .inl (upd (upd (upd (upd (upd (upd (fun _ => 0) 0 (-1)) 1 (-1)) 2 (-1)) 3 (-1)) 4 (-1)) 5 (-1))))]) (zrunV (As := [.int p1]) (rest := []) ⟨hx, hb, hml, hown, ht⟩ (zc_X10_isTape_0 l D y a0 p1 (.int 0) w3 w4 w5 w6 w7 w8 w9 w10 w11 w12 w13 w14 w15 w16 w17 w18 w19 w20 w21 w22 w23 w24 w25 w26 w27 w28 w29 w30 w31 w32 w33 w34 w35 w36 w37 w38 w39 w40 w41 w42 w43 w44 w45 w46 w47 w48 w49 w50 w51 w52 w53 w54 w55 w56 w57 w58 w59 w60 w61 w62 w63 w64 w65 w66 w67 w68 w69 w70 w71 w72 w73 (.ref a74) w75 w76 w77) (cwV 1 ht (zgV zm_1097 zm_1098 zm_1099 zm_5 zm_1100) rfl rfl rfl (by decide +kernel) ⟨(Nat.le_of_ble_eq_true rfl), (Nat.le_of_ble_eq_true rfl)⟩) hK hE hS hA hW [0] (by decide) rfl 0 rfl rfl rfl rfl hl.1 rfl (Nat.le_of_ble_eq_true rfl) dX10_judge_2 (Nat.le_of_ble_eq_true rfl) (Nat.le_of_ble_eq_true rfl)) hS hA hW [0] [1] rfl rfl (by decide) (by decide) (fun r1_ u H locs hw hW hS => ?_)
  have hW : zPD D A [(a74, .inl (y 0, 6, .inl (upd (upd (upd (upd (upd (upd (fun _ => 0) 0 (-1)) 1 (-1)) 2 (-1)) 3 (-1)) 4 (-1)) 5 (-1)))), (a0, .inr (9, [.int 0, w3, w4, w5, w6, w7, w8, w9, w10, w11, w12, w13, w14, w15, w16, w17, w18, w19, w20, w21, w22, w23, w24, w25, w26, w27, w28, w29, w30, w31, w32, w33, w34, w35, w36, w37, w38, w39, w40, w41, w42, w43, w44, w45, w46, w47, w48, w49, w50, w51, w52, w53, w54, w55, w56, w57, w58, w59, w60, w61, w62, w63, w64, w65, w66, w67, w68, w69, w70, w71, w72, w73, .ref a74, w75, w76, w77]))] H := hW
  have hw : r1_ = (if p1 < 0 then 0 else (if 5 < p1 then 0 else 1)) := hw
  by_cases c2_ : p1 < 0
  · have b3_ : (-2147483648) ≤ Int32.toInt p1 ∧ Int32.toInt p1 ≤ (-1) := (by have u0 := zbnd p1; have u1 := (zi_lt _ _).mp c2_; have u2 : (0 : Int32).toInt = 0 := (by decide); omega)
    rw [if_pos c2_] at hw
    subst hw
    refine lv_if_ne (tgt := 10) hx hb dX10_judge_5 (by decide) (fun c4_ => absurd (by decide) c4_) (fun c4_ => ?_)
    refine lv_iconst (v := (-1)) hx hb dX10_judge_8 (by decide) ?_
    exact zret_i (v := (-1)) hx hb hr hlocks hS () (by show _ = _; rw [if_pos c2_]) (hW.sub [] (by decide) rfl) (Nat.le_of_ble_eq_true rfl) (Nat.le_of_ble_eq_true rfl) dX10_judge_9
  · have b5_ : 0 ≤ Int32.toInt p1 ∧ Int32.toInt p1 ≤ 2147483647 := (by have u0 := zbnd p1; have u1 := (not_congr (zi_lt _ _)).mp c2_; have u2 : (0 : Int32).toInt = 0 := (by decide); omega)
    rw [if_neg c2_] at hw
    by_cases c6_ : 5 < p1
    · have b7_ : 6 ≤ Int32.toInt p1 ∧ Int32.toInt p1 ≤ 2147483647 := (by have u0 := b5_; have u1 := (zi_lt _ _).mp c6_; have u2 : (5 : Int32).toInt = 5 := (by decide); omega)
      rw [if_pos c6_] at hw
      subst hw
      refine lv_if_ne (tgt := 10) hx hb dX10_judge_5 (by decide) (fun c8_ => absurd (by decide) c8_) (fun c8_ => ?_)
      refine lv_iconst (v := (-1)) hx hb dX10_judge_8 (by decide) ?_
      exact zret_i (v := (-1)) hx hb hr hlocks hS () (by show _ = _; rw [if_neg c2_, if_pos c6_]) (hW.sub [] (by decide) rfl) (Nat.le_of_ble_eq_true rfl) (Nat.le_of_ble_eq_true rfl) dX10_judge_9
    · have b9_ : 0 ≤ Int32.toInt p1 ∧ Int32.toInt p1 ≤ 5 := (by have u0 := b5_; have u1 := (not_congr (zi_lt _ _)).mp c6_; have u2 : (5 : Int32).toInt = 5 := (by decide); omega)
      rw [if_neg c6_] at hw
      subst hw
      refine lv_if_ne (tgt := 10) hx hb dX10_judge_5 (by decide) (fun c10_ => ?_) (fun c10_ => absurd c10_ (by decide))
      refine lv_aload_n hx hb dX10_judge_10 rfl (lv_at hl 0 rfl) ?_
      refine zget hx hb ht inlX10 hown hK hW 1 rfl rfl 72 (by decide) zm_212 rfl dX10_judge_11 ?_
      refine lv_iload_n hx hb dX10_judge_14 rfl (lv_at hl 1 rfl) ?_
      by_cases c11_ : p1 = 0
      · have b12_ : 0 ≤ Int32.toInt p1 ∧ Int32.toInt p1 ≤ 0 := (by have u0 := b9_; have u1 := (zi_eq _ _).mp c11_; have u2 : (0 : Int32).toInt = 0 := (by decide); omega)
        refine ztop (w := .int 0) (congrArg Value.int c11_) ?_
        refine ziald (v := (-1)) hx hb hK hW 0 rfl (by unfold vp_in; decide) rfl dX10_judge_15 ?_
        refine lv_if_lt (tgt := 32) hx hb dX10_judge_16 (by decide) (fun c13_ => ?_) (fun c13_ => absurd (by decide) c13_)
        refine lv_iconst (v := 0) hx hb dX10_judge_32 (by decide) ?_
        refine lv_istore_n (lv' := [(3, .int 0), (0, .ref a0), (1, .int p1), (2, .int p2)]) hx hb dX10_judge_33 rfl hl (by decide) rfl (fun ls hl => ?_)
        refine lv_iload_n hx hb dX10_judge_34 rfl (lv_at hl 0 rfl) ?_
        refine lv_aload_n hx hb dX10_judge_35 rfl (lv_at hl 1 rfl) ?_
        refine zget hx hb ht inlX10 hown hK hW 1 rfl rfl 0 (by decide) zm_140 rfl dX10_judge_36 ?_
        refine lv_icmp_ge (tgt := 113) hx hb dX10_judge_39 (by decide) (fun c14_ => ?_) (fun c14_ => absurd (by decide) c14_)
        refine lv_bipush (v := (-5)) hx hb dX10_judge_113 (by decide) ?_
        exact zret_i (v := (-5)) hx hb hr hlocks hS () (by show _ = _; rw [if_neg c2_, if_neg c6_]) (hW.sub [] (by decide) rfl) (Nat.le_of_ble_eq_true rfl) (Nat.le_of_ble_eq_true rfl) dX10_judge_115
      · have b15_ : 1 ≤ Int32.toInt p1 ∧ Int32.toInt p1 ≤ 5 := (by have u0 := b9_; have u1 := (not_congr (zi_eq _ _)).mp c11_; have u2 : (0 : Int32).toInt = 0 := (by decide); omega)
        by_cases c16_ : p1 = 1
        · have b17_ : 1 ≤ Int32.toInt p1 ∧ Int32.toInt p1 ≤ 1 := (by have u0 := b15_; have u1 := (zi_eq _ _).mp c16_; have u2 : (1 : Int32).toInt = 1 := (by decide); omega)
          refine ztop (w := .int 1) (congrArg Value.int c16_) ?_
          refine ziald (v := (-1)) hx hb hK hW 0 rfl (by unfold vp_in; decide) rfl dX10_judge_15 ?_
          refine lv_if_lt (tgt := 32) hx hb dX10_judge_16 (by decide) (fun c18_ => ?_) (fun c18_ => absurd (by decide) c18_)
          refine lv_iconst (v := 0) hx hb dX10_judge_32 (by decide) ?_
          refine lv_istore_n (lv' := [(3, .int 0), (0, .ref a0), (1, .int p1), (2, .int p2)]) hx hb dX10_judge_33 rfl hl (by decide) rfl (fun ls hl => ?_)
          refine lv_iload_n hx hb dX10_judge_34 rfl (lv_at hl 0 rfl) ?_
          refine lv_aload_n hx hb dX10_judge_35 rfl (lv_at hl 1 rfl) ?_
          refine zget hx hb ht inlX10 hown hK hW 1 rfl rfl 0 (by decide) zm_140 rfl dX10_judge_36 ?_
          refine lv_icmp_ge (tgt := 113) hx hb dX10_judge_39 (by decide) (fun c19_ => ?_) (fun c19_ => absurd (by decide) c19_)
          refine lv_bipush (v := (-5)) hx hb dX10_judge_113 (by decide) ?_
          exact zret_i (v := (-5)) hx hb hr hlocks hS () (by show _ = _; rw [if_neg c2_, if_neg c6_]) (hW.sub [] (by decide) rfl) (Nat.le_of_ble_eq_true rfl) (Nat.le_of_ble_eq_true rfl) dX10_judge_115
        · have b20_ : 2 ≤ Int32.toInt p1 ∧ Int32.toInt p1 ≤ 5 := (by have u0 := b15_; have u1 := (not_congr (zi_eq _ _)).mp c16_; have u2 : (1 : Int32).toInt = 1 := (by decide); omega)
          by_cases c21_ : p1 = 2
          · have b22_ : 2 ≤ Int32.toInt p1 ∧ Int32.toInt p1 ≤ 2 := (by have u0 := b20_; have u1 := (zi_eq _ _).mp c21_; have u2 : (2 : Int32).toInt = 2 := (by decide); omega)
            refine ztop (w := .int 2) (congrArg Value.int c21_) ?_
            refine ziald (v := (-1)) hx hb hK hW 0 rfl (by unfold vp_in; decide) rfl dX10_judge_15 ?_
            refine lv_if_lt (tgt := 32) hx hb dX10_judge_16 (by decide) (fun c23_ => ?_) (fun c23_ => absurd (by decide) c23_)
            refine lv_iconst (v := 0) hx hb dX10_judge_32 (by decide) ?_
            refine lv_istore_n (lv' := [(3, .int 0), (0, .ref a0), (1, .int p1), (2, .int p2)]) hx hb dX10_judge_33 rfl hl (by decide) rfl (fun ls hl => ?_)
            refine lv_iload_n hx hb dX10_judge_34 rfl (lv_at hl 0 rfl) ?_
            refine lv_aload_n hx hb dX10_judge_35 rfl (lv_at hl 1 rfl) ?_
            refine zget hx hb ht inlX10 hown hK hW 1 rfl rfl 0 (by decide) zm_140 rfl dX10_judge_36 ?_
            refine lv_icmp_ge (tgt := 113) hx hb dX10_judge_39 (by decide) (fun c24_ => ?_) (fun c24_ => absurd (by decide) c24_)
            refine lv_bipush (v := (-5)) hx hb dX10_judge_113 (by decide) ?_
            exact zret_i (v := (-5)) hx hb hr hlocks hS () (by show _ = _; rw [if_neg c2_, if_neg c6_]) (hW.sub [] (by decide) rfl) (Nat.le_of_ble_eq_true rfl) (Nat.le_of_ble_eq_true rfl) dX10_judge_115
          · have b25_ : 3 ≤ Int32.toInt p1 ∧ Int32.toInt p1 ≤ 5 := (by have u0 := b20_; have u1 := (not_congr (zi_eq _ _)).mp c21_; have u2 : (2 : Int32).toInt = 2 := (by decide); omega)
            by_cases c26_ : p1 = 3
            · have b27_ : 3 ≤ Int32.toInt p1 ∧ Int32.toInt p1 ≤ 3 := (by have u0 := b25_; have u1 := (zi_eq _ _).mp c26_; have u2 : (3 : Int32).toInt = 3 := (by decide); omega)
              refine ztop (w := .int 3) (congrArg Value.int c26_) ?_
              refine ziald (v := (-1)) hx hb hK hW 0 rfl (by unfold vp_in; decide) rfl dX10_judge_15 ?_
              refine lv_if_lt (tgt := 32) hx hb dX10_judge_16 (by decide) (fun c28_ => ?_) (fun c28_ => absurd (by decide) c28_)
              refine lv_iconst (v := 0) hx hb dX10_judge_32 (by decide) ?_
              refine lv_istore_n (lv' := [(3, .int 0), (0, .ref a0), (1, .int p1), (2, .int p2)]) hx hb dX10_judge_33 rfl hl (by decide) rfl (fun ls hl => ?_)
              refine lv_iload_n hx hb dX10_judge_34 rfl (lv_at hl 0 rfl) ?_
              refine lv_aload_n hx hb dX10_judge_35 rfl (lv_at hl 1 rfl) ?_
              refine zget hx hb ht inlX10 hown hK hW 1 rfl rfl 0 (by decide) zm_140 rfl dX10_judge_36 ?_
              refine lv_icmp_ge (tgt := 113) hx hb dX10_judge_39 (by decide) (fun c29_ => ?_) (fun c29_ => absurd (by decide) c29_)
              refine lv_bipush (v := (-5)) hx hb dX10_judge_113 (by decide) ?_
              exact zret_i (v := (-5)) hx hb hr hlocks hS () (by show _ = _; rw [if_neg c2_, if_neg c6_]) (hW.sub [] (by decide) rfl) (Nat.le_of_ble_eq_true rfl) (Nat.le_of_ble_eq_true rfl) dX10_judge_115
            · have b30_ : 4 ≤ Int32.toInt p1 ∧ Int32.toInt p1 ≤ 5 := (by have u0 := b25_; have u1 := (not_congr (zi_eq _ _)).mp c26_; have u2 : (3 : Int32).toInt = 3 := (by decide); omega)
              by_cases c31_ : p1 = 4
              · have b32_ : 4 ≤ Int32.toInt p1 ∧ Int32.toInt p1 ≤ 4 := (by have u0 := b30_; have u1 := (zi_eq _ _).mp c31_; have u2 : (4 : Int32).toInt = 4 := (by decide); omega)
                refine ztop (w := .int 4) (congrArg Value.int c31_) ?_
                refine ziald (v := (-1)) hx hb hK hW 0 rfl (by unfold vp_in; decide) rfl dX10_judge_15 ?_
                refine lv_if_lt (tgt := 32) hx hb dX10_judge_16 (by decide) (fun c33_ => ?_) (fun c33_ => absurd (by decide) c33_)
                refine lv_iconst (v := 0) hx hb dX10_judge_32 (by decide) ?_
                refine lv_istore_n (lv' := [(3, .int 0), (0, .ref a0), (1, .int p1), (2, .int p2)]) hx hb dX10_judge_33 rfl hl (by decide) rfl (fun ls hl => ?_)
                refine lv_iload_n hx hb dX10_judge_34 rfl (lv_at hl 0 rfl) ?_
                refine lv_aload_n hx hb dX10_judge_35 rfl (lv_at hl 1 rfl) ?_
                refine zget hx hb ht inlX10 hown hK hW 1 rfl rfl 0 (by decide) zm_140 rfl dX10_judge_36 ?_
                refine lv_icmp_ge (tgt := 113) hx hb dX10_judge_39 (by decide) (fun c34_ => ?_) (fun c34_ => absurd (by decide) c34_)
                refine lv_bipush (v := (-5)) hx hb dX10_judge_113 (by decide) ?_
                exact zret_i (v := (-5)) hx hb hr hlocks hS () (by show _ = _; rw [if_neg c2_, if_neg c6_]) (hW.sub [] (by decide) rfl) (Nat.le_of_ble_eq_true rfl) (Nat.le_of_ble_eq_true rfl) dX10_judge_115
              · have b35_ : 5 ≤ Int32.toInt p1 ∧ Int32.toInt p1 ≤ 5 := (by have u0 := b30_; have u1 := (not_congr (zi_eq _ _)).mp c31_; have u2 : (4 : Int32).toInt = 4 := (by decide); omega)
                refine ztop (w := .int 5) (congrArg Value.int ((zi_eq _ _).mpr (by have u0 := b35_; have u1 : (5 : Int32).toInt = 5 := (by decide); omega))) ?_
                refine ziald (v := (-1)) hx hb hK hW 0 rfl (by unfold vp_in; decide) rfl dX10_judge_15 ?_
                refine lv_if_lt (tgt := 32) hx hb dX10_judge_16 (by decide) (fun c36_ => ?_) (fun c36_ => absurd (by decide) c36_)
                refine lv_iconst (v := 0) hx hb dX10_judge_32 (by decide) ?_
                refine lv_istore_n (lv' := [(3, .int 0), (0, .ref a0), (1, .int p1), (2, .int p2)]) hx hb dX10_judge_33 rfl hl (by decide) rfl (fun ls hl => ?_)
                refine lv_iload_n hx hb dX10_judge_34 rfl (lv_at hl 0 rfl) ?_
                refine lv_aload_n hx hb dX10_judge_35 rfl (lv_at hl 1 rfl) ?_
                refine zget hx hb ht inlX10 hown hK hW 1 rfl rfl 0 (by decide) zm_140 rfl dX10_judge_36 ?_
                refine lv_icmp_ge (tgt := 113) hx hb dX10_judge_39 (by decide) (fun c37_ => ?_) (fun c37_ => absurd (by decide) c37_)
                refine lv_bipush (v := (-5)) hx hb dX10_judge_113 (by decide) ?_
                exact zret_i (v := (-5)) hx hb hr hlocks hS () (by show _ = _; rw [if_neg c2_, if_neg c6_]) (hW.sub [] (by decide) rfl) (Nat.le_of_ble_eq_true rfl) (Nat.le_of_ble_eq_true rfl) dX10_judge_115

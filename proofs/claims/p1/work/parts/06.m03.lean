theorem dX10_costOfNone_0 : decode cX10_costOfNone 0 = .ok (.aload_n 0, 1) := by decide +kernel
theorem dX10_costOfNone_1 : decode cX10_costOfNone 1 = .ok (.invokevirtual 344, 3) := by decide +kernel
theorem dX10_costOfNone_4 : decode cX10_costOfNone 4 = .ok (.aload_n 0, 1) := by decide +kernel
theorem dX10_costOfNone_5 : decode cX10_costOfNone 5 = .ok (.invokevirtual 363, 3) := by decide +kernel
theorem dX10_costOfNone_8 : decode cX10_costOfNone 8 = .ok (.ireturn, 1) := by decide +kernel
theorem dX10_isLimit_0 : decode cX10_isLimit 0 = .ok (.aload_n 0, 1) := by decide +kernel
theorem dX10_isLimit_1 : decode cX10_isLimit 1 = .ok (.iload_n 1, 1) := by decide +kernel
theorem dX10_isLimit_2 : decode cX10_isLimit 2 = .ok (.iconst 0, 1) := by decide +kernel
theorem dX10_isLimit_3 : decode cX10_isLimit 3 = .ok (.ldc_w 330, 3) := by decide +kernel
theorem dX10_isLimit_6 : decode cX10_isLimit 6 = .ok (.invokevirtual 242, 3) := by decide +kernel
theorem dX10_isLimit_9 : decode cX10_isLimit 9 = .ok (.ireturn, 1) := by decide +kernel
theorem dX10_late_0 : decode cX10_late 0 = .ok (.aload_n 0, 1) := by decide +kernel
theorem dX10_late_1 : decode cX10_late 1 = .ok (.iload_n 1, 1) := by decide +kernel
theorem dX10_late_10 : decode cX10_late 10 = .ok (.ireturn, 1) := by decide +kernel
theorem dX10_late_11 : decode cX10_late 11 = .ok (.aload_n 0, 1) := by decide +kernel
theorem dX10_late_12 : decode cX10_late 12 = .ok (.invokevirtual 341, 3) := by decide +kernel
theorem dX10_late_15 : decode cX10_late 15 = .ok (.aload_n 0, 1) := by decide +kernel
theorem dX10_late_16 : decode cX10_late 16 = .ok (.invokevirtual 366, 3) := by decide +kernel
theorem dX10_late_19 : decode cX10_late 19 = .ok (.bipush 60, 2) := by decide +kernel
theorem dX10_late_2 : decode cX10_late 2 = .ok (.invokevirtual 381, 3) := by decide +kernel
theorem dX10_late_21 : decode cX10_late 21 = .ok (.istore_n 2, 1) := by decide +kernel
theorem dX10_late_22 : decode cX10_late 22 = .ok (.iload_n 2, 1) := by decide +kernel
theorem dX10_late_23 : decode cX10_late 23 = .ok (.ifCond .lt 20, 3) := by decide +kernel
theorem dX10_late_26 : decode cX10_late 26 = .ok (.aload_n 0, 1) := by decide +kernel
theorem dX10_late_27 : decode cX10_late 27 = .ok (.iload_n 2, 1) := by decide +kernel
theorem dX10_late_28 : decode cX10_late 28 = .ok (.invokevirtual 369, 3) := by decide +kernel
theorem dX10_late_31 : decode cX10_late 31 = .ok (.iload_n 1, 1) := by decide +kernel
theorem dX10_late_32 : decode cX10_late 32 = .ok (.if_icmp .gt 5, 3) := by decide +kernel
theorem dX10_late_35 : decode cX10_late 35 = .ok (.iload_n 2, 1) := by decide +kernel
theorem dX10_late_36 : decode cX10_late 36 = .ok (.ireturn, 1) := by decide +kernel
theorem dX10_late_5 : decode cX10_late 5 = .ok (.ifCond .ne 6, 3) := by decide +kernel
theorem dX10_late_8 : decode cX10_late 8 = .ok (.bipush (-2), 2) := by decide +kernel
theorem dX10_leave_0 : decode cX10_leave 0 = .ok (.aload_n 0, 1) := by decide +kernel
theorem dX10_leave_1 : decode cX10_leave 1 = .ok (.iconst 0, 1) := by decide +kernel
theorem dX10_leave_10 : decode cX10_leave 10 = .ok (.iload_n 3, 1) := by decide +kernel
theorem dX10_leave_106 : decode cX10_leave 106 = .ok (.iload_n 2, 1) := by decide +kernel
theorem dX10_leave_107 : decode cX10_leave 107 = .ok (.ireturn, 1) := by decide +kernel
theorem dX10_leave_11 : decode cX10_leave 11 = .ok (.aload_n 0, 1) := by decide +kernel
theorem dX10_leave_12 : decode cX10_leave 12 = .ok (.getfield 123, 3) := by decide +kernel
theorem dX10_leave_15 : decode cX10_leave 15 = .ok (.if_icmp .ge 91, 3) := by decide +kernel
theorem dX10_leave_2 : decode cX10_leave 2 = .ok (.invokevirtual 372, 3) := by decide +kernel
theorem dX10_leave_5 : decode cX10_leave 5 = .ok (.istore_n 1, 1) := by decide +kernel
theorem dX10_leave_6 : decode cX10_leave 6 = .ok (.iconst 0, 1) := by decide +kernel
theorem dX10_leave_7 : decode cX10_leave 7 = .ok (.istore_n 2, 1) := by decide +kernel
theorem dX10_leave_8 : decode cX10_leave 8 = .ok (.iconst 0, 1) := by decide +kernel
theorem dX10_leave_9 : decode cX10_leave 9 = .ok (.istore_n 3, 1) := by decide +kernel
theorem dX10_two_0 : decode cX10_two 0 = .ok (.aload_n 0, 1) := by decide +kernel
theorem dX10_two_1 : decode cX10_two 1 = .ok (.iload_n 1, 1) := by decide +kernel
theorem dX10_two_10 : decode cX10_two 10 = .ok (.iconst (-1), 1) := by decide +kernel
theorem dX10_two_11 : decode cX10_two 11 = .ok (.ireturn, 1) := by decide +kernel
theorem dX10_two_12 : decode cX10_two 12 = .ok (.aload_n 0, 1) := by decide +kernel
theorem dX10_two_13 : decode cX10_two 13 = .ok (.invokevirtual 341, 3) := by decide +kernel
theorem dX10_two_16 : decode cX10_two 16 = .ok (.aload_n 0, 1) := by decide +kernel
theorem dX10_two_17 : decode cX10_two 17 = .ok (.invokevirtual 366, 3) := by decide +kernel
theorem dX10_two_2 : decode cX10_two 2 = .ok (.iconst 0, 1) := by decide +kernel
theorem dX10_two_20 : decode cX10_two 20 = .ok (.aload_n 0, 1) := by decide +kernel
theorem dX10_two_21 : decode cX10_two 21 = .ok (.invokevirtual 344, 3) := by decide +kernel
theorem dX10_two_24 : decode cX10_two 24 = .ok (.aload_n 0, 1) := by decide +kernel
theorem dX10_two_25 : decode cX10_two 25 = .ok (.getfield 123, 3) := by decide +kernel
theorem dX10_two_28 : decode cX10_two 28 = .ok (.aload_n 0, 1) := by decide +kernel
theorem dX10_two_29 : decode cX10_two 29 = .ok (.getfield 123, 3) := by decide +kernel
theorem dX10_two_3 : decode cX10_two 3 = .ok (.iconst 1, 1) := by decide +kernel
theorem dX10_two_32 : decode cX10_two 32 = .ok (.iconst 2, 1) := by decide +kernel
theorem dX10_two_33 : decode cX10_two 33 = .ok (.idiv, 1) := by decide +kernel
theorem dX10_two_34 : decode cX10_two 34 = .ok (.isub, 1) := by decide +kernel
theorem dX10_two_35 : decode cX10_two 35 = .ok (.istore_n 2, 1) := by decide +kernel
theorem dX10_two_36 : decode cX10_two 36 = .ok (.aload_n 0, 1) := by decide +kernel
theorem dX10_two_37 : decode cX10_two 37 = .ok (.iconst 0, 1) := by decide +kernel
theorem dX10_two_38 : decode cX10_two 38 = .ok (.iload_n 2, 1) := by decide +kernel
theorem dX10_two_39 : decode cX10_two 39 = .ok (.aload_n 0, 1) := by decide +kernel
theorem dX10_two_4 : decode cX10_two 4 = .ok (.invokevirtual 242, 3) := by decide +kernel
theorem dX10_two_40 : decode cX10_two 40 = .ok (.getfield 13, 3) := by decide +kernel
theorem dX10_two_43 : decode cX10_two 43 = .ok (.invokevirtual 360, 3) := by decide +kernel
theorem dX10_two_46 : decode cX10_two 46 = .ok (.istore_n 3, 1) := by decide +kernel
theorem dX10_two_47 : decode cX10_two 47 = .ok (.aload_n 0, 1) := by decide +kernel
theorem dX10_two_48 : decode cX10_two 48 = .ok (.iload_n 2, 1) := by decide +kernel
theorem dX10_two_49 : decode cX10_two 49 = .ok (.aload_n 0, 1) := by decide +kernel
theorem dX10_two_50 : decode cX10_two 50 = .ok (.getfield 123, 3) := by decide +kernel
theorem dX10_two_53 : decode cX10_two 53 = .ok (.aload_n 0, 1) := by decide +kernel
theorem dX10_two_54 : decode cX10_two 54 = .ok (.getfield 13, 3) := by decide +kernel
theorem dX10_two_57 : decode cX10_two 57 = .ok (.invokevirtual 360, 3) := by decide +kernel
theorem dX10_two_60 : decode cX10_two 60 = .ok (.istore 4, 2) := by decide +kernel
theorem dX10_two_62 : decode cX10_two 62 = .ok (.iload_n 1, 1) := by decide +kernel
theorem dX10_two_63 : decode cX10_two 63 = .ok (.ifCond .ne 10, 3) := by decide +kernel
theorem dX10_two_66 : decode cX10_two 66 = .ok (.aload_n 0, 1) := by decide +kernel
theorem dX10_two_67 : decode cX10_two 67 = .ok (.invokevirtual 363, 3) := by decide +kernel
theorem dX10_two_7 : decode cX10_two 7 = .ok (.ifCond .ne 5, 3) := by decide +kernel
theorem dX10_two_70 : decode cX10_two 70 = .ok (.goto 15, 3) := by decide +kernel
theorem dX10_two_73 : decode cX10_two 73 = .ok (.iload_n 3, 1) := by decide +kernel
theorem dX10_two_74 : decode cX10_two 74 = .ok (.iload 4, 2) := by decide +kernel
theorem dX10_two_76 : decode cX10_two 76 = .ok (.if_icmp .le 7, 3) := by decide +kernel
theorem dX10_two_83 : decode cX10_two 83 = .ok (.iload 4, 2) := by decide +kernel
theorem dX10_two_85 : decode cX10_two 85 = .ok (.ireturn, 1) := by decide +kernel
theorem dX10_worth_0 : decode cX10_worth 0 = .ok (.aload_n 0, 1) := by decide +kernel
theorem dX10_worth_1 : decode cX10_worth 1 = .ok (.iload_n 1, 1) := by decide +kernel
theorem dX10_worth_2 : decode cX10_worth 2 = .ok (.invokevirtual 250, 3) := by decide +kernel
theorem dX10_worth_5 : decode cX10_worth 5 = .ok (.ifCond .ne 5, 3) := by decide +kernel
theorem dX10_worth_8 : decode cX10_worth 8 = .ok (.iconst (-1), 1) := by decide +kernel
theorem dX10_worth_9 : decode cX10_worth 9 = .ok (.ireturn, 1) := by decide +kernel
theorem dX1_costOfRound_0 : decode cX1_costOfRound 0 = .ok (.aload_n 0, 1) := by decide +kernel
theorem dX1_costOfRound_1 : decode cX1_costOfRound 1 = .ok (.invokevirtual 55, 3) := by decide +kernel
theorem dX1_costOfRound_10 : decode cX1_costOfRound 10 = .ok (.aload_n 0, 1) := by decide +kernel
theorem dX1_costOfRound_11 : decode cX1_costOfRound 11 = .ok (.invokevirtual 162, 3) := by decide +kernel
theorem dX1_costOfRound_14 : decode cX1_costOfRound 14 = .ok (.ireturn, 1) := by decide +kernel
theorem dX1_costOfRound_4 : decode cX1_costOfRound 4 = .ok (.aload_n 0, 1) := by decide +kernel
theorem dX1_costOfRound_5 : decode cX1_costOfRound 5 = .ok (.iload_n 1, 1) := by decide +kernel
theorem dX1_costOfRound_6 : decode cX1_costOfRound 6 = .ok (.invokevirtual 159, 3) := by decide +kernel
theorem dX1_costOfRound_9 : decode cX1_costOfRound 9 = .ok (.pop, 1) := by decide +kernel
theorem dX1_goAsTwo_0 : decode cX1_goAsTwo 0 = .ok (.aload_n 0, 1) := by decide +kernel
theorem dX1_goAsTwo_1 : decode cX1_goAsTwo 1 = .ok (.getfield 44, 3) := by decide +kernel
theorem dX1_goAsTwo_10 : decode cX1_goAsTwo 10 = .ok (.istore_n 1, 1) := by decide +kernel
theorem dX1_goAsTwo_11 : decode cX1_goAsTwo 11 = .ok (.iload_n 1, 1) := by decide +kernel
theorem dX1_goAsTwo_12 : decode cX1_goAsTwo 12 = .ok (.iload_n 1, 1) := by decide +kernel
theorem dX1_goAsTwo_13 : decode cX1_goAsTwo 13 = .ok (.iconst 2, 1) := by decide +kernel
theorem dX1_goAsTwo_14 : decode cX1_goAsTwo 14 = .ok (.idiv, 1) := by decide +kernel
theorem dX1_goAsTwo_15 : decode cX1_goAsTwo 15 = .ok (.isub, 1) := by decide +kernel
theorem dX1_goAsTwo_16 : decode cX1_goAsTwo 16 = .ok (.istore_n 2, 1) := by decide +kernel
theorem dX1_goAsTwo_17 : decode cX1_goAsTwo 17 = .ok (.aload_n 0, 1) := by decide +kernel
theorem dX1_goAsTwo_18 : decode cX1_goAsTwo 18 = .ok (.aload_n 0, 1) := by decide +kernel
theorem dX1_goAsTwo_19 : decode cX1_goAsTwo 19 = .ok (.getfield 44, 3) := by decide +kernel
theorem dX1_goAsTwo_22 : decode cX1_goAsTwo 22 = .ok (.getfield 152, 3) := by decide +kernel
theorem dX1_goAsTwo_25 : decode cX1_goAsTwo 25 = .ok (.iconst 0, 1) := by decide +kernel
theorem dX1_goAsTwo_26 : decode cX1_goAsTwo 26 = .ok (.iload_n 2, 1) := by decide +kernel
theorem dX1_goAsTwo_27 : decode cX1_goAsTwo 27 = .ok (.aload_n 0, 1) := by decide +kernel
theorem dX1_goAsTwo_28 : decode cX1_goAsTwo 28 = .ok (.getfield 44, 3) := by decide +kernel
theorem dX1_goAsTwo_31 : decode cX1_goAsTwo 31 = .ok (.getfield 126, 3) := by decide +kernel
theorem dX1_goAsTwo_34 : decode cX1_goAsTwo 34 = .ok (.invokevirtual 155, 3) := by decide +kernel
theorem dX1_goAsTwo_37 : decode cX1_goAsTwo 37 = .ok (.istore_n 3, 1) := by decide +kernel
theorem dX1_goAsTwo_38 : decode cX1_goAsTwo 38 = .ok (.iload_n 3, 1) := by decide +kernel
theorem dX1_goAsTwo_39 : decode cX1_goAsTwo 39 = .ok (.aload_n 0, 1) := by decide +kernel
theorem dX1_goAsTwo_4 : decode cX1_goAsTwo 4 = .ok (.getfield 152, 3) := by decide +kernel
theorem dX1_goAsTwo_40 : decode cX1_goAsTwo 40 = .ok (.aload_n 0, 1) := by decide +kernel
theorem dX1_goAsTwo_41 : decode cX1_goAsTwo 41 = .ok (.getfield 44, 3) := by decide +kernel
theorem dX1_goAsTwo_44 : decode cX1_goAsTwo 44 = .ok (.getfield 152, 3) := by decide +kernel
theorem dX1_goAsTwo_47 : decode cX1_goAsTwo 47 = .ok (.iload_n 2, 1) := by decide +kernel
theorem dX1_goAsTwo_48 : decode cX1_goAsTwo 48 = .ok (.iload_n 1, 1) := by decide +kernel
theorem dX1_goAsTwo_49 : decode cX1_goAsTwo 49 = .ok (.aload_n 0, 1) := by decide +kernel
theorem dX1_goAsTwo_50 : decode cX1_goAsTwo 50 = .ok (.getfield 44, 3) := by decide +kernel
theorem dX1_goAsTwo_53 : decode cX1_goAsTwo 53 = .ok (.getfield 126, 3) := by decide +kernel
theorem dX1_goAsTwo_56 : decode cX1_goAsTwo 56 = .ok (.invokevirtual 155, 3) := by decide +kernel
theorem dX1_goAsTwo_59 : decode cX1_goAsTwo 59 = .ok (.invokestatic 95, 3) := by decide +kernel
theorem dX1_goAsTwo_62 : decode cX1_goAsTwo 62 = .ok (.ireturn, 1) := by decide +kernel
theorem dX1_goAsTwo_7 : decode cX1_goAsTwo 7 = .ok (.getfield 138, 3) := by decide +kernel
theorem dX1_turnTo_27 : decode cX1_turnTo 27 = .ok (.return_, 1) := by decide +kernel
theorem dX9_late_0 : decode cX9_late 0 = .ok (.iload_n 1, 1) := by decide +kernel
theorem dX9_late_1 : decode cX9_late 1 = .ok (.iconst 0, 1) := by decide +kernel
theorem dX9_late_10 : decode cX9_late 10 = .ok (.bipush (-2), 2) := by decide +kernel
theorem dX9_late_12 : decode cX9_late 12 = .ok (.ireturn, 1) := by decide +kernel
theorem dX9_late_13 : decode cX9_late 13 = .ok (.aload_n 0, 1) := by decide +kernel
theorem dX9_late_14 : decode cX9_late 14 = .ok (.getfield 47, 3) := by decide +kernel
theorem dX9_late_17 : decode cX9_late 17 = .ok (.invokevirtual 127, 3) := by decide +kernel
theorem dX9_late_2 : decode cX9_late 2 = .ok (.ldc 228, 2) := by decide +kernel
theorem dX9_late_20 : decode cX9_late 20 = .ok (.bipush 60, 2) := by decide +kernel
theorem dX9_late_22 : decode cX9_late 22 = .ok (.istore_n 2, 1) := by decide +kernel
theorem dX9_late_23 : decode cX9_late 23 = .ok (.iload_n 2, 1) := by decide +kernel
theorem dX9_late_24 : decode cX9_late 24 = .ok (.ifCond .lt 23, 3) := by decide +kernel
theorem dX9_late_27 : decode cX9_late 27 = .ok (.aload_n 0, 1) := by decide +kernel
theorem dX9_late_28 : decode cX9_late 28 = .ok (.getfield 47, 3) := by decide +kernel
theorem dX9_late_31 : decode cX9_late 31 = .ok (.iload_n 2, 1) := by decide +kernel
theorem dX9_late_32 : decode cX9_late 32 = .ok (.invokevirtual 229, 3) := by decide +kernel
theorem dX9_late_35 : decode cX9_late 35 = .ok (.iload_n 1, 1) := by decide +kernel
theorem dX9_late_36 : decode cX9_late 36 = .ok (.if_icmp .gt 5, 3) := by decide +kernel
theorem dX9_late_39 : decode cX9_late 39 = .ok (.iload_n 2, 1) := by decide +kernel
theorem dX9_late_4 : decode cX9_late 4 = .ok (.invokestatic 68, 3) := by decide +kernel
theorem dX9_late_40 : decode cX9_late 40 = .ok (.ireturn, 1) := by decide +kernel
theorem dX9_late_7 : decode cX9_late 7 = .ok (.ifCond .ne 6, 3) := by decide +kernel
theorem dX9_leave_0 : decode cX9_leave 0 = .ok (.aload_n 0, 1) := by decide +kernel
theorem dX9_leave_1 : decode cX9_leave 1 = .ok (.getfield 47, 3) := by decide +kernel
theorem dX9_leave_11 : decode cX9_leave 11 = .ok (.iconst 0, 1) := by decide +kernel
theorem dX9_leave_12 : decode cX9_leave 12 = .ok (.invokevirtual 229, 3) := by decide +kernel
theorem dX9_leave_15 : decode cX9_leave 15 = .ok (.istore_n 1, 1) := by decide +kernel
theorem dX9_leave_16 : decode cX9_leave 16 = .ok (.iconst 0, 1) := by decide +kernel
theorem dX9_leave_17 : decode cX9_leave 17 = .ok (.istore_n 2, 1) := by decide +kernel
theorem dX9_leave_18 : decode cX9_leave 18 = .ok (.iconst 0, 1) := by decide +kernel
theorem dX9_leave_19 : decode cX9_leave 19 = .ok (.istore_n 3, 1) := by decide +kernel
theorem dX9_leave_20 : decode cX9_leave 20 = .ok (.iload_n 3, 1) := by decide +kernel
theorem dX9_leave_21 : decode cX9_leave 21 = .ok (.aload_n 0, 1) := by decide +kernel
theorem dX9_leave_22 : decode cX9_leave 22 = .ok (.getfield 31, 3) := by decide +kernel
theorem dX9_leave_25 : decode cX9_leave 25 = .ok (.getfield 179, 3) := by decide +kernel
theorem dX9_leave_28 : decode cX9_leave 28 = .ok (.getfield 232, 3) := by decide +kernel
theorem dX9_leave_31 : decode cX9_leave 31 = .ok (.if_icmp .ge 38, 3) := by decide +kernel
theorem dX9_leave_4 : decode cX9_leave 4 = .ok (.invokevirtual 127, 3) := by decide +kernel
theorem dX9_leave_69 : decode cX9_leave 69 = .ok (.iload_n 2, 1) := by decide +kernel
theorem dX9_leave_7 : decode cX9_leave 7 = .ok (.aload_n 0, 1) := by decide +kernel
theorem dX9_leave_70 : decode cX9_leave 70 = .ok (.ireturn, 1) := by decide +kernel
theorem dX9_leave_8 : decode cX9_leave 8 = .ok (.getfield 47, 3) := by decide +kernel
theorem dX9_sides_0 : decode cX9_sides 0 = .ok (.iload_n 1, 1) := by decide +kernel
theorem dX9_sides_1 : decode cX9_sides 1 = .ok (.iconst 0, 1) := by decide +kernel
theorem dX9_sides_10 : decode cX9_sides 10 = .ok (.ireturn, 1) := by decide +kernel
theorem dX9_sides_11 : decode cX9_sides 11 = .ok (.aload_n 0, 1) := by decide +kernel
theorem dX9_sides_12 : decode cX9_sides 12 = .ok (.getfield 47, 3) := by decide +kernel
theorem dX9_sides_15 : decode cX9_sides 15 = .ok (.invokevirtual 127, 3) := by decide +kernel
theorem dX9_sides_18 : decode cX9_sides 18 = .ok (.iconst 0, 1) := by decide +kernel
theorem dX9_sides_19 : decode cX9_sides 19 = .ok (.istore_n 2, 1) := by decide +kernel
theorem dX9_sides_2 : decode cX9_sides 2 = .ok (.iconst 1, 1) := by decide +kernel
theorem dX9_sides_20 : decode cX9_sides 20 = .ok (.iconst (-1), 1) := by decide +kernel
theorem dX9_sides_21 : decode cX9_sides 21 = .ok (.istore_n 3, 1) := by decide +kernel
theorem dX9_sides_22 : decode cX9_sides 22 = .ok (.iconst 0, 1) := by decide +kernel
theorem dX9_sides_23 : decode cX9_sides 23 = .ok (.istore 4, 2) := by decide +kernel
theorem dX9_sides_25 : decode cX9_sides 25 = .ok (.iload 4, 2) := by decide +kernel
theorem dX9_sides_27 : decode cX9_sides 27 = .ok (.iconst 4, 1) := by decide +kernel
theorem dX9_sides_28 : decode cX9_sides 28 = .ok (.if_icmp .ge 39, 3) := by decide +kernel
theorem dX9_sides_3 : decode cX9_sides 3 = .ok (.invokestatic 68, 3) := by decide +kernel
theorem dX9_sides_31 : decode cX9_sides 31 = .ok (.aload_n 0, 1) := by decide +kernel
theorem dX9_sides_32 : decode cX9_sides 32 = .ok (.getfield 47, 3) := by decide +kernel
theorem dX9_sides_35 : decode cX9_sides 35 = .ok (.iload 4, 2) := by decide +kernel
theorem dX9_sides_37 : decode cX9_sides 37 = .ok (.invokevirtual 244, 3) := by decide +kernel
theorem dX9_sides_40 : decode cX9_sides 40 = .ok (.aload_n 0, 1) := by decide +kernel
theorem dX9_sides_41 : decode cX9_sides 41 = .ok (.getfield 47, 3) := by decide +kernel
theorem dX9_sides_44 : decode cX9_sides 44 = .ok (.invokevirtual 202, 3) := by decide +kernel
theorem dX9_sides_47 : decode cX9_sides 47 = .ok (.istore 5, 2) := by decide +kernel
theorem dX9_sides_49 : decode cX9_sides 49 = .ok (.iload 5, 2) := by decide +kernel
theorem dX9_sides_51 : decode cX9_sides 51 = .ok (.iload_n 3, 1) := by decide +kernel
theorem dX9_sides_52 : decode cX9_sides 52 = .ok (.if_icmp .le 9, 3) := by decide +kernel
theorem dX9_sides_55 : decode cX9_sides 55 = .ok (.iload 5, 2) := by decide +kernel
theorem dX9_sides_57 : decode cX9_sides 57 = .ok (.istore_n 3, 1) := by decide +kernel
theorem dX9_sides_58 : decode cX9_sides 58 = .ok (.iload 4, 2) := by decide +kernel
theorem dX9_sides_6 : decode cX9_sides 6 = .ok (.ifCond .ne 5, 3) := by decide +kernel
theorem dX9_sides_60 : decode cX9_sides 60 = .ok (.istore_n 2, 1) := by decide +kernel
theorem dX9_sides_61 : decode cX9_sides 61 = .ok (.iinc 4 1, 3) := by decide +kernel
theorem dX9_sides_64 : decode cX9_sides 64 = .ok (.goto (-39), 3) := by decide +kernel
theorem dX9_sides_67 : decode cX9_sides 67 = .ok (.iload_n 1, 1) := by decide +kernel
theorem dX9_sides_68 : decode cX9_sides 68 = .ok (.ifCond .ne 7, 3) := by decide +kernel
theorem dX9_sides_71 : decode cX9_sides 71 = .ok (.iload_n 2, 1) := by decide +kernel
theorem dX9_sides_72 : decode cX9_sides 72 = .ok (.goto 4, 3) := by decide +kernel
theorem dX9_sides_75 : decode cX9_sides 75 = .ok (.iload_n 3, 1) := by decide +kernel
theorem dX9_sides_76 : decode cX9_sides 76 = .ok (.ireturn, 1) := by decide +kernel
theorem dX9_sides_9 : decode cX9_sides 9 = .ok (.iconst (-1), 1) := by decide +kernel
theorem dX9_two_0 : decode cX9_two 0 = .ok (.iload_n 1, 1) := by decide +kernel
theorem dX9_two_1 : decode cX9_two 1 = .ok (.iconst 0, 1) := by decide +kernel
theorem dX9_two_10 : decode cX9_two 10 = .ok (.ireturn, 1) := by decide +kernel
theorem dX9_two_11 : decode cX9_two 11 = .ok (.aload_n 0, 1) := by decide +kernel
theorem dX9_two_12 : decode cX9_two 12 = .ok (.getfield 47, 3) := by decide +kernel
theorem dX9_two_15 : decode cX9_two 15 = .ok (.invokevirtual 127, 3) := by decide +kernel
theorem dX9_two_18 : decode cX9_two 18 = .ok (.aload_n 0, 1) := by decide +kernel
theorem dX9_two_19 : decode cX9_two 19 = .ok (.getfield 47, 3) := by decide +kernel
theorem dX9_two_2 : decode cX9_two 2 = .ok (.iconst 1, 1) := by decide +kernel
theorem dX9_two_22 : decode cX9_two 22 = .ok (.invokevirtual 238, 3) := by decide +kernel
theorem dX9_two_25 : decode cX9_two 25 = .ok (.istore_n 2, 1) := by decide +kernel
theorem dX9_two_26 : decode cX9_two 26 = .ok (.iload_n 1, 1) := by decide +kernel
theorem dX9_two_27 : decode cX9_two 27 = .ok (.ifCond .ne 13, 3) := by decide +kernel
theorem dX9_two_3 : decode cX9_two 3 = .ok (.invokestatic 68, 3) := by decide +kernel
theorem dX9_two_30 : decode cX9_two 30 = .ok (.aload_n 0, 1) := by decide +kernel
theorem dX9_two_31 : decode cX9_two 31 = .ok (.getfield 47, 3) := by decide +kernel
theorem dX9_two_34 : decode cX9_two 34 = .ok (.invokevirtual 202, 3) := by decide +kernel
theorem dX9_two_37 : decode cX9_two 37 = .ok (.goto 4, 3) := by decide +kernel
theorem dX9_two_40 : decode cX9_two 40 = .ok (.iload_n 2, 1) := by decide +kernel
theorem dX9_two_41 : decode cX9_two 41 = .ok (.ireturn, 1) := by decide +kernel
theorem dX9_two_6 : decode cX9_two 6 = .ok (.ifCond .ne 5, 3) := by decide +kernel
theorem dX9_two_9 : decode cX9_two 9 = .ok (.iconst (-1), 1) := by decide +kernel
theorem dX9_worth_0 : decode cX9_worth 0 = .ok (.aload_n 0, 1) := by decide +kernel
theorem dX9_worth_1 : decode cX9_worth 1 = .ok (.getfield 31, 3) := by decide +kernel
theorem dX9_worth_11 : decode cX9_worth 11 = .ok (.iconst (-1), 1) := by decide +kernel
theorem dX9_worth_12 : decode cX9_worth 12 = .ok (.ireturn, 1) := by decide +kernel
theorem dX9_worth_4 : decode cX9_worth 4 = .ok (.iload_n 1, 1) := by decide +kernel
theorem dX9_worth_5 : decode cX9_worth 5 = .ok (.invokevirtual 92, 3) := by decide +kernel
theorem dX9_worth_8 : decode cX9_worth 8 = .ok (.ifCond .ne 5, 3) := by decide +kernel
set_option maxHeartbeats 8000000 in
set_option maxRecDepth 100000 in
theorem zc_X9_within_9 (l : Launch) (D : va_G) (y : Nat → ClassId) (p0 : Int32) : zM l D y yX9_within (Cond.code yX9_within cX9_within 3 (some .boolean) :: zT) { frames := 0, cells := 0, slots := 0, locals := 0 } [.int p0, .int 0, .int 99999] [] (zQi (S := Unit) D (fun r_ _ => r_ = (if p0 < 0 then 0 else (if 99999 < p0 then 0 else 1))) (fun _ => [])) := by
  refine zent (cc := cX9_within) (maxL := 3) (ret := (some .boolean)) (by decide) (Nat.le_of_ble_eq_true rfl) ?_
  intro p e s m below meth c A H locs ls hx hb hml hr ht hown hlocks hin hA hK hE hS hW hl
  have hown : s.vm.findClass RX9 = some m.cls := hown
  have hW : zPD D A [] H := hW
  have hl : lv_has ls 3 [(0, .int p0), (1, .int 0), (2, .int 99999)] := hl
  refine lv_iload_n hx hb dX9_within_0 rfl (lv_at hl 0 rfl) ?_
  refine lv_iload_n hx hb dX9_within_1 rfl (lv_at hl 1 rfl) ?_
  refine lv_icmp_lt (tgt := 14) hx hb dX9_within_2 (by decide) (fun c1_ => ?_) (fun c1_ => ?_)
  · have b2_ : (-2147483648) ≤ Int32.toInt p0 ∧ Int32.toInt p0 ≤ (-1) := (by have u0 := zbnd p0; have u1 := (zi_lt _ _).mp c1_; have u2 : (0 : Int32).toInt = 0 := (by decide); omega)
    refine lv_iconst (v := 0) hx hb dX9_within_14 (by decide) ?_
    exact zret_z (v := 0) hx hb hr hlocks hS () rfl (by show _ = _; rw [if_pos c1_]) hW (Nat.le_of_ble_eq_true rfl) (Nat.le_of_ble_eq_true rfl) dX9_within_15
  · have b3_ : 0 ≤ Int32.toInt p0 ∧ Int32.toInt p0 ≤ 2147483647 := (by have u0 := zbnd p0; have u1 := (not_congr (zi_lt _ _)).mp c1_; have u2 : (0 : Int32).toInt = 0 := (by decide); omega)
    refine lv_iload_n hx hb dX9_within_5 rfl (lv_at hl 0 rfl) ?_
    refine lv_iload_n hx hb dX9_within_6 rfl (lv_at hl 2 rfl) ?_
    refine lv_icmp_gt (tgt := 14) hx hb dX9_within_7 (by decide) (fun c4_ => ?_) (fun c4_ => ?_)
    · have b5_ : 100000 ≤ Int32.toInt p0 ∧ Int32.toInt p0 ≤ 2147483647 := (by have u0 := b3_; have u1 := (zi_lt _ _).mp c4_; have u2 : (99999 : Int32).toInt = 99999 := (by decide); omega)
      refine lv_iconst (v := 0) hx hb dX9_within_14 (by decide) ?_
      exact zret_z (v := 0) hx hb hr hlocks hS () rfl (by show _ = _; rw [if_neg c1_, if_pos c4_]) hW (Nat.le_of_ble_eq_true rfl) (Nat.le_of_ble_eq_true rfl) dX9_within_15
    · have b6_ : 0 ≤ Int32.toInt p0 ∧ Int32.toInt p0 ≤ 99999 := (by have u0 := b3_; have u1 := (not_congr (zi_lt _ _)).mp c4_; have u2 : (99999 : Int32).toInt = 99999 := (by decide); omega)
      refine lv_iconst (v := 1) hx hb dX9_within_10 (by decide) ?_
      refine lv_goto (tgt := 15) hx hb dX9_within_11 (by decide) ?_
      exact zret_z (v := 1) hx hb hr hlocks hS () rfl (by show _ = _; rw [if_neg c1_, if_neg c4_]) hW (Nat.le_of_ble_eq_true rfl) (Nat.le_of_ble_eq_true rfl) dX9_within_15
set_option maxHeartbeats 8000000 in
set_option maxRecDepth 100000 in
theorem zc_X1_goAlong_1 (l : Launch) (D : va_G) (y : Nat → ClassId) (a0 : Nat) (a1 : Nat) (a2 : Nat) (w3 : Value) (w4 : Value) (w5 : Value) (w6 : Value) (w7 : Value) (w8 : Value) (w9 : Value) (w10 : Value) (w11 : Value) (w12 : Value) (w13 : Value) (w14 : Value) (w15 : Value) (w16 : Value) (w17 : Value) (w18 : Value) (w19 : Value) (w20 : Value) : zM l D y yX1_goAlong (Cond.code yX1_goAlong cX1_goAlong 10 (some .int) :: zT) { frames := 0, cells := 0, slots := 0, locals := 0 } [.ref a0, .ref a1, .int 0, .int 0, .int 60] [(a0, .inr (1, [.ref a2, w3, w4, w5, w6, w7, w8, w9, w10])), (a2, .inr (6, [w11, w12, w13, w14, w15, w16, .int 0, .int 0, w17, w18, w19, w20]))] (zQi (S := Unit) D (fun r_ _ => r_ = 60) (fun _ => [(a0, .inr (1, [.ref a2, w3, w4, w5, w6, w7, w8, w9, w10])), (a2, .inr (6, [w11, w12, w13, w14, w15, w16, .int 0, .int 0, w17, w18, w19, w20]))])) := by
  refine zent (cc := cX1_goAlong) (maxL := 10) (ret := (some .int)) (by decide) (Nat.le_of_ble_eq_true rfl) ?_
  intro p e s m below meth c A H locs ls hx hb hml hr ht hown hlocks hin hA hK hE hS hW hl
  have hown : s.vm.findClass RX1 = some m.cls := hown
  have hW : zPD D A [(a0, .inr (1, [.ref a2, w3, w4, w5, w6, w7, w8, w9, w10])), (a2, .inr (6, [w11, w12, w13, w14, w15, w16, .int 0, .int 0, w17, w18, w19, w20]))] H := hW
  have hl : lv_has ls 10 [(0, .ref a0), (1, .ref a1), (2, .int 0), (3, .int 0), (4, .int 60)] := hl
  refine lv_iload hx hb dX1_goAlong_0 (lv_at hl 4 rfl) ?_
  refine lv_istore (lv' := [(5, .int 60), (0, .ref a0), (1, .ref a1), (2, .int 0), (3, .int 0), (4, .int 60)]) hx hb dX1_goAlong_2 hl (by decide) rfl (fun ls hl => ?_)
  refine lv_aload_n hx hb dX1_goAlong_4 rfl (lv_at hl 1 rfl) ?_
  refine zget hx hb ht inlX1 hown hK hW 0 rfl rfl 0 (by decide) zm_119 rfl dX1_goAlong_5 ?_
  refine zget hx hb ht inlX7 hown hK hW 1 rfl rfl 6 (by decide) zm_820 rfl dX1_goAlong_8 ?_
  refine lv_istore (lv' := [(6, .int 0), (5, .int 60), (0, .ref a0), (1, .ref a1), (2, .int 0), (3, .int 0), (4, .int 60)]) hx hb dX1_goAlong_11 hl (by decide) rfl (fun ls hl => ?_)
  refine lv_aload_n hx hb dX1_goAlong_13 rfl (lv_at hl 2 rfl) ?_
  refine zget hx hb ht inlX1 hown hK hW 0 rfl rfl 0 (by decide) zm_119 rfl dX1_goAlong_14 ?_
  refine zget hx hb ht inlX7 hown hK hW 1 rfl rfl 7 (by decide) zm_821 rfl dX1_goAlong_17 ?_
  refine lv_istore (lv' := [(7, .int 0), (6, .int 0), (5, .int 60), (0, .ref a0), (1, .ref a1), (2, .int 0), (3, .int 0), (4, .int 60)]) hx hb dX1_goAlong_20 hl (by decide) rfl (fun ls hl => ?_)
  refine lv_iload_n hx hb dX1_goAlong_22 rfl (lv_at hl 5 rfl) ?_
  refine lv_istore (lv' := [(8, .int 0), (7, .int 0), (6, .int 0), (5, .int 60), (0, .ref a0), (1, .ref a1), (2, .int 0), (3, .int 0), (4, .int 60)]) hx hb dX1_goAlong_23 hl (by decide) rfl (fun ls hl => ?_)
  refine lv_iload hx hb dX1_goAlong_25 (lv_at hl 0 rfl) ?_
  refine lv_iload_n hx hb dX1_goAlong_27 rfl (lv_at hl 7 rfl) ?_
  refine lv_icmp_ge (tgt := 126) hx hb dX1_goAlong_28 (by decide) (fun c1_ => ?_) (fun c1_ => absurd (by decide) c1_)
  refine lv_iload hx hb dX1_goAlong_126 (lv_at hl 3 rfl) ?_
  exact zret_i (v := 60) hx hb hr hlocks hS () rfl hW (Nat.le_of_ble_eq_true rfl) (Nat.le_of_ble_eq_true rfl) dX1_goAlong_128
set_option maxHeartbeats 8000000 in
set_option maxRecDepth 100000 in
theorem zc_X1_goRound_1 (l : Launch) (D : va_G) (y : Nat → ClassId) (a0 : Nat) (a1 : Nat) (w2 : Value) (w3 : Value) (w4 : Value) (w5 : Value) (w6 : Value) (w7 : Value) (w8 : Value) (w9 : Value) (w10 : Value) (w11 : Value) (w12 : Value) (w13 : Value) (w14 : Value) (w15 : Value) (a16 : Nat) (w17 : Value) (w18 : Value) (w19 : Value) (w20 : Value) : zM l D y yX1_goRound (Cond.code yX1_goRound cX1_goRound 2 (some .int) :: zT) { frames := 1, cells := 0, slots := 0, locals := 29 } [.ref a0, .int 60] [(a0, .inr (1, [.ref a1, w2, w3, w4, w5, w6, w7, w8, w9])), (a1, .inr (6, [w10, w11, w12, w13, .int 0, w14, .int 0, .int 0, w15, .ref a16, w17, w18])), (a16, .inr (5, [.int 0, w19, w20]))] (zQi (S := Unit) D (fun r_ _ => r_ = 60) (fun _ => [(a0, .inr (1, [.ref a1, w2, w3, w4, w5, w6, w7, w8, w9])), (a1, .inr (6, [w10, w11, w12, w13, .int 0, w14, .int 0, .int 0, w15, .ref a16, w17, w18])), (a16, .inr (5, [.int 0, w19, w20]))])) := by
  refine zent (cc := cX1_goRound) (maxL := 2) (ret := (some .int)) (by decide) (Nat.le_of_ble_eq_true rfl) ?_
  intro p e s m below meth c A H locs ls hx hb hml hr ht hown hlocks hin hA hK hE hS hW hl
  have hown : s.vm.findClass RX1 = some m.cls := hown
  have hW : zPD D A [(a0, .inr (1, [.ref a1, w2, w3, w4, w5, w6, w7, w8, w9])), (a1, .inr (6, [w10, w11, w12, w13, .int 0, w14, .int 0, .int 0, w15, .ref a16, w17, w18])), (a16, .inr (5, [.int 0, w19, w20]))] H := hW
  have hl : lv_has ls 2 [(0, .ref a0), (1, .int 60)] := hl
  refine lv_aload_n hx hb dX1_goRound_0 rfl (lv_at hl 0 rfl) ?_
  refine lv_aload_n hx hb dX1_goRound_1 rfl (lv_at hl 0 rfl) ?_
  refine zget hx hb ht inlX1 hown hK hW 0 rfl rfl 0 (by decide) zm_119 rfl dX1_goRound_2 ?_
  refine zget hx hb ht inlX7 hown hK hW 1 rfl rfl 9 (by decide) zm_813 rfl dX1_goRound_5 ?_
  refine lv_iconst (v := 0) hx hb dX1_goRound_8 (by decide) ?_
  refine lv_aload_n hx hb dX1_goRound_9 rfl (lv_at hl 0 rfl) ?_
  refine zget hx hb ht inlX1 hown hK hW 0 rfl rfl 0 (by decide) zm_119 rfl dX1_goRound_10 ?_
  refine zget hx hb ht inlX7 hown hK hW 1 rfl rfl 9 (by decide) zm_813 rfl dX1_goRound_13 ?_
  refine zget hx hb ht inlX6 hown hK hW 2 rfl rfl 0 (by decide) zm_814 rfl dX1_goRound_16 ?_
  refine lv_aload_n hx hb dX1_goRound_19 rfl (lv_at hl 0 rfl) ?_
  refine zget hx hb ht inlX1 hown hK hW 0 rfl rfl 0 (by decide) zm_119 rfl dX1_goRound_20 ?_
  refine zget hx hb ht inlX7 hown hK hW 1 rfl rfl 4 (by decide) zm_815 rfl dX1_goRound_23 ?_
  refine lv_iload_n hx hb dX1_goRound_26 rfl (lv_at hl 1 rfl) ?_
  refine lv_iadd hx hb dX1_goRound_27 ?_
  refine ztop (w := .int 60) (congrArg Value.int (by decide)) ?_
  refine zgo_i (wr := [(a16, .inr (5, [.int 0, w19, w20]))]) (zrunV (As := [.ref a16, .int 0, .int 0, .int 60]) (rest := []) ⟨hx, hb, hml, hown, ht⟩ (zc_X1_goAlong_1 l D y a0 a16 a1 w2 w3 w4 w5 w6 w7 w8 w9 w10 w11 w12 w13 (.int 0) w14 w15 (.ref a16) w17 w18) (cwV 4 ht (zgV zm_816 zm_817 zm_818 zm_28 zm_819) rfl rfl rfl (by decide +kernel) ⟨(Nat.le_of_ble_eq_true rfl), (Nat.le_of_ble_eq_true rfl)⟩) hK hE hS hA hW [0, 1] (by decide) rfl 0 rfl rfl rfl rfl hl.1 rfl (Nat.le_of_ble_eq_true rfl) dX1_goRound_28 (Nat.le_of_ble_eq_true rfl) (Nat.le_of_ble_eq_true rfl)) hS hA hW [0, 1] [2] rfl rfl (by decide) (by decide) (fun r1_ u H locs hw hW hS => ?_)
  have hW : zPD D A [(a16, .inr (5, [.int 0, w19, w20])), (a0, .inr (1, [.ref a1, w2, w3, w4, w5, w6, w7, w8, w9])), (a1, .inr (6, [w10, w11, w12, w13, .int 0, w14, .int 0, .int 0, w15, .ref a16, w17, w18]))] H := hW
  have hw : r1_ = 60 := hw
  subst hw
  exact zret_i (v := 60) hx hb hr hlocks hS () rfl (hW.sub [1, 2, 0] (by decide) rfl) (Nat.le_of_ble_eq_true rfl) (Nat.le_of_ble_eq_true rfl) dX1_goRound_31
set_option maxHeartbeats 8000000 in
set_option maxRecDepth 100000 in
theorem zc_X1_costOfRound_0 (l : Launch) (D : va_G) (y : Nat → ClassId) (a0 : Nat) (a1 : Nat) (w2 : Value) (w3 : Value) (w4 : Value) (w5 : Value) (w6 : Value) (w7 : Value) (w8 : Value) (w9 : Value) (w10 : Value) (w11 : Value) (w12 : Value) (a13 : Nat) (a14 : Nat) (w15 : Value) (w16 : Value) (w17 : Value) (w18 : Value) (w19 : Value) (w20 : Value) (w21 : Value) (w22 : Value) (w23 : Value) (w24 : Value) (w25 : Value) : zM l D y yX1_costOfRound (Cond.code yX1_costOfRound cX1_costOfRound 2 (some .int) :: zT) { frames := 2, cells := 0, slots := 0, locals := 50 } [.ref a0, .int 60] [(a0, .inr (1, [.ref a1, w2, .int 20, w3, w4, w5, w6, w7, w8])), (a1, .inr (6, [w9, .int 0, w10, w11, .int 0, w12, .int 0, .int 0, .ref a13, .ref a14, w15, w16])), (a13, .inr (2, [w17, .int 15, w18, w19, w20, w21, w22, w23])), (a14, .inr (5, [.int 0, w24, w25]))] (zQi (S := Unit) D (fun r_ _ => r_ = 0) (fun _ => [(a0, .inr (1, [.ref a1, w2, .int 20, w3, w4, w5, w6, w7, w8])), (a1, .inr (6, [w9, .int 0, w10, w11, .int 0, w12, .int 0, .int 0, .ref a13, .ref a14, w15, w16])), (a13, .inr (2, [w17, .int 15, w18, w19, w20, w21, w22, w23])), (a14, .inr (5, [.int 0, w24, w25]))])) := by
  refine zent (cc := cX1_costOfRound) (maxL := 2) (ret := (some .int)) (by decide) (Nat.le_of_ble_eq_true rfl) ?_
  intro p e s m below meth c A H locs ls hx hb hml hr ht hown hlocks hin hA hK hE hS hW hl
  have hown : s.vm.findClass RX1 = some m.cls := hown
  have hW : zPD D A [(a0, .inr (1, [.ref a1, w2, .int 20, w3, w4, w5, w6, w7, w8])), (a1, .inr (6, [w9, .int 0, w10, w11, .int 0, w12, .int 0, .int 0, .ref a13, .ref a14, w15, w16])), (a13, .inr (2, [w17, .int 15, w18, w19, w20, w21, w22, w23])), (a14, .inr (5, [.int 0, w24, w25]))] H := hW
  have hl : lv_has ls 2 [(0, .ref a0), (1, .int 60)] := hl
  refine lv_aload_n hx hb dX1_costOfRound_0 rfl (lv_at hl 0 rfl) ?_
  refine zgo_v (wr := [(a13, .inr (2, [w17, .int 15, w18, w19, w20, w21, w22, w23])), (a14, .inr (5, [.int 0, w24, w25]))]) (zrunV (As := []) (rest := []) ⟨hx, hb, hml, hown, ht⟩ (zc_X1_nobodyShuts_0 l D y a0 a1 w2 (.int 20) w3 w4 w5 w6 w7 w8 w9 w10 w11 (.int 0) w12 (.int 0) (.int 0) (.ref a13) (.ref a14) w15 w16) (cwV 0 ht (zgV zm_325 zm_326 zm_327 zm_28 zm_328) rfl rfl rfl (by decide +kernel) ⟨(Nat.le_of_ble_eq_true rfl), (Nat.le_of_ble_eq_true rfl)⟩) hK hE hS hA hW [0, 1] (by decide) rfl 0 rfl rfl rfl rfl hl.1 rfl (Nat.le_of_ble_eq_true rfl) dX1_costOfRound_1 (Nat.le_of_ble_eq_true rfl) (Nat.le_of_ble_eq_true rfl)) hS hA hW [0, 1] [2, 3] rfl rfl (by decide) (by decide) (fun u H locs hw hW hS => ?_)
  have hW : zPD D A [(a13, .inr (2, [w17, .int 15, w18, w19, w20, w21, w22, w23])), (a14, .inr (5, [.int 0, w24, w25])), (a0, .inr (1, [.ref a1, w2, .int 20, w3, w4, w5, w6, w7, w8])), (a1, .inr (6, [w9, .int 0, w10, w11, .int 0, w12, .int 0, .int 0, .ref a13, .ref a14, w15, w16]))] H := hW
  refine lv_aload_n hx hb dX1_costOfRound_4 rfl (lv_at hl 0 rfl) ?_
  refine lv_iload_n hx hb dX1_costOfRound_5 rfl (lv_at hl 1 rfl) ?_
  refine zgo_i (wr := [(a13, .inr (2, [w17, .int 15, w18, w19, w20, w21, w22, w23]))]) (zrunV (As := [.int 60]) (rest := []) ⟨hx, hb, hml, hown, ht⟩ (zc_X1_goRound_1 l D y a0 a1 w2 (.int 20) w3 w4 w5 w6 w7 w8 w9 (.int 0) w10 w11 w12 (.ref a13) a14 w15 w16 w24 w25) (cwV 1 ht (zgV zm_932 zm_810 zm_811 zm_28 zm_812) rfl rfl rfl (by decide +kernel) ⟨(Nat.le_of_ble_eq_true rfl), (Nat.le_of_ble_eq_true rfl)⟩) hK hE hS hA hW [2, 3, 1] (by decide) rfl 0 rfl rfl rfl rfl hl.1 rfl (Nat.le_of_ble_eq_true rfl) dX1_costOfRound_6 (Nat.le_of_ble_eq_true rfl) (Nat.le_of_ble_eq_true rfl)) hS hA hW [2, 3, 1] [0] rfl rfl (by decide) (by decide) (fun r2_ u H locs hw hW hS => ?_)
  have hW : zPD D A [(a13, .inr (2, [w17, .int 15, w18, w19, w20, w21, w22, w23])), (a0, .inr (1, [.ref a1, w2, .int 20, w3, w4, w5, w6, w7, w8])), (a1, .inr (6, [w9, .int 0, w10, w11, .int 0, w12, .int 0, .int 0, .ref a13, .ref a14, w15, w16])), (a14, .inr (5, [.int 0, w24, w25]))] H := hW
  have hw : r2_ = 60 := hw
  subst hw
  refine lv_pop hx hb dX1_costOfRound_9 rfl ?_
  refine lv_aload_n hx hb dX1_costOfRound_10 rfl (lv_at hl 0 rfl) ?_
  refine zgo_i (wr := [(a14, .inr (5, [.int 0, w24, w25]))]) (zrunV (As := []) (rest := []) ⟨hx, hb, hml, hown, ht⟩ (zc_X1_cost_0 l D y a0 a1 w2 w3 w4 w5 w6 w7 w8 w9 w10 w11 w12 (.int 0) (.int 0) a13 (.ref a14) w15 w16 w17 w18 w19 w20 w21 w22 w23) (cwV 0 ht (zgV zm_884 zm_828 zm_829 zm_28 zm_830) rfl rfl rfl (by decide +kernel) ⟨(Nat.le_of_ble_eq_true rfl), (Nat.le_of_ble_eq_true rfl)⟩) hK hE hS hA hW [1, 2, 0] (by decide) rfl 0 rfl rfl rfl rfl hl.1 rfl (Nat.le_of_ble_eq_true rfl) dX1_costOfRound_11 (Nat.le_of_ble_eq_true rfl) (Nat.le_of_ble_eq_true rfl)) hS hA hW [1, 2, 0] [3] rfl rfl (by decide) (by decide) (fun r3_ u H locs hw hW hS => ?_)
  have hW : zPD D A [(a14, .inr (5, [.int 0, w24, w25])), (a0, .inr (1, [.ref a1, w2, .int 20, w3, w4, w5, w6, w7, w8])), (a1, .inr (6, [w9, .int 0, w10, w11, .int 0, w12, .int 0, .int 0, .ref a13, .ref a14, w15, w16])), (a13, .inr (2, [w17, .int 15, w18, w19, w20, w21, w22, w23]))] H := hW
  have hw : r3_ = 0 := hw
  subst hw
  exact zret_i (v := 0) hx hb hr hlocks hS () rfl (hW.sub [1, 2, 3, 0] (by decide) rfl) (Nat.le_of_ble_eq_true rfl) (Nat.le_of_ble_eq_true rfl) dX1_costOfRound_14
set_option maxHeartbeats 8000000 in
set_option maxRecDepth 100000 in
theorem zc_X9_late_0 (l : Launch) (D : va_G) (y : Nat → ClassId) (a0 : Nat) (p1 : Int32) (w2 : Value) (w3 : Value) (w4 : Value) (w5 : Value) (w6 : Value) (w7 : Value) (a8 : Nat) (w9 : Value) (w10 : Value) (a11 : Nat) (w12 : Value) (w13 : Value) (w14 : Value) (w15 : Value) (w16 : Value) (a17 : Nat) (w18 : Value) (w19 : Value) (a20 : Nat) (a21 : Nat) (w22 : Value) (w23 : Value) (w24 : Value) (w25 : Value) (w26 : Value) (w27 : Value) (w28 : Value) (w29 : Value) (w30 : Value) (w31 : Value) (w32 : Value) : zM l D y yX9_late (Cond.code yX9_late cX9_late 3 (some .int) :: zT) { frames := 3, cells := 0, slots := 0, locals := 71 } [.ref a0, .int p1] [(a0, .inr (8, [w2, w3, w4, w5, w6, w7, .ref a8, w9, w10])), (a8, .inr (1, [.ref a11, .int 0, .int 0, w12, w13, w14, w15, w16, .ref a17])), (a11, .inr (6, [w18, .int 0, .int 20, .int 0, .int 0, w19, .int 0, .int 0, .ref a20, .ref a21, w22, w23])), (a17, .inl (y 2, 4, .inl (fun _ => 0))), (a20, .inr (2, [w24, .int 15, w25, w26, w27, w28, w29, w30])), (a21, .inr (5, [.int 0, w31, w32]))] (zQi (S := Unit) D (fun r_ _ => r_ = (if p1 < 0 then (-2) else (if 99999 < p1 then (-2) else 60))) (fun _ => [])) := by
  refine zent (cc := cX9_late) (maxL := 3) (ret := (some .int)) (by decide) (Nat.le_of_ble_eq_true rfl) ?_
  intro p e s m below meth c A H locs ls hx hb hml hr ht hown hlocks hin hA hK hE hS hW hl
  have hown : s.vm.findClass RX9 = some m.cls := hown
  have hW : zPD D A [(a0, .inr (8, [w2, w3, w4, w5, w6, w7, .ref a8, w9, w10])), (a8, .inr (1, [.ref a11, .int 0, .int 0, w12, w13, w14, w15, w16, .ref a17])), (a11, .inr (6, [w18, .int 0, .int 20, .int 0, .int 0, w19, .int 0, .int 0, .ref a20, .ref a21, w22, w23])), (a17, .inl (y 2, 4, .inl (fun _ => 0))), (a20, .inr (2, [w24, .int 15, w25, w26, w27, w28, w29, w30])), (a21, .inr (5, [.int 0, w31, w32]))] H := hW
  have hl : lv_has ls 3 [(0, .ref a0), (1, .int p1)] := hl
  refine lv_iload_n hx hb dX9_late_0 rfl (lv_at hl 1 rfl) ?_
  refine lv_iconst (v := 0) hx hb dX9_late_1 (by decide) ?_
  refine lv_ldc (v := 99999) hx hb hown (ht _ zm_927) dX9_late_2 ?_
  refine zgo0_i (zrunS (As := [.int p1, .int 0, .int 99999]) (rest := []) ⟨hx, hb, hml, hown, ht⟩ (zc_X9_within_9 l D y p1) (va_cwS 3 ht (zgS zm_222 zm_223 zm_2 zm_224) rfl rfl rfl (by decide +kernel) ⟨(Nat.le_of_ble_eq_true rfl), (Nat.le_of_ble_eq_true rfl)⟩) hK hE hS hA hW [] (by decide) rfl rfl hl.1 rfl (Nat.le_of_ble_eq_true rfl) dX9_late_4 (Nat.le_of_ble_eq_true rfl) (Nat.le_of_ble_eq_true rfl)) hS hA hW (fun r1_ u H locs hw hW hS => ?_)
  have hw : r1_ = (if p1 < 0 then 0 else (if 99999 < p1 then 0 else 1)) := hw
  by_cases c2_ : p1 < 0
  · have b3_ : (-2147483648) ≤ Int32.toInt p1 ∧ Int32.toInt p1 ≤ (-1) := (by have u0 := zbnd p1; have u1 := (zi_lt _ _).mp c2_; have u2 : (0 : Int32).toInt = 0 := (by decide); omega)
    rw [if_pos c2_] at hw
    subst hw
    refine lv_if_ne (tgt := 13) hx hb dX9_late_7 (by decide) (fun c4_ => absurd (by decide) c4_) (fun c4_ => ?_)
    refine lv_bipush (v := (-2)) hx hb dX9_late_10 (by decide) ?_
    exact zret_i (v := (-2)) hx hb hr hlocks hS () (by show _ = _; rw [if_pos c2_]) (hW.sub [] (by decide) rfl) (Nat.le_of_ble_eq_true rfl) (Nat.le_of_ble_eq_true rfl) dX9_late_12
  · have b5_ : 0 ≤ Int32.toInt p1 ∧ Int32.toInt p1 ≤ 2147483647 := (by have u0 := zbnd p1; have u1 := (not_congr (zi_lt _ _)).mp c2_; have u2 : (0 : Int32).toInt = 0 := (by decide); omega)
    rw [if_neg c2_] at hw
    by_cases c6_ : 99999 < p1
    · have b7_ : 100000 ≤ Int32.toInt p1 ∧ Int32.toInt p1 ≤ 2147483647 := (by have u0 := b5_; have u1 := (zi_lt _ _).mp c6_; have u2 : (99999 : Int32).toInt = 99999 := (by decide); omega)
      rw [if_pos c6_] at hw
      subst hw
      refine lv_if_ne (tgt := 13) hx hb dX9_late_7 (by decide) (fun c8_ => absurd (by decide) c8_) (fun c8_ => ?_)
      refine lv_bipush (v := (-2)) hx hb dX9_late_10 (by decide) ?_
      exact zret_i (v := (-2)) hx hb hr hlocks hS () (by show _ = _; rw [if_neg c2_, if_pos c6_]) (hW.sub [] (by decide) rfl) (Nat.le_of_ble_eq_true rfl) (Nat.le_of_ble_eq_true rfl) dX9_late_12
    · have b9_ : 0 ≤ Int32.toInt p1 ∧ Int32.toInt p1 ≤ 99999 := (by have u0 := b5_; have u1 := (not_congr (zi_lt _ _)).mp c6_; have u2 : (99999 : Int32).toInt = 99999 := (by decide); omega)
      rw [if_neg c6_] at hw
      subst hw
      refine lv_if_ne (tgt := 13) hx hb dX9_late_7 (by decide) (fun c10_ => ?_) (fun c10_ => absurd c10_ (by decide))
      refine lv_aload_n hx hb dX9_late_13 rfl (lv_at hl 0 rfl) ?_
      refine zget hx hb ht inlX9 hown hK hW 0 rfl rfl 6 (by decide) zm_29 rfl dX9_late_14 ?_
      refine zgo_v (wr := [(a0, .inr (8, [w2, w3, w4, w5, w6, w7, .ref a8, w9, w10])), (a20, .inr (2, [w24, .int 15, w25, w26, w27, w28, w29, w30])), (a21, .inr (5, [.int 0, w31, w32]))]) (zrunV (As := []) (rest := []) ⟨hx, hb, hml, hown, ht⟩ (zc_X1_beginFromNow_0 l D y a8 a11 w12 w13 w14 w15 w16 a17 w18 (.int 0) w19 (.int 0) (.int 0) (.ref a20) (.ref a21) w22 w23) (cwV 0 ht (zgV zm_274 zm_275 zm_276 zm_28 zm_277) rfl rfl rfl (by decide +kernel) ⟨(Nat.le_of_ble_eq_true rfl), (Nat.le_of_ble_eq_true rfl)⟩) hK hE hS hA hW [1, 2, 3] (by decide) rfl 0 rfl rfl rfl rfl hl.1 rfl (Nat.le_of_ble_eq_true rfl) dX9_late_17 (Nat.le_of_ble_eq_true rfl) (Nat.le_of_ble_eq_true rfl)) hS hA hW [1, 2, 3] [0, 4, 5] rfl rfl (by decide) (by decide) (fun u H locs hw hW hS => ?_)
      have hW : zPD D A [(a0, .inr (8, [w2, w3, w4, w5, w6, w7, .ref a8, w9, w10])), (a20, .inr (2, [w24, .int 15, w25, w26, w27, w28, w29, w30])), (a21, .inr (5, [.int 0, w31, w32])), (a8, .inr (1, [.ref a11, .int 0, .int 20, w12, w13, w14, w15, w16, .ref a17])), (a11, .inr (6, [w18, .int 0, .int 20, .int 0, .int 0, w19, .int 0, .int 0, .ref a20, .ref a21, w22, w23])), (a17, .inl (y 2, 4, .inl (upd (fun _ => 0) 0 1)))] H := hW
      refine lv_bipush (v := 60) hx hb dX9_late_20 (by decide) ?_
      refine lv_istore_n (lv' := [(2, .int 60), (0, .ref a0), (1, .int p1)]) hx hb dX9_late_22 rfl hl (by decide) rfl (fun ls hl => ?_)
      refine lv_iload_n hx hb dX9_late_23 rfl (lv_at hl 0 rfl) ?_
      refine lv_if_lt (tgt := 47) hx hb dX9_late_24 (by decide) (fun c12_ => absurd c12_ (by decide)) (fun c12_ => ?_)
      refine lv_aload_n hx hb dX9_late_27 rfl (lv_at hl 1 rfl) ?_
      refine zget hx hb ht inlX9 hown hK hW 0 rfl rfl 6 (by decide) zm_29 rfl dX9_late_28 ?_
      refine lv_iload_n hx hb dX9_late_31 rfl (lv_at hl 0 rfl) ?_
      refine zgo_i (wr := [(a0, .inr (8, [w2, w3, w4, w5, w6, w7, .ref a8, w9, w10])), (a17, .inl (y 2, 4, .inl (upd (fun _ => 0) 0 1)))]) (zrunV (As := [.int 60]) (rest := []) ⟨hx, hb, hml, hown, ht⟩ (zc_X1_costOfRound_0 l D y a8 a11 (.int 0) w12 w13 w14 w15 w16 (.ref a17) w18 (.int 20) (.int 0) w19 a20 a21 w22 w23 w24 w25 w26 w27 w28 w29 w30 w31 w32) (cwV 1 ht (zgV zm_928 zm_929 zm_930 zm_28 zm_931) rfl rfl rfl (by decide +kernel) ⟨(Nat.le_of_ble_eq_true rfl), (Nat.le_of_ble_eq_true rfl)⟩) hK hE hS hA hW [3, 4, 1, 2] (by decide) rfl 0 rfl rfl rfl rfl hl.1 rfl (Nat.le_of_ble_eq_true rfl) dX9_late_32 (Nat.le_of_ble_eq_true rfl) (Nat.le_of_ble_eq_true rfl)) hS hA hW [3, 4, 1, 2] [0, 5] rfl rfl (by decide) (by decide) (fun r13_ u H locs hw hW hS => ?_)
      have hW : zPD D A [(a0, .inr (8, [w2, w3, w4, w5, w6, w7, .ref a8, w9, w10])), (a17, .inl (y 2, 4, .inl (upd (fun _ => 0) 0 1))), (a8, .inr (1, [.ref a11, .int 0, .int 20, w12, w13, w14, w15, w16, .ref a17])), (a11, .inr (6, [w18, .int 0, .int 20, .int 0, .int 0, w19, .int 0, .int 0, .ref a20, .ref a21, w22, w23])), (a20, .inr (2, [w24, .int 15, w25, w26, w27, w28, w29, w30])), (a21, .inr (5, [.int 0, w31, w32]))] H := hW
      have hw : r13_ = 0 := hw
      subst hw
      refine lv_iload_n hx hb dX9_late_35 rfl (lv_at hl 2 rfl) ?_
      refine lv_icmp_gt (tgt := 41) hx hb dX9_late_36 (by decide) (fun c14_ => absurd c14_ c2_) (fun c14_ => ?_)
      refine lv_iload_n hx hb dX9_late_39 rfl (lv_at hl 0 rfl) ?_
      exact zret_i (v := 60) hx hb hr hlocks hS () (by show _ = _; rw [if_neg c2_, if_neg c6_]) (hW.sub [] (by decide) rfl) (Nat.le_of_ble_eq_true rfl) (Nat.le_of_ble_eq_true rfl) dX9_late_40
set_option maxHeartbeats 8000000 in
set_option maxRecDepth 100000 in
theorem zc_X10_in_10 (l : Launch) (D : va_G) (y : Nat → ClassId) (a0 : Nat) (p1 : Int32) (w2 : Value) (w3 : Value) (w4 : Value) (w5 : Value) (w6 : Value) (w7 : Value) (w8 : Value) (w9 : Value) (w10 : Value) (w11 : Value) (w12 : Value) (w13 : Value) (w14 : Value) (w15 : Value) (w16 : Value) (w17 : Value) (w18 : Value) (w19 : Value) (w20 : Value) (w21 : Value) (w22 : Value) (w23 : Value) (w24 : Value) (w25 : Value) (w26 : Value) (w27 : Value) (w28 : Value) (w29 : Value) (w30 : Value) (w31 : Value) (w32 : Value) (w33 : Value) (w34 : Value) (w35 : Value) (w36 : Value) (w37 : Value) (w38 : Value) (w39 : Value) (w40 : Value) (w41 : Value) (w42 : Value) (w43 : Value) (w44 : Value) (w45 : Value) (w46 : Value) (w47 : Value) (w48 : Value) (w49 : Value) (w50 : Value) (w51 : Value) (w52 : Value) (w53 : Value) (w54 : Value) (w55 : Value) (w56 : Value) (w57 : Value) (w58 : Value) (w59 : Value) (w60 : Value) (w61 : Value) (w62 : Value) (w63 : Value) (w64 : Value) (w65 : Value) (w66 : Value) (w67 : Value) (w68 : Value) (w69 : Value) (w70 : Value) (w71 : Value) (w72 : Value) (w73 : Value) (w74 : Value) (w75 : Value) (w76 : Value) (w77 : Value) : zM l D y yX10_in (Cond.code yX10_in cX10_in 4 (some .boolean) :: zT) { frames := 0, cells := 0, slots := 0, locals := 0 } [.ref a0, .int p1, .int 0, .int 99999] [(a0, .inr (9, [w2, w3, w4, w5, w6, w7, w8, w9, w10, w11, w12, w13, w14, w15, w16, w17, w18, w19, w20, w21, w22, w23, w24, w25, w26, w27, w28, w29, w30, w31, w32, w33, w34, w35, w36, w37, w38, w39, w40, w41, w42, w43, w44, w45, w46, w47, w48, w49, w50, w51, w52, w53, w54, w55, w56, w57, w58, w59, w60, w61, w62, w63, w64, w65, w66, w67, w68, w69, w70, w71, w72, w73, w74, w75, w76, w77]))] (zQi (S := Unit) D (fun r_ _ => r_ = (if p1 < 0 then 0 else (if 99999 < p1 then 0 else 1))) (fun _ => [(a0, .inr (9, [w2, w3, w4, w5, w6, w7, w8, w9, w10, w11, w12, w13, w14, w15, w16, w17, w18, w19, w20, w21, w22, w23, w24, w25, w26, w27, w28, w29, w30, w31, w32, w33, w34, w35, w36, w37, w38, w39, w40, w41, w42, w43, w44, w45, w46, w47, w48, w49, w50, w51, w52, w53, w54, w55, w56, w57, w58, w59, w60, w61, w62, w63, w64, w65, w66, w67, w68, w69, w70, w71, w72, w73, w74, w75, w76, w77]))])) := by
  refine zent (cc := cX10_in) (maxL := 4) (ret := (some .boolean)) (by decide) (Nat.le_of_ble_eq_true rfl) ?_
  intro p e s m below meth c A H locs ls hx hb hml hr ht hown hlocks hin hA hK hE hS hW hl
  have hown : s.vm.findClass RX10 = some m.cls := hown
  have hW : zPD D A [(a0, .inr (9, [w2, w3, w4, w5, w6, w7, w8, w9, w10, w11, w12, w13, w14, w15, w16, w17, w18, w19, w20, w21, w22, w23, w24, w25, w26, w27, w28, w29, w30, w31, w32, w33, w34, w35, w36, w37, w38, w39, w40, w41, w42, w43, w44, w45, w46, w47, w48, w49, w50, w51, w52, w53, w54, w55, w56, w57, w58, w59, w60, w61, w62, w63, w64, w65, w66, w67, w68, w69, w70, w71, w72, w73, w74, w75, w76, w77]))] H := hW
  have hl : lv_has ls 4 [(0, .ref a0), (1, .int p1), (2, .int 0), (3, .int 99999)] := hl
  refine lv_iload_n hx hb dX10_in_0 rfl (lv_at hl 1 rfl) ?_
  refine lv_iload_n hx hb dX10_in_1 rfl (lv_at hl 2 rfl) ?_
  refine lv_icmp_lt (tgt := 14) hx hb dX10_in_2 (by decide) (fun c1_ => ?_) (fun c1_ => ?_)
  · have b2_ : (-2147483648) ≤ Int32.toInt p1 ∧ Int32.toInt p1 ≤ (-1) := (by have u0 := zbnd p1; have u1 := (zi_lt _ _).mp c1_; have u2 : (0 : Int32).toInt = 0 := (by decide); omega)
    refine lv_iconst (v := 0) hx hb dX10_in_14 (by decide) ?_
    exact zret_z (v := 0) hx hb hr hlocks hS () rfl (by show _ = _; rw [if_pos c1_]) hW (Nat.le_of_ble_eq_true rfl) (Nat.le_of_ble_eq_true rfl) dX10_in_15
  · have b3_ : 0 ≤ Int32.toInt p1 ∧ Int32.toInt p1 ≤ 2147483647 := (by have u0 := zbnd p1; have u1 := (not_congr (zi_lt _ _)).mp c1_; have u2 : (0 : Int32).toInt = 0 := (by decide); omega)
    refine lv_iload_n hx hb dX10_in_5 rfl (lv_at hl 1 rfl) ?_
    refine lv_iload_n hx hb dX10_in_6 rfl (lv_at hl 3 rfl) ?_
    refine lv_icmp_gt (tgt := 14) hx hb dX10_in_7 (by decide) (fun c4_ => ?_) (fun c4_ => ?_)
    · have b5_ : 100000 ≤ Int32.toInt p1 ∧ Int32.toInt p1 ≤ 2147483647 := (by have u0 := b3_; have u1 := (zi_lt _ _).mp c4_; have u2 : (99999 : Int32).toInt = 99999 := (by decide); omega)
      refine lv_iconst (v := 0) hx hb dX10_in_14 (by decide) ?_
      exact zret_z (v := 0) hx hb hr hlocks hS () rfl (by show _ = _; rw [if_neg c1_, if_pos c4_]) hW (Nat.le_of_ble_eq_true rfl) (Nat.le_of_ble_eq_true rfl) dX10_in_15
    · have b6_ : 0 ≤ Int32.toInt p1 ∧ Int32.toInt p1 ≤ 99999 := (by have u0 := b3_; have u1 := (not_congr (zi_lt _ _)).mp c4_; have u2 : (99999 : Int32).toInt = 99999 := (by decide); omega)
      refine lv_iconst (v := 1) hx hb dX10_in_10 (by decide) ?_
      refine lv_goto (tgt := 15) hx hb dX10_in_11 (by decide) ?_
      exact zret_z (v := 1) hx hb hr hlocks hS () rfl (by show _ = _; rw [if_neg c1_, if_neg c4_]) hW (Nat.le_of_ble_eq_true rfl) (Nat.le_of_ble_eq_true rfl) dX10_in_15
set_option maxHeartbeats 8000000 in
set_option maxRecDepth 100000 in
theorem zc_X10_isLimit_0 (l : Launch) (D : va_G) (y : Nat → ClassId) (a0 : Nat) (p1 : Int32) (w2 : Value) (w3 : Value) (w4 : Value) (w5 : Value) (w6 : Value) (w7 : Value) (w8 : Value) (w9 : Value) (w10 : Value) (w11 : Value) (w12 : Value) (w13 : Value) (w14 : Value) (w15 : Value) (w16 : Value) (w17 : Value) (w18 : Value) (w19 : Value) (w20 : Value) (w21 : Value) (w22 : Value) (w23 : Value) (w24 : Value) (w25 : Value) (w26 : Value) (w27 : Value) (w28 : Value) (w29 : Value) (w30 : Value) (w31 : Value) (w32 : Value) (w33 : Value) (w34 : Value) (w35 : Value) (w36 : Value) (w37 : Value) (w38 : Value) (w39 : Value) (w40 : Value) (w41 : Value) (w42 : Value) (w43 : Value) (w44 : Value) (w45 : Value) (w46 : Value) (w47 : Value) (w48 : Value) (w49 : Value) (w50 : Value) (w51 : Value) (w52 : Value) (w53 : Value) (w54 : Value) (w55 : Value) (w56 : Value) (w57 : Value) (w58 : Value) (w59 : Value) (w60 : Value) (w61 : Value) (w62 : Value) (w63 : Value) (w64 : Value) (w65 : Value) (w66 : Value) (w67 : Value) (w68 : Value) (w69 : Value) (w70 : Value) (w71 : Value) (w72 : Value) (w73 : Value) (w74 : Value) (w75 : Value) (w76 : Value) (w77 : Value) : zM l D y yX10_isLimit (Cond.code yX10_isLimit cX10_isLimit 2 (some .boolean) :: zT) { frames := 1, cells := 0, slots := 0, locals := 23 } [.ref a0, .int p1] [(a0, .inr (9, [w2, w3, w4, w5, w6, w7, w8, w9, w10, w11, w12, w13, w14, w15, w16, w17, w18, w19, w20, w21, w22, w23, w24, w25, w26, w27, w28, w29, w30, w31, w32, w33, w34, w35, w36, w37, w38, w39, w40, w41, w42, w43, w44, w45, w46, w47, w48, w49, w50, w51, w52, w53, w54, w55, w56, w57, w58, w59, w60, w61, w62, w63, w64, w65, w66, w67, w68, w69, w70, w71, w72, w73, w74, w75, w76, w77]))] (zQi (S := Unit) D (fun r_ _ => r_ = (if p1 < 0 then 0 else (if 99999 < p1 then 0 else 1))) (fun _ => [(a0, .inr (9, [w2, w3, w4, w5, w6, w7, w8, w9, w10, w11, w12, w13, w14, w15, w16, w17, w18, w19, w20, w21, w22, w23, w24, w25, w26, w27, w28, w29, w30, w31, w32, w33, w34, w35, w36, w37, w38, w39, w40, w41, w42, w43, w44, w45, w46, w47, w48, w49, w50, w51, w52, w53, w54, w55, w56, w57, w58, w59, w60, w61, w62, w63, w64, w65, w66, w67, w68, w69, w70, w71, w72, w73, w74, w75, w76, w77]))])) := by
  refine zent (cc := cX10_isLimit) (maxL := 2) (ret := (some .boolean)) (by decide) (Nat.le_of_ble_eq_true rfl) ?_
  intro p e s m below meth c A H locs ls hx hb hml hr ht hown hlocks hin hA hK hE hS hW hl
  have hown : s.vm.findClass RX10 = some m.cls := hown
  have hW : zPD D A [(a0, .inr (9, [w2, w3, w4, w5, w6, w7, w8, w9, w10, w11, w12, w13, w14, w15, w16, w17, w18, w19, w20, w21, w22, w23, w24, w25, w26, w27, w28, w29, w30, w31, w32, w33, w34, w35, w36, w37, w38, w39, w40, w41, w42, w43, w44, w45, w46, w47, w48, w49, w50, w51, w52, w53, w54, w55, w56, w57, w58, w59, w60, w61, w62, w63, w64, w65, w66, w67, w68, w69, w70, w71, w72, w73, w74, w75, w76, w77]))] H := hW
  have hl : lv_has ls 2 [(0, .ref a0), (1, .int p1)] := hl
  refine lv_aload_n hx hb dX10_isLimit_0 rfl (lv_at hl 0 rfl) ?_
  refine lv_iload_n hx hb dX10_isLimit_1 rfl (lv_at hl 1 rfl) ?_
  refine lv_iconst (v := 0) hx hb dX10_isLimit_2 (by decide) ?_
  refine lv_ldcw (v := 99999) hx hb hown (ht _ zm_401) dX10_isLimit_3 ?_
  refine zgo_i (wr := []) (zrunV (As := [.int p1, .int 0, .int 99999]) (rest := []) ⟨hx, hb, hml, hown, ht⟩ (zc_X10_in_10 l D y a0 p1 w2 w3 w4 w5 w6 w7 w8 w9 w10 w11 w12 w13 w14 w15 w16 w17 w18 w19 w20 w21 w22 w23 w24 w25 w26 w27 w28 w29 w30 w31 w32 w33 w34 w35 w36 w37 w38 w39 w40 w41 w42 w43 w44 w45 w46 w47 w48 w49 w50 w51 w52 w53 w54 w55 w56 w57 w58 w59 w60 w61 w62 w63 w64 w65 w66 w67 w68 w69 w70 w71 w72 w73 w74 w75 w76 w77) (cwV 3 ht (zgV zm_240 zm_241 zm_242 zm_5 zm_243) rfl rfl rfl (by decide +kernel) ⟨(Nat.le_of_ble_eq_true rfl), (Nat.le_of_ble_eq_true rfl)⟩) hK hE hS hA hW [0] (by decide) rfl 0 rfl rfl rfl rfl hl.1 rfl (Nat.le_of_ble_eq_true rfl) dX10_isLimit_6 (Nat.le_of_ble_eq_true rfl) (Nat.le_of_ble_eq_true rfl)) hS hA hW [0] [] rfl rfl (by decide) (by decide) (fun r1_ u H locs hw hW hS => ?_)
  have hW : zPD D A [(a0, .inr (9, [w2, w3, w4, w5, w6, w7, w8, w9, w10, w11, w12, w13, w14, w15, w16, w17, w18, w19, w20, w21, w22, w23, w24, w25, w26, w27, w28, w29, w30, w31, w32, w33, w34, w35, w36, w37, w38, w39, w40, w41, w42, w43, w44, w45, w46, w47, w48, w49, w50, w51, w52, w53, w54, w55, w56, w57, w58, w59, w60, w61, w62, w63, w64, w65, w66, w67, w68, w69, w70, w71, w72, w73, w74, w75, w76, w77]))] H := hW
  have hw : r1_ = (if p1 < 0 then 0 else (if 99999 < p1 then 0 else 1)) := hw
  by_cases c2_ : p1 < 0
  · have b3_ : (-2147483648) ≤ Int32.toInt p1 ∧ Int32.toInt p1 ≤ (-1) := (by have u0 := zbnd p1; have u1 := (zi_lt _ _).mp c2_; have u2 : (0 : Int32).toInt = 0 := (by decide); omega)
    rw [if_pos c2_] at hw
    subst hw
    exact zret_z (v := 0) hx hb hr hlocks hS () rfl (by show _ = _; rw [if_pos c2_]) hW (Nat.le_of_ble_eq_true rfl) (Nat.le_of_ble_eq_true rfl) dX10_isLimit_9
  · have b4_ : 0 ≤ Int32.toInt p1 ∧ Int32.toInt p1 ≤ 2147483647 := (by have u0 := zbnd p1; have u1 := (not_congr (zi_lt _ _)).mp c2_; have u2 : (0 : Int32).toInt = 0 := (by decide); omega)
    rw [if_neg c2_] at hw
    by_cases c5_ : 99999 < p1
    · have b6_ : 100000 ≤ Int32.toInt p1 ∧ Int32.toInt p1 ≤ 2147483647 := (by have u0 := b4_; have u1 := (zi_lt _ _).mp c5_; have u2 : (99999 : Int32).toInt = 99999 := (by decide); omega)
      rw [if_pos c5_] at hw
      subst hw
      exact zret_z (v := 0) hx hb hr hlocks hS () rfl (by show _ = _; rw [if_neg c2_, if_pos c5_]) hW (Nat.le_of_ble_eq_true rfl) (Nat.le_of_ble_eq_true rfl) dX10_isLimit_9
    · have b7_ : 0 ≤ Int32.toInt p1 ∧ Int32.toInt p1 ≤ 99999 := (by have u0 := b4_; have u1 := (not_congr (zi_lt _ _)).mp c5_; have u2 : (99999 : Int32).toInt = 99999 := (by decide); omega)
      rw [if_neg c5_] at hw
      subst hw
      exact zret_z (v := 1) hx hb hr hlocks hS () rfl (by show _ = _; rw [if_neg c2_, if_neg c5_]) hW (Nat.le_of_ble_eq_true rfl) (Nat.le_of_ble_eq_true rfl) dX10_isLimit_9
set_option maxHeartbeats 8000000 in
set_option maxRecDepth 100000 in
theorem zc_X10_goes_1 (l : Launch) (D : va_G) (y : Nat → ClassId) (a0 : Nat) (w1 : Value) (w2 : Value) (w3 : Value) (w4 : Value) (w5 : Value) (w6 : Value) (w7 : Value) (w8 : Value) (w9 : Value) (w10 : Value) (w11 : Value) (w12 : Value) (w13 : Value) (w14 : Value) (w15 : Value) (w16 : Value) (w17 : Value) (w18 : Value) (w19 : Value) (w20 : Value) (w21 : Value) (w22 : Value) (w23 : Value) (w24 : Value) (w25 : Value) (w26 : Value) (w27 : Value) (w28 : Value) (w29 : Value) (w30 : Value) (w31 : Value) (w32 : Value) (w33 : Value) (w34 : Value) (w35 : Value) (w36 : Value) (w37 : Value) (w38 : Value) (w39 : Value) (w40 : Value) (w41 : Value) (w42 : Value) (w43 : Value) (w44 : Value) (w45 : Value) (w46 : Value) (w47 : Value) (w48 : Value) (w49 : Value) (w50 : Value) (w51 : Value) (w52 : Value) (w53 : Value) (w54 : Value) (w55 : Value) (w56 : Value) (w57 : Value) (w58 : Value) (w59 : Value) (w60 : Value) (w61 : Value) (w62 : Value) (w63 : Value) (w64 : Value) (w65 : Value) (w66 : Value) (w67 : Value) (w68 : Value) (w69 : Value) (w70 : Value) (w71 : Value) (w72 : Value) (w73 : Value) (w74 : Value) : zM l D y yX10_goes (Cond.code yX10_goes cX10_goes 9 (some .int) :: zT) { frames := 0, cells := 0, slots := 0, locals := 0 } [.ref a0, .int 0, .int 0, .int 60] [(a0, .inr (9, [w1, w2, w3, w4, w5, .int 0, .int 0, w6, w7, w8, w9, w10, w11, w12, w13, w14, w15, w16, w17, w18, w19, w20, w21, w22, w23, w24, w25, w26, w27, w28, w29, w30, w31, w32, w33, w34, w35, w36, w37, w38, w39, w40, w41, w42, w43, w44, w45, w46, w47, w48, w49, w50, w51, w52, w53, w54, w55, w56, w57, w58, w59, w60, w61, w62, w63, w64, w65, w66, w67, w68, w69, w70, w71, w72, w73, w74]))] (zQi (S := Unit) D (fun r_ _ => r_ = 60) (fun _ => [(a0, .inr (9, [w1, w2, w3, w4, w5, .int 0, .int 0, w6, w7, w8, w9, w10, w11, w12, w13, w14, w15, w16, w17, w18, w19, w20, w21, w22, w23, w24, w25, w26, w27, w28, w29, w30, w31, w32, w33, w34, w35, w36, w37, w38, w39, w40, w41, w42, w43, w44, w45, w46, w47, w48, w49, w50, w51, w52, w53, w54, w55, w56, w57, w58, w59, w60, w61, w62, w63, w64, w65, w66, w67, w68, w69, w70, w71, w72, w73, w74]))])) := by
  refine zent (cc := cX10_goes) (maxL := 9) (ret := (some .int)) (by decide) (Nat.le_of_ble_eq_true rfl) ?_
  intro p e s m below meth c A H locs ls hx hb hml hr ht hown hlocks hin hA hK hE hS hW hl
  have hown : s.vm.findClass RX10 = some m.cls := hown
  have hW : zPD D A [(a0, .inr (9, [w1, w2, w3, w4, w5, .int 0, .int 0, w6, w7, w8, w9, w10, w11, w12, w13, w14, w15, w16, w17, w18, w19, w20, w21, w22, w23, w24, w25, w26, w27, w28, w29, w30, w31, w32, w33, w34, w35, w36, w37, w38, w39, w40, w41, w42, w43, w44, w45, w46, w47, w48, w49, w50, w51, w52, w53, w54, w55, w56, w57, w58, w59, w60, w61, w62, w63, w64, w65, w66, w67, w68, w69, w70, w71, w72, w73, w74]))] H := hW
  have hl : lv_has ls 9 [(0, .ref a0), (1, .int 0), (2, .int 0), (3, .int 60)] := hl
  refine lv_iload_n hx hb dX10_goes_0 rfl (lv_at hl 3 rfl) ?_
  refine lv_istore (lv' := [(4, .int 60), (0, .ref a0), (1, .int 0), (2, .int 0), (3, .int 60)]) hx hb dX10_goes_1 hl (by decide) rfl (fun ls hl => ?_)
  refine lv_aload_n hx hb dX10_goes_3 rfl (lv_at hl 1 rfl) ?_
  refine zget hx hb ht inlX10 hown hK hW 0 rfl rfl 5 (by decide) zm_145 rfl dX10_goes_4 ?_
  refine lv_istore (lv' := [(5, .int 0), (4, .int 60), (0, .ref a0), (1, .int 0), (2, .int 0), (3, .int 60)]) hx hb dX10_goes_7 hl (by decide) rfl (fun ls hl => ?_)
  refine lv_aload_n hx hb dX10_goes_9 rfl (lv_at hl 2 rfl) ?_
  refine zget hx hb ht inlX10 hown hK hW 0 rfl rfl 6 (by decide) zm_146 rfl dX10_goes_10 ?_
  refine lv_istore (lv' := [(6, .int 0), (5, .int 0), (4, .int 60), (0, .ref a0), (1, .int 0), (2, .int 0), (3, .int 60)]) hx hb dX10_goes_13 hl (by decide) rfl (fun ls hl => ?_)
  refine lv_iload_n hx hb dX10_goes_15 rfl (lv_at hl 4 rfl) ?_
  refine lv_istore (lv' := [(7, .int 0), (6, .int 0), (5, .int 0), (4, .int 60), (0, .ref a0), (1, .int 0), (2, .int 0), (3, .int 60)]) hx hb dX10_goes_16 hl (by decide) rfl (fun ls hl => ?_)
  refine lv_iload hx hb dX10_goes_18 (lv_at hl 0 rfl) ?_
  refine lv_iload_n hx hb dX10_goes_20 rfl (lv_at hl 6 rfl) ?_
  refine lv_icmp_ge (tgt := 101) hx hb dX10_goes_21 (by decide) (fun c1_ => ?_) (fun c1_ => absurd (by decide) c1_)
  refine lv_iload hx hb dX10_goes_101 (lv_at hl 3 rfl) ?_
  exact zret_i (v := 60) hx hb hr hlocks hS () rfl hW (Nat.le_of_ble_eq_true rfl) (Nat.le_of_ble_eq_true rfl) dX10_goes_103
set_option maxHeartbeats 8000000 in
set_option maxRecDepth 100000 in
theorem zc_X10_costOfPath_1 (l : Launch) (D : va_G) (y : Nat → ClassId) (a0 : Nat) (w1 : Value) (w2 : Value) (w3 : Value) (w4 : Value) (w5 : Value) (w6 : Value) (w7 : Value) (w8 : Value) (a9 : Nat) (w10 : Value) (w11 : Value) (w12 : Value) (w13 : Value) (w14 : Value) (w15 : Value) (w16 : Value) (w17 : Value) (w18 : Value) (w19 : Value) (w20 : Value) (w21 : Value) (w22 : Value) (w23 : Value) (w24 : Value) (w25 : Value) (w26 : Value) (w27 : Value) (w28 : Value) (a29 : Nat) (w30 : Value) (w31 : Value) (w32 : Value) (w33 : Value) (w34 : Value) (w35 : Value) (w36 : Value) (w37 : Value) (w38 : Value) (w39 : Value) (w40 : Value) (w41 : Value) (w42 : Value) (w43 : Value) (w44 : Value) (w45 : Value) (w46 : Value) (w47 : Value) (w48 : Value) (w49 : Value) (w50 : Value) (w51 : Value) (w52 : Value) (w53 : Value) (w54 : Value) (w55 : Value) (w56 : Value) (w57 : Value) (w58 : Value) (w59 : Value) (w60 : Value) (w61 : Value) (w62 : Value) (w63 : Value) (w64 : Value) (w65 : Value) (w66 : Value) (w67 : Value) (w68 : Value) (w69 : Value) : zM l D y yX10_costOfPath (Cond.code yX10_costOfPath cX10_costOfPath 3 (some .int) :: zT) { frames := 5, cells := 0, slots := 0, locals := 108 } [.ref a0, .int 60] [(a0, .inr (9, [.int 0, .int 0, w1, .int 20, w2, .int 0, .int 0, w3, w4, w5, w6, w7, w8, .ref a9, w10, .int (-1), w11, w12, w13, w14, w15, w16, w17, w18, w19, w20, w21, w22, w23, w24, w25, w26, w27, w28, .ref a29, .int 0, w30, w31, w32, w33, w34, w35, w36, w37, w38, w39, w40, w41, w42, w43, w44, w45, w46, w47, w48, w49, w50, w51, w52, w53, w54, w55, w56, w57, w58, w59, w60, w61, w62, w63, w64, w65, w66, w67, w68, w69])), (a9, .inl (y 2, 7, .inl (fun _ => 0))), (a29, .inl (y 0, 7, .inl (fun _ => 0)))] (zQi (S := Unit) D (fun r_ _ => r_ = 0) (fun _ => [(a0, .inr (9, [.int 0, .int 0, w1, .int 20, w2, .int 0, .int 0, w3, w4, w5, w6, w7, w8, .ref a9, w10, .int (-1), w11, w12, w13, w14, w15, w16, w17, w18, w19, w20, w21, w22, w23, w24, w25, w26, w27, w28, .ref a29, .int 0, w30, w31, w32, w33, w34, w35, w36, w37, w38, w39, w40, w41, w42, w43, w44, w45, w46, w47, w48, w49, w50, w51, w52, w53, w54, w55, w56, w57, w58, w59, w60, w61, w62, w63, w64, w65, w66, w67, w68, w69])), (a9, .inl (y 2, 7, .inl (fun _ => 0))), (a29, .inl (y 0, 7, .inl (upd (upd (upd (upd (upd (upd (upd (fun _ => 0) 0 99999) 1 99999) 2 99999) 3 99999) 4 99999) 5 99999) 6 99999)))])) := by
  refine zent (cc := cX10_costOfPath) (maxL := 3) (ret := (some .int)) (by decide) (Nat.le_of_ble_eq_true rfl) ?_
  intro p e s m below meth c A H locs ls hx hb hml hr ht hown hlocks hin hA hK hE hS hW hl
  have hown : s.vm.findClass RX10 = some m.cls := hown
  have hW : zPD D A [(a0, .inr (9, [.int 0, .int 0, w1, .int 20, w2, .int 0, .int 0, w3, w4, w5, w6, w7, w8, .ref a9, w10, .int (-1), w11, w12, w13, w14, w15, w16, w17, w18, w19, w20, w21, w22, w23, w24, w25, w26, w27, w28, .ref a29, .int 0, w30, w31, w32, w33, w34, w35, w36, w37, w38, w39, w40, w41, w42, w43, w44, w45, w46, w47, w48, w49, w50, w51, w52, w53, w54, w55, w56, w57, w58, w59, w60, w61, w62, w63, w64, w65, w66, w67, w68, w69])), (a9, .inl (y 2, 7, .inl (fun _ => 0))), (a29, .inl (y 0, 7, .inl (fun _ => 0)))] H := hW
  have hl : lv_has ls 3 [(0, .ref a0), (1, .int 60)] := hl
  refine lv_aload_n hx hb dX10_costOfPath_0 rfl (lv_at hl 0 rfl) ?_
  refine zgo_v (wr := []) (zrunV (As := []) (rest := []) ⟨hx, hb, hml, hown, ht⟩ (zc_X10_layOpen_0 l D y a0 (.int 0) (.int 0) w1 (.int 20) w2 (.int 0) (.int 0) w3 w4 w5 w6 w7 w8 a9 w10 (.int (-1)) w11 w12 w13 w14 w15 w16 w17 w18 w19 w20 w21 w22 w23 w24 w25 w26 w27 w28 a29 (.int 0) w30 w31 w32 w33 w34 w35 w36 w37 w38 w39 w40 w41 w42 w43 w44 w45 w46 w47 w48 w49 w50 w51 w52 w53 w54 w55 w56 w57 w58 w59 w60 w61 w62 w63 w64 w65 w66 w67 w68 w69) (cwV 0 ht (zgV zm_397 zm_398 zm_399 zm_5 zm_400) rfl rfl rfl (by decide +kernel) ⟨(Nat.le_of_ble_eq_true rfl), (Nat.le_of_ble_eq_true rfl)⟩) hK hE hS hA hW [0, 1, 2] (by decide) rfl 0 rfl rfl rfl rfl hl.1 rfl (Nat.le_of_ble_eq_true rfl) dX10_costOfPath_1 (Nat.le_of_ble_eq_true rfl) (Nat.le_of_ble_eq_true rfl)) hS hA hW [0, 1, 2] [] rfl rfl (by decide) (by decide) (fun u H locs hw hW hS => ?_)
  have hW : zPD D A [(a0, .inr (9, [.int 0, .int 0, w1, .int 20, w2, .int 0, .int 0, w3, w4, w5, w6, w7, w8, .ref a9, w10, .int (-1), w11, w12, w13, w14, w15, w16, w17, w18, w19, w20, w21, w22, w23, w24, w25, w26, w27, w28, .ref a29, .int 0, w30, w31, w32, w33, w34, w35, w36, w37, w38, w39, w40, w41, w42, w43, w44, w45, w46, w47, w48, w49, w50, w51, w52, w53, w54, w55, w56, w57, w58, w59, w60, w61, w62, w63, w64, w65, w66, w67, w68, w69])), (a9, .inl (y 2, 7, .inl (fun _ => 0))), (a29, .inl (y 0, 7, .inl (upd (upd (upd (upd (upd (upd (upd (fun _ => 0) 0 99999) 1 99999) 2 99999) 3 99999) 4 99999) 5 99999) 6 99999)))] H := hW
  refine lv_aload_n hx hb dX10_costOfPath_4 rfl (lv_at hl 0 rfl) ?_
  refine lv_iconst (v := 0) hx hb dX10_costOfPath_5 (by decide) ?_
  refine lv_aload_n hx hb dX10_costOfPath_6 rfl (lv_at hl 0 rfl) ?_
  refine zget hx hb ht inlX10 hown hK hW 0 rfl rfl 35 (by decide) zm_175 rfl dX10_costOfPath_7 ?_
  refine lv_aload_n hx hb dX10_costOfPath_10 rfl (lv_at hl 0 rfl) ?_
  refine zget hx hb ht inlX10 hown hK hW 0 rfl rfl 1 (by decide) zm_141 rfl dX10_costOfPath_11 ?_
  refine lv_iload_n hx hb dX10_costOfPath_14 rfl (lv_at hl 1 rfl) ?_
  refine lv_iadd hx hb dX10_costOfPath_15 ?_
  refine ztop (w := .int 60) (congrArg Value.int (by decide)) ?_
  refine zgo_i (wr := [(a9, .inl (y 2, 7, .inl (fun _ => 0))), (a29, .inl (y 0, 7, .inl (upd (upd (upd (upd (upd (upd (upd (fun _ => 0) 0 99999) 1 99999) 2 99999) 3 99999) 4 99999) 5 99999) 6 99999)))]) (zrunV (As := [.int 0, .int 0, .int 60]) (rest := []) ⟨hx, hb, hml, hown, ht⟩ (zc_X10_goes_1 l D y a0 (.int 0) (.int 0) w1 (.int 20) w2 w3 w4 w5 w6 w7 w8 (.ref a9) w10 (.int (-1)) w11 w12 w13 w14 w15 w16 w17 w18 w19 w20 w21 w22 w23 w24 w25 w26 w27 w28 (.ref a29) (.int 0) w30 w31 w32 w33 w34 w35 w36 w37 w38 w39 w40 w41 w42 w43 w44 w45 w46 w47 w48 w49 w50 w51 w52 w53 w54 w55 w56 w57 w58 w59 w60 w61 w62 w63 w64 w65 w66 w67 w68 w69) (cwV 3 ht (zgV zm_852 zm_853 zm_854 zm_5 zm_855) rfl rfl rfl (by decide +kernel) ⟨(Nat.le_of_ble_eq_true rfl), (Nat.le_of_ble_eq_true rfl)⟩) hK hE hS hA hW [0] (by decide) rfl 0 rfl rfl rfl rfl hl.1 rfl (Nat.le_of_ble_eq_true rfl) dX10_costOfPath_16 (Nat.le_of_ble_eq_true rfl) (Nat.le_of_ble_eq_true rfl)) hS hA hW [0] [1, 2] rfl rfl (by decide) (by decide) (fun r2_ u H locs hw hW hS => ?_)
  have hW : zPD D A [(a9, .inl (y 2, 7, .inl (fun _ => 0))), (a29, .inl (y 0, 7, .inl (upd (upd (upd (upd (upd (upd (upd (fun _ => 0) 0 99999) 1 99999) 2 99999) 3 99999) 4 99999) 5 99999) 6 99999))), (a0, .inr (9, [.int 0, .int 0, w1, .int 20, w2, .int 0, .int 0, w3, w4, w5, w6, w7, w8, .ref a9, w10, .int (-1), w11, w12, w13, w14, w15, w16, w17, w18, w19, w20, w21, w22, w23, w24, w25, w26, w27, w28, .ref a29, .int 0, w30, w31, w32, w33, w34, w35, w36, w37, w38, w39, w40, w41, w42, w43, w44, w45, w46, w47, w48, w49, w50, w51, w52, w53, w54, w55, w56, w57, w58, w59, w60, w61, w62, w63, w64, w65, w66, w67, w68, w69]))] H := hW
  have hw : r2_ = 60 := hw
  subst hw
  refine lv_istore_n (lv' := [(2, .int 60), (0, .ref a0), (1, .int 60)]) hx hb dX10_costOfPath_19 rfl hl (by decide) rfl (fun ls hl => ?_)
  refine lv_aload_n hx hb dX10_costOfPath_20 rfl (lv_at hl 1 rfl) ?_
  refine zgo_i (wr := [(a9, .inl (y 2, 7, .inl (fun _ => 0))), (a29, .inl (y 0, 7, .inl (upd (upd (upd (upd (upd (upd (upd (fun _ => 0) 0 99999) 1 99999) 2 99999) 3 99999) 4 99999) 5 99999) 6 99999)))]) (zrunV (As := []) (rest := []) ⟨hx, hb, hml, hown, ht⟩ (zc_X10_harmTillEnd_0 l D y a0 w1 w2 (.int 0) (.int 0) w3 w4 w5 w6 w7 w8 (.ref a9) w10 w11 w12 w13 w14 w15 w16 w17 w18 w19 w20 w21 w22 w23 w24 w25 w26 w27 w28 (.ref a29) (.int 0) w30 w31 w32 w33 w34 w35 w36 w37 w38 w39 w40 w41 w42 w43 w44 w45 w46 w47 w48 w49 w50 w51 w52 w53 w54 w55 w56 w57 w58 w59 w60 w61 w62 w63 w64 w65 w66 w67 w68 w69) (cwV 0 ht (zgV zm_856 zm_857 zm_858 zm_5 zm_859) rfl rfl rfl (by decide +kernel) ⟨(Nat.le_of_ble_eq_true rfl), (Nat.le_of_ble_eq_true rfl)⟩) hK hE hS hA hW [2] (by decide) rfl 0 rfl rfl rfl rfl hl.1 rfl (Nat.le_of_ble_eq_true rfl) dX10_costOfPath_21 (Nat.le_of_ble_eq_true rfl) (Nat.le_of_ble_eq_true rfl)) hS hA hW [2] [0, 1] rfl rfl (by decide) (by decide) (fun r3_ u H locs hw hW hS => ?_)
  have hW : zPD D A [(a9, .inl (y 2, 7, .inl (fun _ => 0))), (a29, .inl (y 0, 7, .inl (upd (upd (upd (upd (upd (upd (upd (fun _ => 0) 0 99999) 1 99999) 2 99999) 3 99999) 4 99999) 5 99999) 6 99999))), (a0, .inr (9, [.int 0, .int 0, w1, .int 20, w2, .int 0, .int 0, w3, w4, w5, w6, w7, w8, .ref a9, w10, .int (-1), w11, w12, w13, w14, w15, w16, w17, w18, w19, w20, w21, w22, w23, w24, w25, w26, w27, w28, .ref a29, .int 0, w30, w31, w32, w33, w34, w35, w36, w37, w38, w39, w40, w41, w42, w43, w44, w45, w46, w47, w48, w49, w50, w51, w52, w53, w54, w55, w56, w57, w58, w59, w60, w61, w62, w63, w64, w65, w66, w67, w68, w69]))] H := hW
  have hw : r3_ = 0 := hw
  subst hw
  exact zret_i (v := 0) hx hb hr hlocks hS () rfl (hW.sub [2, 0, 1] (by decide) rfl) (Nat.le_of_ble_eq_true rfl) (Nat.le_of_ble_eq_true rfl) dX10_costOfPath_24
set_option maxHeartbeats 8000000 in
set_option maxRecDepth 100000 in
theorem zc_X10_late_0 (l : Launch) (D : va_G) (y : Nat → ClassId) (a0 : Nat) (p1 : Int32) (w2 : Value) (w3 : Value) (w4 : Value) (w5 : Value) (w6 : Value) (w7 : Value) (w8 : Value) (w9 : Value) (a10 : Nat) (w11 : Value) (w12 : Value) (w13 : Value) (w14 : Value) (w15 : Value) (w16 : Value) (w17 : Value) (w18 : Value) (w19 : Value) (w20 : Value) (w21 : Value) (w22 : Value) (w23 : Value) (w24 : Value) (w25 : Value) (w26 : Value) (w27 : Value) (w28 : Value) (a29 : Nat) (a30 : Nat) (a31 : Nat) (w32 : Value) (w33 : Value) (w34 : Value) (w35 : Value) (w36 : Value) (w37 : Value) (w38 : Value) (w39 : Value) (w40 : Value) (w41 : Value) (w42 : Value) (w43 : Value) (w44 : Value) (w45 : Value) (w46 : Value) (w47 : Value) (w48 : Value) (w49 : Value) (w50 : Value) (w51 : Value) (w52 : Value) (w53 : Value) (w54 : Value) (w55 : Value) (w56 : Value) (w57 : Value) (w58 : Value) (w59 : Value) (w60 : Value) (w61 : Value) (w62 : Value) (w63 : Value) (w64 : Value) (w65 : Value) (w66 : Value) (w67 : Value) (w68 : Value) : zM l D y yX10_late (Cond.code yX10_late cX10_late 3 (some .int) :: zT) { frames := 6, cells := 0, slots := 0, locals := 130 } [.ref a0, .int p1] [(a0, .inr (9, [.int 0, .int 0, w2, .int 20, w3, .int 0, .int 0, w4, w5, w6, w7, w8, w9, .ref a10, w11, .int (-1), w12, w13, w14, w15, w16, w17, w18, w19, w20, w21, w22, w23, w24, w25, w26, w27, .int 0, w28, .ref a29, .int 0, .ref a30, .int 0, .ref a31, w32, w33, w34, w35, w36, w37, w38, w39, w40, w41, w42, w43, w44, w45, w46, w47, w48, w49, w50, w51, w52, w53, w54, w55, w56, w57, w58, w59, w60, w61, w62, w63, w64, w65, w66, w67, w68])), (a10, .inl (y 2, 7, .inl (fun _ => 0))), (a29, .inl (y 0, 7, .inl (fun _ => 0))), (a30, .inl (y 0, 7, .inl (fun _ => 0))), (a31, .inl (y 0, 7, .inl (fun _ => 0)))] (zQi (S := Unit) D (fun r_ _ => r_ = (if p1 < 0 then (-2) else (if 99999 < p1 then (-2) else 60))) (fun _ => [])) := by
  refine zent (cc := cX10_late) (maxL := 3) (ret := (some .int)) (by decide) (Nat.le_of_ble_eq_true rfl) ?_
  intro p e s m below meth c A H locs ls hx hb hml hr ht hown hlocks hin hA hK hE hS hW hl
  have hown : s.vm.findClass RX10 = some m.cls := hown
  have hW : zPD D A [(a0, .inr (9, [.int 0, .int 0, w2, .int 20, w3, .int 0, .int 0, w4, w5, w6, w7, w8, w9, .ref a10, w11, .int (-1), w12, w13, w14, w15, w16, w17, w18, w19, w20, w21, w22, w23, w24, w25, w26, w27, .int 0, w28, .ref a29, .int 0, .ref a30, .int 0, .ref a31, w32, w33, w34, w35, w36, w37, w38, w39, w40, w41, w42, w43, w44, w45, w46, w47, w48, w49, w50, w51, w52, w53, w54, w55, w56, w57, w58, w59, w60, w61, w62, w63, w64, w65, w66, w67, w68])), (a10, .inl (y 2, 7, .inl (fun _ => 0))), (a29, .inl (y 0, 7, .inl (fun _ => 0))), (a30, .inl (y 0, 7, .inl (fun _ => 0))), (a31, .inl (y 0, 7, .inl (fun _ => 0)))] H := hW
  have hl : lv_has ls 3 [(0, .ref a0), (1, .int p1)] := hl
  refine lv_aload_n hx hb dX10_late_0 rfl (lv_at hl 0 rfl) ?_
  refine lv_iload_n hx hb dX10_late_1 rfl (lv_at hl 1 rfl) ?_
  refine zgo_i (wr := [(a10, .inl (y 2, 7, .inl (fun _ => 0))), (a29, .inl (y 0, 7, .inl (fun _ => 0))), (a30, .inl (y 0, 7, .inl (fun _ => 0))), (a31, .inl (y 0, 7, .inl (fun _ => 0)))]) (zrunV (As := [.int p1]) (rest := []) ⟨hx, hb, hml, hown, ht⟩ (zc_X10_isLimit_0 l D y a0 p1 (.int 0) (.int 0) w2 (.int 20) w3 (.int 0) (.int 0) w4 w5 w6 w7 w8 w9 (.ref a10) w11 (.int (-1)) w12 w13 w14 w15 w16 w17 w18 w19 w20 w21 w22 w23 w24 w25 w26 w27 (.int 0) w28 (.ref a29) (.int 0) (.ref a30) (.int 0) (.ref a31) w32 w33 w34 w35 w36 w37 w38 w39 w40 w41 w42 w43 w44 w45 w46 w47 w48 w49 w50 w51 w52 w53 w54 w55 w56 w57 w58 w59 w60 w61 w62 w63 w64 w65 w66 w67 w68) (cwV 1 ht (zgV zm_937 zm_938 zm_939 zm_5 zm_940) rfl rfl rfl (by decide +kernel) ⟨(Nat.le_of_ble_eq_true rfl), (Nat.le_of_ble_eq_true rfl)⟩) hK hE hS hA hW [0] (by decide) rfl 0 rfl rfl rfl rfl hl.1 rfl (Nat.le_of_ble_eq_true rfl) dX10_late_2 (Nat.le_of_ble_eq_true rfl) (Nat.le_of_ble_eq_true rfl)) hS hA hW [0] [1, 2, 3, 4] rfl rfl (by decide) (by decide) (fun r1_ u H locs hw hW hS => ?_)
  have hW : zPD D A [(a10, .inl (y 2, 7, .inl (fun _ => 0))), (a29, .inl (y 0, 7, .inl (fun _ => 0))), (a30, .inl (y 0, 7, .inl (fun _ => 0))), (a31, .inl (y 0, 7, .inl (fun _ => 0))), (a0, .inr (9, [.int 0, .int 0, w2, .int 20, w3, .int 0, .int 0, w4, w5, w6, w7, w8, w9, .ref a10, w11, .int (-1), w12, w13, w14, w15, w16, w17, w18, w19, w20, w21, w22, w23, w24, w25, w26, w27, .int 0, w28, .ref a29, .int 0, .ref a30, .int 0, .ref a31, w32, w33, w34, w35, w36, w37, w38, w39, w40, w41, w42, w43, w44, w45, w46, w47, w48, w49, w50, w51, w52, w53, w54, w55, w56, w57, w58, w59, w60, w61, w62, w63, w64, w65, w66, w67, w68]))] H := hW
  have hw : r1_ = (if p1 < 0 then 0 else (if 99999 < p1 then 0 else 1)) := hw
  by_cases c2_ : p1 < 0
  · have b3_ : (-2147483648) ≤ Int32.toInt p1 ∧ Int32.toInt p1 ≤ (-1) := (by have u0 := zbnd p1; have u1 := (zi_lt _ _).mp c2_; have u2 : (0 : Int32).toInt = 0 := (by decide); omega)
    rw [if_pos c2_] at hw
    subst hw
    refine lv_if_ne (tgt := 11) hx hb dX10_late_5 (by decide) (fun c4_ => absurd (by decide) c4_) (fun c4_ => ?_)
    refine lv_bipush (v := (-2)) hx hb dX10_late_8 (by decide) ?_
    exact zret_i (v := (-2)) hx hb hr hlocks hS () (by show _ = _; rw [if_pos c2_]) (hW.sub [] (by decide) rfl) (Nat.le_of_ble_eq_true rfl) (Nat.le_of_ble_eq_true rfl) dX10_late_10
  · have b5_ : 0 ≤ Int32.toInt p1 ∧ Int32.toInt p1 ≤ 2147483647 := (by have u0 := zbnd p1; have u1 := (not_congr (zi_lt _ _)).mp c2_; have u2 : (0 : Int32).toInt = 0 := (by decide); omega)
    rw [if_neg c2_] at hw
    by_cases c6_ : 99999 < p1
    · have b7_ : 100000 ≤ Int32.toInt p1 ∧ Int32.toInt p1 ≤ 2147483647 := (by have u0 := b5_; have u1 := (zi_lt _ _).mp c6_; have u2 : (99999 : Int32).toInt = 99999 := (by decide); omega)
      rw [if_pos c6_] at hw
      subst hw
      refine lv_if_ne (tgt := 11) hx hb dX10_late_5 (by decide) (fun c8_ => absurd (by decide) c8_) (fun c8_ => ?_)
      refine lv_bipush (v := (-2)) hx hb dX10_late_8 (by decide) ?_
      exact zret_i (v := (-2)) hx hb hr hlocks hS () (by show _ = _; rw [if_neg c2_, if_pos c6_]) (hW.sub [] (by decide) rfl) (Nat.le_of_ble_eq_true rfl) (Nat.le_of_ble_eq_true rfl) dX10_late_10
    · have b9_ : 0 ≤ Int32.toInt p1 ∧ Int32.toInt p1 ≤ 99999 := (by have u0 := b5_; have u1 := (not_congr (zi_lt _ _)).mp c6_; have u2 : (99999 : Int32).toInt = 99999 := (by decide); omega)
      rw [if_neg c6_] at hw
      subst hw
      refine lv_if_ne (tgt := 11) hx hb dX10_late_5 (by decide) (fun c10_ => ?_) (fun c10_ => absurd c10_ (by decide))
      refine lv_aload_n hx hb dX10_late_11 rfl (lv_at hl 0 rfl) ?_
      refine zgo_v (wr := [(a10, .inl (y 2, 7, .inl (fun _ => 0))), (a29, .inl (y 0, 7, .inl (fun _ => 0))), (a30, .inl (y 0, 7, .inl (fun _ => 0))), (a31, .inl (y 0, 7, .inl (fun _ => 0)))]) (zrunV (As := []) (rest := []) ⟨hx, hb, hml, hown, ht⟩ (zc_X10_layRain_0 l D y a0 (.int 0) w2 (.int 20) w3 (.int 0) (.int 0) w4 w5 w6 w7 w8 w9 (.ref a10) w11 w12 w13 w14 w15 w16 w17 w18 w19 w20 w21 w22 w23 w24 w25 w26 w27 w28 (.ref a29) (.int 0) (.ref a30) (.int 0) (.ref a31) w32 w33 w34 w35 w36 w37 w38 w39 w40 w41 w42 w43 w44 w45 w46 w47 w48 w49 w50 w51 w52 w53 w54 w55 w56 w57 w58 w59 w60 w61 w62 w63 w64 w65 w66 w67 w68) (cwV 0 ht (zgV zm_377 zm_378 zm_379 zm_5 zm_380) rfl rfl rfl (by decide +kernel) ⟨(Nat.le_of_ble_eq_true rfl), (Nat.le_of_ble_eq_true rfl)⟩) hK hE hS hA hW [4] (by decide) rfl 0 rfl rfl rfl rfl hl.1 rfl (Nat.le_of_ble_eq_true rfl) dX10_late_12 (Nat.le_of_ble_eq_true rfl) (Nat.le_of_ble_eq_true rfl)) hS hA hW [4] [0, 1, 2, 3] rfl rfl (by decide) (by decide) (fun u H locs hw hW hS => ?_)
      have hW : zPD D A [(a10, .inl (y 2, 7, .inl (fun _ => 0))), (a29, .inl (y 0, 7, .inl (fun _ => 0))), (a30, .inl (y 0, 7, .inl (fun _ => 0))), (a31, .inl (y 0, 7, .inl (fun _ => 0))), (a0, .inr (9, [.int 0, .int 0, w2, .int 20, w3, .int 0, .int 0, w4, w5, w6, w7, w8, w9, .ref a10, w11, .int (-1), w12, w13, w14, w15, w16, w17, w18, w19, w20, w21, w22, w23, w24, w25, w26, w27, .int 0, w28, .ref a29, .int 0, .ref a30, .int 0, .ref a31, w32, w33, w34, w35, w36, w37, w38, w39, w40, w41, w42, w43, w44, w45, w46, w47, w48, w49, w50, w51, w52, w53, w54, w55, w56, w57, w58, w59, w60, w61, w62, w63, w64, w65, w66, w67, w68]))] H := hW
      refine lv_aload_n hx hb dX10_late_15 rfl (lv_at hl 0 rfl) ?_
      refine zgo_v (wr := [(a10, .inl (y 2, 7, .inl (fun _ => 0))), (a29, .inl (y 0, 7, .inl (fun _ => 0)))]) (zrunV (As := []) (rest := []) ⟨hx, hb, hml, hown, ht⟩ (zc_X10_layRound_0 l D y a0 (.int 0) (.int 0) w2 (.int 20) w3 (.int 0) (.int 0) w4 w5 w6 w7 w8 w9 (.ref a10) w11 (.int (-1)) w12 w13 w14 w15 w16 w17 w18 w19 w20 w21 w22 w23 w24 w25 w26 w27 (.int 0) w28 (.ref a29) a30 a31 w32 w33 w34 w35 w36 w37 w38 w39 w40 w41 w42 w43 w44 w45 w46 w47 w48 w49 w50 w51 w52 w53 w54 w55 w56 w57 w58 w59 w60 w61 w62 w63 w64 w65 w66 w67 w68) (cwV 0 ht (zgV zm_844 zm_845 zm_846 zm_5 zm_847) rfl rfl rfl (by decide +kernel) ⟨(Nat.le_of_ble_eq_true rfl), (Nat.le_of_ble_eq_true rfl)⟩) hK hE hS hA hW [4, 2, 3] (by decide) rfl 0 rfl rfl rfl rfl hl.1 rfl (Nat.le_of_ble_eq_true rfl) dX10_late_16 (Nat.le_of_ble_eq_true rfl) (Nat.le_of_ble_eq_true rfl)) hS hA hW [4, 2, 3] [0, 1] rfl rfl (by decide) (by decide) (fun u H locs hw hW hS => ?_)
      have hW : zPD D A [(a10, .inl (y 2, 7, .inl (fun _ => 0))), (a29, .inl (y 0, 7, .inl (fun _ => 0))), (a0, .inr (9, [.int 0, .int 0, w2, .int 20, w3, .int 0, .int 0, w4, w5, w6, w7, w8, w9, .ref a10, w11, .int (-1), w12, w13, w14, w15, w16, w17, w18, w19, w20, w21, w22, w23, w24, w25, w26, w27, .int 0, w28, .ref a29, .int 0, .ref a30, .int 0, .ref a31, w32, w33, w34, w35, w36, w37, w38, w39, w40, w41, w42, w43, w44, w45, w46, w47, w48, w49, w50, w51, w52, w53, w54, w55, w56, w57, w58, w59, w60, w61, w62, w63, w64, w65, w66, w67, w68])), (a30, .inl (y 0, 7, .inl (fun _ => 0))), (a31, .inl (y 0, 7, .inl (fun _ => 0)))] H := hW
      refine lv_bipush (v := 60) hx hb dX10_late_19 (by decide) ?_
      refine lv_istore_n (lv' := [(2, .int 60), (0, .ref a0), (1, .int p1)]) hx hb dX10_late_21 rfl hl (by decide) rfl (fun ls hl => ?_)
      refine lv_iload_n hx hb dX10_late_22 rfl (lv_at hl 0 rfl) ?_
      refine lv_if_lt (tgt := 43) hx hb dX10_late_23 (by decide) (fun c13_ => absurd c13_ (by decide)) (fun c13_ => ?_)
      refine lv_aload_n hx hb dX10_late_26 rfl (lv_at hl 1 rfl) ?_
      refine lv_iload_n hx hb dX10_late_27 rfl (lv_at hl 0 rfl) ?_
      refine zgo_i (wr := [(a30, .inl (y 0, 7, .inl (fun _ => 0))), (a31, .inl (y 0, 7, .inl (fun _ => 0)))]) (zrunV (As := [.int 60]) (rest := []) ⟨hx, hb, hml, hown, ht⟩ (zc_X10_costOfPath_1 l D y a0 w2 w3 w4 w5 w6 w7 w8 w9 a10 w11 w12 w13 w14 w15 w16 w17 w18 w19 w20 w21 w22 w23 w24 w25 w26 w27 (.int 0) w28 a29 (.ref a30) (.int 0) (.ref a31) w32 w33 w34 w35 w36 w37 w38 w39 w40 w41 w42 w43 w44 w45 w46 w47 w48 w49 w50 w51 w52 w53 w54 w55 w56 w57 w58 w59 w60 w61 w62 w63 w64 w65 w66 w67 w68) (cwV 1 ht (zgV zm_848 zm_849 zm_850 zm_5 zm_851) rfl rfl rfl (by decide +kernel) ⟨(Nat.le_of_ble_eq_true rfl), (Nat.le_of_ble_eq_true rfl)⟩) hK hE hS hA hW [2, 0, 1] (by decide) rfl 0 rfl rfl rfl rfl hl.1 rfl (Nat.le_of_ble_eq_true rfl) dX10_late_28 (Nat.le_of_ble_eq_true rfl) (Nat.le_of_ble_eq_true rfl)) hS hA hW [2, 0, 1] [3, 4] rfl rfl (by decide) (by decide) (fun r14_ u H locs hw hW hS => ?_)
      have hW : zPD D A [(a30, .inl (y 0, 7, .inl (fun _ => 0))), (a31, .inl (y 0, 7, .inl (fun _ => 0))), (a0, .inr (9, [.int 0, .int 0, w2, .int 20, w3, .int 0, .int 0, w4, w5, w6, w7, w8, w9, .ref a10, w11, .int (-1), w12, w13, w14, w15, w16, w17, w18, w19, w20, w21, w22, w23, w24, w25, w26, w27, .int 0, w28, .ref a29, .int 0, .ref a30, .int 0, .ref a31, w32, w33, w34, w35, w36, w37, w38, w39, w40, w41, w42, w43, w44, w45, w46, w47, w48, w49, w50, w51, w52, w53, w54, w55, w56, w57, w58, w59, w60, w61, w62, w63, w64, w65, w66, w67, w68])), (a10, .inl (y 2, 7, .inl (fun _ => 0))), (a29, .inl (y 0, 7, .inl (upd (upd (upd (upd (upd (upd (upd (fun _ => 0) 0 99999) 1 99999) 2 99999) 3 99999) 4 99999) 5 99999) 6 99999)))] H := hW
      have hw : r14_ = 0 := hw
      subst hw
      refine lv_iload_n hx hb dX10_late_31 rfl (lv_at hl 2 rfl) ?_
      refine lv_icmp_gt (tgt := 37) hx hb dX10_late_32 (by decide) (fun c15_ => absurd c15_ c2_) (fun c15_ => ?_)
      refine lv_iload_n hx hb dX10_late_35 rfl (lv_at hl 0 rfl) ?_
      exact zret_i (v := 60) hx hb hr hlocks hS () (by show _ = _; rw [if_neg c2_, if_neg c6_]) (hW.sub [] (by decide) rfl) (Nat.le_of_ble_eq_true rfl) (Nat.le_of_ble_eq_true rfl) dX10_late_36
set_option maxHeartbeats 8000000 in
set_option maxRecDepth 100000 in
theorem zc_X1_costOfRound_1 (l : Launch) (D : va_G) (y : Nat → ClassId) (a0 : Nat) (a1 : Nat) (w2 : Value) (w3 : Value) (w4 : Value) (w5 : Value) (w6 : Value) (w7 : Value) (w8 : Value) (w9 : Value) (w10 : Value) (w11 : Value) (w12 : Value) (a13 : Nat) (a14 : Nat) (w15 : Value) (w16 : Value) (w17 : Value) (w18 : Value) (w19 : Value) (w20 : Value) (w21 : Value) (w22 : Value) (w23 : Value) (w24 : Value) (w25 : Value) : zM l D y yX1_costOfRound (Cond.code yX1_costOfRound cX1_costOfRound 2 (some .int) :: zT) { frames := 2, cells := 0, slots := 0, locals := 50 } [.ref a0, .int 0] [(a0, .inr (1, [.ref a1, w2, .int 20, w3, w4, w5, w6, w7, w8])), (a1, .inr (6, [w9, .int 0, w10, w11, .int 0, w12, .int 0, .int 0, .ref a13, .ref a14, w15, w16])), (a13, .inr (2, [w17, .int 15, w18, w19, w20, w21, w22, w23])), (a14, .inr (5, [.int 0, w24, w25]))] (zQi (S := Unit) D (fun r_ _ => r_ = 0) (fun _ => [(a0, .inr (1, [.ref a1, w2, .int 20, w3, w4, w5, w6, w7, w8])), (a1, .inr (6, [w9, .int 0, w10, w11, .int 0, w12, .int 0, .int 0, .ref a13, .ref a14, w15, w16])), (a13, .inr (2, [w17, .int 15, w18, w19, w20, w21, w22, w23])), (a14, .inr (5, [.int 0, w24, w25]))])) := by
  refine zent (cc := cX1_costOfRound) (maxL := 2) (ret := (some .int)) (by decide) (Nat.le_of_ble_eq_true rfl) ?_
  intro p e s m below meth c A H locs ls hx hb hml hr ht hown hlocks hin hA hK hE hS hW hl
  have hown : s.vm.findClass RX1 = some m.cls := hown
  have hW : zPD D A [(a0, .inr (1, [.ref a1, w2, .int 20, w3, w4, w5, w6, w7, w8])), (a1, .inr (6, [w9, .int 0, w10, w11, .int 0, w12, .int 0, .int 0, .ref a13, .ref a14, w15, w16])), (a13, .inr (2, [w17, .int 15, w18, w19, w20, w21, w22, w23])), (a14, .inr (5, [.int 0, w24, w25]))] H := hW
  have hl : lv_has ls 2 [(0, .ref a0), (1, .int 0)] := hl
  refine lv_aload_n hx hb dX1_costOfRound_0 rfl (lv_at hl 0 rfl) ?_
  refine zgo_v (wr := [(a13, .inr (2, [w17, .int 15, w18, w19, w20, w21, w22, w23])), (a14, .inr (5, [.int 0, w24, w25]))]) (zrunV (As := []) (rest := []) ⟨hx, hb, hml, hown, ht⟩ (zc_X1_nobodyShuts_0 l D y a0 a1 w2 (.int 20) w3 w4 w5 w6 w7 w8 w9 w10 w11 (.int 0) w12 (.int 0) (.int 0) (.ref a13) (.ref a14) w15 w16) (cwV 0 ht (zgV zm_325 zm_326 zm_327 zm_28 zm_328) rfl rfl rfl (by decide +kernel) ⟨(Nat.le_of_ble_eq_true rfl), (Nat.le_of_ble_eq_true rfl)⟩) hK hE hS hA hW [0, 1] (by decide) rfl 0 rfl rfl rfl rfl hl.1 rfl (Nat.le_of_ble_eq_true rfl) dX1_costOfRound_1 (Nat.le_of_ble_eq_true rfl) (Nat.le_of_ble_eq_true rfl)) hS hA hW [0, 1] [2, 3] rfl rfl (by decide) (by decide) (fun u H locs hw hW hS => ?_)
  have hW : zPD D A [(a13, .inr (2, [w17, .int 15, w18, w19, w20, w21, w22, w23])), (a14, .inr (5, [.int 0, w24, w25])), (a0, .inr (1, [.ref a1, w2, .int 20, w3, w4, w5, w6, w7, w8])), (a1, .inr (6, [w9, .int 0, w10, w11, .int 0, w12, .int 0, .int 0, .ref a13, .ref a14, w15, w16]))] H := hW
  refine lv_aload_n hx hb dX1_costOfRound_4 rfl (lv_at hl 0 rfl) ?_
  refine lv_iload_n hx hb dX1_costOfRound_5 rfl (lv_at hl 1 rfl) ?_
  refine zgo_i (wr := [(a13, .inr (2, [w17, .int 15, w18, w19, w20, w21, w22, w23]))]) (zrunV (As := [.int 0]) (rest := []) ⟨hx, hb, hml, hown, ht⟩ (zc_X1_goRound_0 l D y a0 a1 w2 (.int 20) w3 w4 w5 w6 w7 w8 w9 (.int 0) w10 w11 w12 (.ref a13) a14 w15 w16 w24 w25) (cwV 1 ht (zgV zm_932 zm_810 zm_811 zm_28 zm_812) rfl rfl rfl (by decide +kernel) ⟨(Nat.le_of_ble_eq_true rfl), (Nat.le_of_ble_eq_true rfl)⟩) hK hE hS hA hW [2, 3, 1] (by decide) rfl 0 rfl rfl rfl rfl hl.1 rfl (Nat.le_of_ble_eq_true rfl) dX1_costOfRound_6 (Nat.le_of_ble_eq_true rfl) (Nat.le_of_ble_eq_true rfl)) hS hA hW [2, 3, 1] [0] rfl rfl (by decide) (by decide) (fun r2_ u H locs hw hW hS => ?_)
  have hW : zPD D A [(a13, .inr (2, [w17, .int 15, w18, w19, w20, w21, w22, w23])), (a0, .inr (1, [.ref a1, w2, .int 20, w3, w4, w5, w6, w7, w8])), (a1, .inr (6, [w9, .int 0, w10, w11, .int 0, w12, .int 0, .int 0, .ref a13, .ref a14, w15, w16])), (a14, .inr (5, [.int 0, w24, w25]))] H := hW
  have hw : r2_ = 0 := hw
  subst hw
  refine lv_pop hx hb dX1_costOfRound_9 rfl ?_
  refine lv_aload_n hx hb dX1_costOfRound_10 rfl (lv_at hl 0 rfl) ?_
  refine zgo_i (wr := [(a14, .inr (5, [.int 0, w24, w25]))]) (zrunV (As := []) (rest := []) ⟨hx, hb, hml, hown, ht⟩ (zc_X1_cost_0 l D y a0 a1 w2 w3 w4 w5 w6 w7 w8 w9 w10 w11 w12 (.int 0) (.int 0) a13 (.ref a14) w15 w16 w17 w18 w19 w20 w21 w22 w23) (cwV 0 ht (zgV zm_884 zm_828 zm_829 zm_28 zm_830) rfl rfl rfl (by decide +kernel) ⟨(Nat.le_of_ble_eq_true rfl), (Nat.le_of_ble_eq_true rfl)⟩) hK hE hS hA hW [1, 2, 0] (by decide) rfl 0 rfl rfl rfl rfl hl.1 rfl (Nat.le_of_ble_eq_true rfl) dX1_costOfRound_11 (Nat.le_of_ble_eq_true rfl) (Nat.le_of_ble_eq_true rfl)) hS hA hW [1, 2, 0] [3] rfl rfl (by decide) (by decide) (fun r3_ u H locs hw hW hS => ?_)
  have hW : zPD D A [(a14, .inr (5, [.int 0, w24, w25])), (a0, .inr (1, [.ref a1, w2, .int 20, w3, w4, w5, w6, w7, w8])), (a1, .inr (6, [w9, .int 0, w10, w11, .int 0, w12, .int 0, .int 0, .ref a13, .ref a14, w15, w16])), (a13, .inr (2, [w17, .int 15, w18, w19, w20, w21, w22, w23]))] H := hW
  have hw : r3_ = 0 := hw
  subst hw
  exact zret_i (v := 0) hx hb hr hlocks hS () rfl (hW.sub [1, 2, 3, 0] (by decide) rfl) (Nat.le_of_ble_eq_true rfl) (Nat.le_of_ble_eq_true rfl) dX1_costOfRound_14
set_option maxHeartbeats 8000000 in
set_option maxRecDepth 100000 in
theorem zc_X9_leave_0 (l : Launch) (D : va_G) (y : Nat → ClassId) (a0 : Nat) (w1 : Value) (w2 : Value) (w3 : Value) (a4 : Nat) (w5 : Value) (w6 : Value) (a7 : Nat) (w8 : Value) (w9 : Value) (w10 : Value) (w11 : Value) (a12 : Nat) (a13 : Nat) (w14 : Value) (w15 : Value) (w16 : Value) (w17 : Value) (w18 : Value) (w19 : Value) (w20 : Value) (a21 : Nat) (w22 : Value) (w23 : Value) (w24 : Value) (w25 : Value) (w26 : Value) (w27 : Value) (w28 : Value) (w29 : Value) (w30 : Value) : zM l D y yX9_leave (Cond.code yX9_leave cX9_leave 4 (some .int) :: zT) { frames := 3, cells := 0, slots := 0, locals := 71 } [.ref a0] [(a0, .inr (8, [w1, w2, w3, .ref a4, w5, w6, .ref a7, w8, w9])), (a4, .inr (6, [w10, .int 0, .int 20, .int 0, .int 0, w11, .int 0, .int 0, .ref a12, .ref a13, w14, w15])), (a7, .inr (1, [.ref a4, .int 0, .int 0, w16, w17, w18, w19, w20, .ref a21])), (a12, .inr (2, [w22, .int 15, w23, w24, w25, w26, w27, w28])), (a13, .inr (5, [.int 0, w29, w30])), (a21, .inl (y 2, 4, .inl (fun _ => 0)))] (zQi (S := Unit) D (fun r_ _ => r_ = 0) (fun _ => [])) := by
  refine zent (cc := cX9_leave) (maxL := 4) (ret := (some .int)) (by decide) (Nat.le_of_ble_eq_true rfl) ?_
  intro p e s m below meth c A H locs ls hx hb hml hr ht hown hlocks hin hA hK hE hS hW hl
  have hown : s.vm.findClass RX9 = some m.cls := hown
  have hW : zPD D A [(a0, .inr (8, [w1, w2, w3, .ref a4, w5, w6, .ref a7, w8, w9])), (a4, .inr (6, [w10, .int 0, .int 20, .int 0, .int 0, w11, .int 0, .int 0, .ref a12, .ref a13, w14, w15])), (a7, .inr (1, [.ref a4, .int 0, .int 0, w16, w17, w18, w19, w20, .ref a21])), (a12, .inr (2, [w22, .int 15, w23, w24, w25, w26, w27, w28])), (a13, .inr (5, [.int 0, w29, w30])), (a21, .inl (y 2, 4, .inl (fun _ => 0)))] H := hW
  have hl : lv_has ls 4 [(0, .ref a0)] := hl
  refine lv_aload_n hx hb dX9_leave_0 rfl (lv_at hl 0 rfl) ?_
  refine zget hx hb ht inlX9 hown hK hW 0 rfl rfl 6 (by decide) zm_29 rfl dX9_leave_1 ?_
  refine zgo_v (wr := [(a0, .inr (8, [w1, w2, w3, .ref a4, w5, w6, .ref a7, w8, w9])), (a12, .inr (2, [w22, .int 15, w23, w24, w25, w26, w27, w28])), (a13, .inr (5, [.int 0, w29, w30]))]) (zrunV (As := []) (rest := []) ⟨hx, hb, hml, hown, ht⟩ (zc_X1_beginFromNow_0 l D y a7 a4 w16 w17 w18 w19 w20 a21 w10 (.int 0) w11 (.int 0) (.int 0) (.ref a12) (.ref a13) w14 w15) (cwV 0 ht (zgV zm_274 zm_275 zm_276 zm_28 zm_277) rfl rfl rfl (by decide +kernel) ⟨(Nat.le_of_ble_eq_true rfl), (Nat.le_of_ble_eq_true rfl)⟩) hK hE hS hA hW [2, 1, 5] (by decide) rfl 0 rfl rfl rfl rfl hl.1 rfl (Nat.le_of_ble_eq_true rfl) dX9_leave_4 (Nat.le_of_ble_eq_true rfl) (Nat.le_of_ble_eq_true rfl)) hS hA hW [2, 1, 5] [0, 3, 4] rfl rfl (by decide) (by decide) (fun u H locs hw hW hS => ?_)
  have hW : zPD D A [(a0, .inr (8, [w1, w2, w3, .ref a4, w5, w6, .ref a7, w8, w9])), (a12, .inr (2, [w22, .int 15, w23, w24, w25, w26, w27, w28])), (a13, .inr (5, [.int 0, w29, w30])), (a7, .inr (1, [.ref a4, .int 0, .int 20, w16, w17, w18, w19, w20, .ref a21])), (a4, .inr (6, [w10, .int 0, .int 20, .int 0, .int 0, w11, .int 0, .int 0, .ref a12, .ref a13, w14, w15])), (a21, .inl (y 2, 4, .inl (upd (fun _ => 0) 0 1)))] H := hW
  refine lv_aload_n hx hb dX9_leave_7 rfl (lv_at hl 0 rfl) ?_
  refine zget hx hb ht inlX9 hown hK hW 0 rfl rfl 6 (by decide) zm_29 rfl dX9_leave_8 ?_
  refine lv_iconst (v := 0) hx hb dX9_leave_11 (by decide) ?_
  refine zgo_i (wr := [(a0, .inr (8, [w1, w2, w3, .ref a4, w5, w6, .ref a7, w8, w9])), (a21, .inl (y 2, 4, .inl (upd (fun _ => 0) 0 1)))]) (zrunV (As := [.int 0]) (rest := []) ⟨hx, hb, hml, hown, ht⟩ (zc_X1_costOfRound_1 l D y a7 a4 (.int 0) w16 w17 w18 w19 w20 (.ref a21) w10 (.int 20) (.int 0) w11 a12 a13 w14 w15 w22 w23 w24 w25 w26 w27 w28 w29 w30) (cwV 1 ht (zgV zm_928 zm_929 zm_930 zm_28 zm_931) rfl rfl rfl (by decide +kernel) ⟨(Nat.le_of_ble_eq_true rfl), (Nat.le_of_ble_eq_true rfl)⟩) hK hE hS hA hW [3, 4, 1, 2] (by decide) rfl 0 rfl rfl rfl rfl hl.1 rfl (Nat.le_of_ble_eq_true rfl) dX9_leave_12 (Nat.le_of_ble_eq_true rfl) (Nat.le_of_ble_eq_true rfl)) hS hA hW [3, 4, 1, 2] [0, 5] rfl rfl (by decide) (by decide) (fun r2_ u H locs hw hW hS => ?_)
  have hW : zPD D A [(a0, .inr (8, [w1, w2, w3, .ref a4, w5, w6, .ref a7, w8, w9])), (a21, .inl (y 2, 4, .inl (upd (fun _ => 0) 0 1))), (a7, .inr (1, [.ref a4, .int 0, .int 20, w16, w17, w18, w19, w20, .ref a21])), (a4, .inr (6, [w10, .int 0, .int 20, .int 0, .int 0, w11, .int 0, .int 0, .ref a12, .ref a13, w14, w15])), (a12, .inr (2, [w22, .int 15, w23, w24, w25, w26, w27, w28])), (a13, .inr (5, [.int 0, w29, w30]))] H := hW
  have hw : r2_ = 0 := hw
  subst hw
  refine lv_istore_n (lv' := [(1, .int 0), (0, .ref a0)]) hx hb dX9_leave_15 rfl hl (by decide) rfl (fun ls hl => ?_)
  refine lv_iconst (v := 0) hx hb dX9_leave_16 (by decide) ?_
  refine lv_istore_n (lv' := [(2, .int 0), (1, .int 0), (0, .ref a0)]) hx hb dX9_leave_17 rfl hl (by decide) rfl (fun ls hl => ?_)
  refine lv_iconst (v := 0) hx hb dX9_leave_18 (by decide) ?_
  refine lv_istore_n (lv' := [(3, .int 0), (2, .int 0), (1, .int 0), (0, .ref a0)]) hx hb dX9_leave_19 rfl hl (by decide) rfl (fun ls hl => ?_)
  refine lv_iload_n hx hb dX9_leave_20 rfl (lv_at hl 0 rfl) ?_
  refine lv_aload_n hx hb dX9_leave_21 rfl (lv_at hl 3 rfl) ?_
  refine zget hx hb ht inlX9 hown hK hW 0 rfl rfl 3 (by decide) zm_23 rfl dX9_leave_22 ?_
  refine zget hx hb ht inlX7 hown hK hW 3 rfl rfl 9 (by decide) zm_783 rfl dX9_leave_25 ?_
  refine zget hx hb ht inlX6 hown hK hW 5 rfl rfl 0 (by decide) zm_945 rfl dX9_leave_28 ?_
  refine lv_icmp_ge (tgt := 69) hx hb dX9_leave_31 (by decide) (fun c3_ => ?_) (fun c3_ => absurd (by decide) c3_)
  refine lv_iload_n hx hb dX9_leave_69 rfl (lv_at hl 1 rfl) ?_
  exact zret_i (v := 0) hx hb hr hlocks hS () rfl (hW.sub [] (by decide) rfl) (Nat.le_of_ble_eq_true rfl) (Nat.le_of_ble_eq_true rfl) dX9_leave_70
set_option maxHeartbeats 8000000 in
set_option maxRecDepth 100000 in
theorem zc_X10_leave_0 (l : Launch) (D : va_G) (y : Nat → ClassId) (a0 : Nat) (w1 : Value) (w2 : Value) (w3 : Value) (w4 : Value) (w5 : Value) (w6 : Value) (w7 : Value) (w8 : Value) (a9 : Nat) (w10 : Value) (w11 : Value) (w12 : Value) (w13 : Value) (w14 : Value) (w15 : Value) (w16 : Value) (w17 : Value) (w18 : Value) (w19 : Value) (w20 : Value) (w21 : Value) (w22 : Value) (w23 : Value) (w24 : Value) (w25 : Value) (w26 : Value) (w27 : Value) (a28 : Nat) (a29 : Nat) (a30 : Nat) (w31 : Value) (w32 : Value) (w33 : Value) (w34 : Value) (w35 : Value) (w36 : Value) (w37 : Value) (w38 : Value) (w39 : Value) (w40 : Value) (w41 : Value) (w42 : Value) (w43 : Value) (w44 : Value) (w45 : Value) (w46 : Value) (w47 : Value) (w48 : Value) (w49 : Value) (w50 : Value) (w51 : Value) (w52 : Value) (w53 : Value) (w54 : Value) (w55 : Value) (w56 : Value) (w57 : Value) (w58 : Value) (w59 : Value) (w60 : Value) (w61 : Value) (w62 : Value) (w63 : Value) (w64 : Value) (w65 : Value) (w66 : Value) (w67 : Value) : zM l D y yX10_leave (Cond.code yX10_leave cX10_leave 5 (some .int) :: zT) { frames := 7, cells := 0, slots := 0, locals := 151 } [.ref a0] [(a0, .inr (9, [.int 0, .int 0, w1, .int 20, w2, .int 0, .int 0, w3, w4, w5, w6, w7, w8, .ref a9, w10, .int (-1), w11, w12, w13, w14, w15, w16, w17, w18, w19, w20, w21, w22, w23, w24, w25, w26, .int 0, w27, .ref a28, .int 0, .ref a29, .int 0, .ref a30, w31, w32, w33, w34, w35, w36, w37, w38, w39, w40, w41, w42, w43, w44, w45, w46, w47, w48, w49, w50, w51, w52, w53, w54, w55, w56, w57, w58, w59, w60, w61, w62, w63, w64, w65, w66, w67])), (a9, .inl (y 2, 7, .inl (fun _ => 0))), (a28, .inl (y 0, 7, .inl (fun _ => 0))), (a29, .inl (y 0, 7, .inl (fun _ => 0))), (a30, .inl (y 0, 7, .inl (fun _ => 0)))] (zQi (S := Unit) D (fun r_ _ => r_ = 0) (fun _ => [])) := by
  refine zent (cc := cX10_leave) (maxL := 5) (ret := (some .int)) (by decide) (Nat.le_of_ble_eq_true rfl) ?_
  intro p e s m below meth c A H locs ls hx hb hml hr ht hown hlocks hin hA hK hE hS hW hl
  have hown : s.vm.findClass RX10 = some m.cls := hown
  have hW : zPD D A [(a0, .inr (9, [.int 0, .int 0, w1, .int 20, w2, .int 0, .int 0, w3, w4, w5, w6, w7, w8, .ref a9, w10, .int (-1), w11, w12, w13, w14, w15, w16, w17, w18, w19, w20, w21, w22, w23, w24, w25, w26, .int 0, w27, .ref a28, .int 0, .ref a29, .int 0, .ref a30, w31, w32, w33, w34, w35, w36, w37, w38, w39, w40, w41, w42, w43, w44, w45, w46, w47, w48, w49, w50, w51, w52, w53, w54, w55, w56, w57, w58, w59, w60, w61, w62, w63, w64, w65, w66, w67])), (a9, .inl (y 2, 7, .inl (fun _ => 0))), (a28, .inl (y 0, 7, .inl (fun _ => 0))), (a29, .inl (y 0, 7, .inl (fun _ => 0))), (a30, .inl (y 0, 7, .inl (fun _ => 0)))] H := hW
  have hl : lv_has ls 5 [(0, .ref a0)] := hl
  refine lv_aload_n hx hb dX10_leave_0 rfl (lv_at hl 0 rfl) ?_
  refine lv_iconst (v := 0) hx hb dX10_leave_1 (by decide) ?_
  refine zgo_i (wr := []) (zrunV (As := [.int 0]) (rest := []) ⟨hx, hb, hml, hown, ht⟩ (zc_X10_costOfRound_0 l D y a0 w1 w2 w3 w4 w5 w6 w7 w8 a9 w10 w11 w12 w13 w14 w15 w16 w17 w18 w19 w20 w21 w22 w23 w24 w25 w26 w27 a28 a29 a30 w31 w32 w33 w34 w35 w36 w37 w38 w39 w40 w41 w42 w43 w44 w45 w46 w47 w48 w49 w50 w51 w52 w53 w54 w55 w56 w57 w58 w59 w60 w61 w62 w63 w64 w65 w66 w67) (cwV 1 ht (zgV zm_840 zm_841 zm_842 zm_5 zm_843) rfl rfl rfl (by decide +kernel) ⟨(Nat.le_of_ble_eq_true rfl), (Nat.le_of_ble_eq_true rfl)⟩) hK hE hS hA hW [0, 1, 2, 3, 4] (by decide) rfl 0 rfl rfl rfl rfl hl.1 rfl (Nat.le_of_ble_eq_true rfl) dX10_leave_2 (Nat.le_of_ble_eq_true rfl) (Nat.le_of_ble_eq_true rfl)) hS hA hW [0, 1, 2, 3, 4] [] rfl rfl (by decide) (by decide) (fun r1_ u H locs hw hW hS => ?_)
  have hW : zPD D A [(a0, .inr (9, [.int 0, .int 0, w1, .int 20, w2, .int 0, .int 0, w3, w4, w5, w6, w7, w8, .ref a9, w10, .int (-1), w11, w12, w13, w14, w15, w16, w17, w18, w19, w20, w21, w22, w23, w24, w25, w26, .int 0, w27, .ref a28, .int 0, .ref a29, .int 0, .ref a30, w31, w32, w33, w34, w35, w36, w37, w38, w39, w40, w41, w42, w43, w44, w45, w46, w47, w48, w49, w50, w51, w52, w53, w54, w55, w56, w57, w58, w59, w60, w61, w62, w63, w64, w65, w66, w67])), (a9, .inl (y 2, 7, .inl (fun _ => 0))), (a28, .inl (y 0, 7, .inl (upd (upd (upd (upd (upd (upd (upd (fun _ => 0) 0 99999) 1 99999) 2 99999) 3 99999) 4 99999) 5 99999) 6 99999))), (a29, .inl (y 0, 7, .inl (fun _ => 0))), (a30, .inl (y 0, 7, .inl (fun _ => 0)))] H := hW
  have hw : r1_ = 0 := hw
  subst hw
  refine lv_istore_n (lv' := [(1, .int 0), (0, .ref a0)]) hx hb dX10_leave_5 rfl hl (by decide) rfl (fun ls hl => ?_)
  refine lv_iconst (v := 0) hx hb dX10_leave_6 (by decide) ?_
  refine lv_istore_n (lv' := [(2, .int 0), (1, .int 0), (0, .ref a0)]) hx hb dX10_leave_7 rfl hl (by decide) rfl (fun ls hl => ?_)
  refine lv_iconst (v := 0) hx hb dX10_leave_8 (by decide) ?_
  refine lv_istore_n (lv' := [(3, .int 0), (2, .int 0), (1, .int 0), (0, .ref a0)]) hx hb dX10_leave_9 rfl hl (by decide) rfl (fun ls hl => ?_)
  refine lv_iload_n hx hb dX10_leave_10 rfl (lv_at hl 0 rfl) ?_
  refine lv_aload_n hx hb dX10_leave_11 rfl (lv_at hl 3 rfl) ?_
  refine zget hx hb ht inlX10 hown hK hW 0 rfl rfl 37 (by decide) zm_177 rfl dX10_leave_12 ?_
  refine lv_icmp_ge (tgt := 106) hx hb dX10_leave_15 (by decide) (fun c2_ => ?_) (fun c2_ => absurd (by decide) c2_)
  refine lv_iload_n hx hb dX10_leave_106 rfl (lv_at hl 1 rfl) ?_
  exact zret_i (v := 0) hx hb hr hlocks hS () rfl (hW.sub [] (by decide) rfl) (Nat.le_of_ble_eq_true rfl) (Nat.le_of_ble_eq_true rfl) dX10_leave_107
set_option maxHeartbeats 8000000 in
set_option maxRecDepth 100000 in
theorem zc_X9_within_10 (l : Launch) (D : va_G) (y : Nat → ClassId) (p0 : Int32) : zM l D y yX9_within (Cond.code yX9_within cX9_within 3 (some .boolean) :: zT) { frames := 0, cells := 0, slots := 0, locals := 0 } [.int p0, .int 0, .int 1] [] (zQi (S := Unit) D (fun r_ _ => r_ = (if p0 < 0 then 0 else (if 1 < p0 then 0 else 1))) (fun _ => [])) := by
  refine zent (cc := cX9_within) (maxL := 3) (ret := (some .boolean)) (by decide) (Nat.le_of_ble_eq_true rfl) ?_
  intro p e s m below meth c A H locs ls hx hb hml hr ht hown hlocks hin hA hK hE hS hW hl
  have hown : s.vm.findClass RX9 = some m.cls := hown
  have hW : zPD D A [] H := hW
  have hl : lv_has ls 3 [(0, .int p0), (1, .int 0), (2, .int 1)] := hl
  refine lv_iload_n hx hb dX9_within_0 rfl (lv_at hl 0 rfl) ?_
  refine lv_iload_n hx hb dX9_within_1 rfl (lv_at hl 1 rfl) ?_
  refine lv_icmp_lt (tgt := 14) hx hb dX9_within_2 (by decide) (fun c1_ => ?_) (fun c1_ => ?_)
  · have b2_ : (-2147483648) ≤ Int32.toInt p0 ∧ Int32.toInt p0 ≤ (-1) := (by have u0 := zbnd p0; have u1 := (zi_lt _ _).mp c1_; have u2 : (0 : Int32).toInt = 0 := (by decide); omega)
    refine lv_iconst (v := 0) hx hb dX9_within_14 (by decide) ?_
    exact zret_z (v := 0) hx hb hr hlocks hS () rfl (by show _ = _; rw [if_pos c1_]) hW (Nat.le_of_ble_eq_true rfl) (Nat.le_of_ble_eq_true rfl) dX9_within_15
  · have b3_ : 0 ≤ Int32.toInt p0 ∧ Int32.toInt p0 ≤ 2147483647 := (by have u0 := zbnd p0; have u1 := (not_congr (zi_lt _ _)).mp c1_; have u2 : (0 : Int32).toInt = 0 := (by decide); omega)
    refine lv_iload_n hx hb dX9_within_5 rfl (lv_at hl 0 rfl) ?_
    refine lv_iload_n hx hb dX9_within_6 rfl (lv_at hl 2 rfl) ?_
    refine lv_icmp_gt (tgt := 14) hx hb dX9_within_7 (by decide) (fun c4_ => ?_) (fun c4_ => ?_)
    · have b5_ : 2 ≤ Int32.toInt p0 ∧ Int32.toInt p0 ≤ 2147483647 := (by have u0 := b3_; have u1 := (zi_lt _ _).mp c4_; have u2 : (1 : Int32).toInt = 1 := (by decide); omega)
      refine lv_iconst (v := 0) hx hb dX9_within_14 (by decide) ?_
      exact zret_z (v := 0) hx hb hr hlocks hS () rfl (by show _ = _; rw [if_neg c1_, if_pos c4_]) hW (Nat.le_of_ble_eq_true rfl) (Nat.le_of_ble_eq_true rfl) dX9_within_15
    · have b6_ : 0 ≤ Int32.toInt p0 ∧ Int32.toInt p0 ≤ 1 := (by have u0 := b3_; have u1 := (not_congr (zi_lt _ _)).mp c4_; have u2 : (1 : Int32).toInt = 1 := (by decide); omega)
      refine lv_iconst (v := 1) hx hb dX9_within_10 (by decide) ?_
      refine lv_goto (tgt := 15) hx hb dX9_within_11 (by decide) ?_
      exact zret_z (v := 1) hx hb hr hlocks hS () rfl (by show _ = _; rw [if_neg c1_, if_neg c4_]) hW (Nat.le_of_ble_eq_true rfl) (Nat.le_of_ble_eq_true rfl) dX9_within_15
set_option maxHeartbeats 8000000 in
set_option maxRecDepth 100000 in
theorem zc_X1_goAsTwo_0 (l : Launch) (D : va_G) (y : Nat → ClassId) (a0 : Nat) (a1 : Nat) (w2 : Value) (w3 : Value) (w4 : Value) (w5 : Value) (w6 : Value) (w7 : Value) (w8 : Value) (w9 : Value) (w10 : Value) (w11 : Value) (w12 : Value) (w13 : Value) (w14 : Value) (w15 : Value) (a16 : Nat) (w17 : Value) (w18 : Value) (w19 : Value) (w20 : Value) : zM l D y yX1_goAsTwo (Cond.code yX1_goAsTwo cX1_goAsTwo 4 (some .int) :: zT) { frames := 1, cells := 0, slots := 0, locals := 29 } [.ref a0] [(a0, .inr (1, [.ref a1, w2, w3, w4, w5, w6, w7, w8, w9])), (a1, .inr (6, [w10, w11, w12, w13, .int 0, w14, .int 0, .int 0, w15, .ref a16, w17, w18])), (a16, .inr (5, [.int 0, w19, w20]))] (zQi (S := Unit) D (fun r_ _ => r_ = 0) (fun _ => [(a0, .inr (1, [.ref a1, w2, w3, w4, w5, w6, w7, w8, w9])), (a1, .inr (6, [w10, w11, w12, w13, .int 0, w14, .int 0, .int 0, w15, .ref a16, w17, w18])), (a16, .inr (5, [.int 0, w19, w20]))])) := by
  refine zent (cc := cX1_goAsTwo) (maxL := 4) (ret := (some .int)) (by decide) (Nat.le_of_ble_eq_true rfl) ?_
  intro p e s m below meth c A H locs ls hx hb hml hr ht hown hlocks hin hA hK hE hS hW hl
  have hown : s.vm.findClass RX1 = some m.cls := hown
  have hW : zPD D A [(a0, .inr (1, [.ref a1, w2, w3, w4, w5, w6, w7, w8, w9])), (a1, .inr (6, [w10, w11, w12, w13, .int 0, w14, .int 0, .int 0, w15, .ref a16, w17, w18])), (a16, .inr (5, [.int 0, w19, w20]))] H := hW
  have hl : lv_has ls 4 [(0, .ref a0)] := hl
  refine lv_aload_n hx hb dX1_goAsTwo_0 rfl (lv_at hl 0 rfl) ?_
  refine zget hx hb ht inlX1 hown hK hW 0 rfl rfl 0 (by decide) zm_119 rfl dX1_goAsTwo_1 ?_
  refine zget hx hb ht inlX7 hown hK hW 1 rfl rfl 9 (by decide) zm_813 rfl dX1_goAsTwo_4 ?_
  refine zget hx hb ht inlX6 hown hK hW 2 rfl rfl 0 (by decide) zm_814 rfl dX1_goAsTwo_7 ?_
  refine lv_istore_n (lv' := [(1, .int 0), (0, .ref a0)]) hx hb dX1_goAsTwo_10 rfl hl (by decide) rfl (fun ls hl => ?_)
  refine lv_iload_n hx hb dX1_goAsTwo_11 rfl (lv_at hl 0 rfl) ?_
  refine lv_iload_n hx hb dX1_goAsTwo_12 rfl (lv_at hl 0 rfl) ?_
  refine lv_iconst (v := 2) hx hb dX1_goAsTwo_13 (by decide) ?_
  refine lv_idiv hx hb dX1_goAsTwo_14 (by decide) ?_
  refine ztop (w := .int 0) (congrArg Value.int (by decide)) ?_
  refine lv_isub hx hb dX1_goAsTwo_15 ?_
  refine ztop (w := .int 0) (congrArg Value.int (by decide)) ?_
  refine lv_istore_n (lv' := [(2, .int 0), (1, .int 0), (0, .ref a0)]) hx hb dX1_goAsTwo_16 rfl hl (by decide) rfl (fun ls hl => ?_)
  refine lv_aload_n hx hb dX1_goAsTwo_17 rfl (lv_at hl 2 rfl) ?_
  refine lv_aload_n hx hb dX1_goAsTwo_18 rfl (lv_at hl 2 rfl) ?_
  refine zget hx hb ht inlX1 hown hK hW 0 rfl rfl 0 (by decide) zm_119 rfl dX1_goAsTwo_19 ?_
  refine zget hx hb ht inlX7 hown hK hW 1 rfl rfl 9 (by decide) zm_813 rfl dX1_goAsTwo_22 ?_
  refine lv_iconst (v := 0) hx hb dX1_goAsTwo_25 (by decide) ?_
  refine lv_iload_n hx hb dX1_goAsTwo_26 rfl (lv_at hl 0 rfl) ?_
  refine lv_aload_n hx hb dX1_goAsTwo_27 rfl (lv_at hl 2 rfl) ?_
  refine zget hx hb ht inlX1 hown hK hW 0 rfl rfl 0 (by decide) zm_119 rfl dX1_goAsTwo_28 ?_
  refine zget hx hb ht inlX7 hown hK hW 1 rfl rfl 4 (by decide) zm_815 rfl dX1_goAsTwo_31 ?_
  refine zgo_i (wr := [(a16, .inr (5, [.int 0, w19, w20]))]) (zrunV (As := [.ref a16, .int 0, .int 0, .int 0]) (rest := []) ⟨hx, hb, hml, hown, ht⟩ (zc_X1_goAlong_0 l D y a0 a16 a1 w2 w3 w4 w5 w6 w7 w8 w9 w10 w11 w12 w13 (.int 0) w14 w15 (.ref a16) w17 w18) (cwV 4 ht (zgV zm_816 zm_817 zm_818 zm_28 zm_819) rfl rfl rfl (by decide +kernel) ⟨(Nat.le_of_ble_eq_true rfl), (Nat.le_of_ble_eq_true rfl)⟩) hK hE hS hA hW [0, 1] (by decide) rfl 0 rfl rfl rfl rfl hl.1 rfl (Nat.le_of_ble_eq_true rfl) dX1_goAsTwo_34 (Nat.le_of_ble_eq_true rfl) (Nat.le_of_ble_eq_true rfl)) hS hA hW [0, 1] [2] rfl rfl (by decide) (by decide) (fun r1_ u H locs hw hW hS => ?_)
  have hW : zPD D A [(a16, .inr (5, [.int 0, w19, w20])), (a0, .inr (1, [.ref a1, w2, w3, w4, w5, w6, w7, w8, w9])), (a1, .inr (6, [w10, w11, w12, w13, .int 0, w14, .int 0, .int 0, w15, .ref a16, w17, w18]))] H := hW
  have hw : r1_ = 0 := hw
  subst hw
  refine lv_istore_n (lv' := [(3, .int 0), (2, .int 0), (1, .int 0), (0, .ref a0)]) hx hb dX1_goAsTwo_37 rfl hl (by decide) rfl (fun ls hl => ?_)
  refine lv_iload_n hx hb dX1_goAsTwo_38 rfl (lv_at hl 0 rfl) ?_
  refine lv_aload_n hx hb dX1_goAsTwo_39 rfl (lv_at hl 3 rfl) ?_
  refine lv_aload_n hx hb dX1_goAsTwo_40 rfl (lv_at hl 3 rfl) ?_
  refine zget hx hb ht inlX1 hown hK hW 1 rfl rfl 0 (by decide) zm_119 rfl dX1_goAsTwo_41 ?_
  refine zget hx hb ht inlX7 hown hK hW 2 rfl rfl 9 (by decide) zm_813 rfl dX1_goAsTwo_44 ?_
  refine lv_iload_n hx hb dX1_goAsTwo_47 rfl (lv_at hl 1 rfl) ?_
  refine lv_iload_n hx hb dX1_goAsTwo_48 rfl (lv_at hl 2 rfl) ?_
  refine lv_aload_n hx hb dX1_goAsTwo_49 rfl (lv_at hl 3 rfl) ?_
  refine zget hx hb ht inlX1 hown hK hW 1 rfl rfl 0 (by decide) zm_119 rfl dX1_goAsTwo_50 ?_
  refine zget hx hb ht inlX7 hown hK hW 2 rfl rfl 4 (by decide) zm_815 rfl dX1_goAsTwo_53 ?_
  refine zgo_i (wr := [(a16, .inr (5, [.int 0, w19, w20]))]) (zrunV (As := [.ref a16, .int 0, .int 0, .int 0]) (rest := [.int 0]) ⟨hx, hb, hml, hown, ht⟩ (zc_X1_goAlong_0 l D y a0 a16 a1 w2 w3 w4 w5 w6 w7 w8 w9 w10 w11 w12 w13 (.int 0) w14 w15 (.ref a16) w17 w18) (cwV 4 ht (zgV zm_816 zm_817 zm_818 zm_28 zm_819) rfl rfl rfl (by decide +kernel) ⟨(Nat.le_of_ble_eq_true rfl), (Nat.le_of_ble_eq_true rfl)⟩) hK hE hS hA hW [1, 2] (by decide) rfl 0 rfl rfl rfl rfl hl.1 rfl (Nat.le_of_ble_eq_true rfl) dX1_goAsTwo_56 (Nat.le_of_ble_eq_true rfl) (Nat.le_of_ble_eq_true rfl)) hS hA hW [1, 2] [0] rfl rfl (by decide) (by decide) (fun r2_ u H locs hw hW hS => ?_)
  have hW : zPD D A [(a16, .inr (5, [.int 0, w19, w20])), (a0, .inr (1, [.ref a1, w2, w3, w4, w5, w6, w7, w8, w9])), (a1, .inr (6, [w10, w11, w12, w13, .int 0, w14, .int 0, .int 0, w15, .ref a16, w17, w18]))] H := hW
  have hw : r2_ = 0 := hw
  subst hw
  refine va_mmax hx hb (by rw [hml]; exact hl.1.symm) hown (ht _ zm_299) (ht _ zm_90) (ht _ zm_91) (ht _ zm_92) (Nat.le_of_ble_eq_true rfl) (Nat.le_of_ble_eq_true rfl) (Nat.le_of_ble_eq_true rfl) (Nat.le_of_ble_eq_true rfl) dX1_goAsTwo_59 ?_
  refine ztop (w := .int 0) (congrArg Value.int (by decide)) ?_
  exact zret_i (v := 0) hx hb hr hlocks hS () rfl (hW.sub [1, 2, 0] (by decide) rfl) (Nat.le_of_ble_eq_true rfl) (Nat.le_of_ble_eq_true rfl) dX1_goAsTwo_62
set_option maxHeartbeats 8000000 in
set_option maxRecDepth 100000 in
theorem zc_X9_two_0 (l : Launch) (D : va_G) (y : Nat → ClassId) (a0 : Nat) (p1 : Int32) (w2 : Value) (w3 : Value) (w4 : Value) (w5 : Value) (w6 : Value) (w7 : Value) (a8 : Nat) (w9 : Value) (w10 : Value) (a11 : Nat) (w12 : Value) (w13 : Value) (w14 : Value) (w15 : Value) (w16 : Value) (a17 : Nat) (w18 : Value) (w19 : Value) (a20 : Nat) (a21 : Nat) (w22 : Value) (w23 : Value) (w24 : Value) (w25 : Value) (w26 : Value) (w27 : Value) (w28 : Value) (w29 : Value) (w30 : Value) (w31 : Value) (w32 : Value) : zM l D y yX9_two (Cond.code yX9_two cX9_two 3 (some .int) :: zT) { frames := 2, cells := 0, slots := 0, locals := 52 } [.ref a0, .int p1] [(a0, .inr (8, [w2, w3, w4, w5, w6, w7, .ref a8, w9, w10])), (a8, .inr (1, [.ref a11, .int 0, .int 0, w12, w13, w14, w15, w16, .ref a17])), (a11, .inr (6, [w18, .int 0, .int 20, .int 0, .int 0, w19, .int 0, .int 0, .ref a20, .ref a21, w22, w23])), (a17, .inl (y 2, 4, .inl (fun _ => 0))), (a20, .inr (2, [w24, .int 15, w25, w26, w27, w28, w29, w30])), (a21, .inr (5, [.int 0, w31, w32]))] (zQi (S := Unit) D (fun r_ _ => r_ = (if p1 < 0 then (-1) else (if 1 < p1 then (-1) else 0))) (fun _ => [])) := by
  refine zent (cc := cX9_two) (maxL := 3) (ret := (some .int)) (by decide) (Nat.le_of_ble_eq_true rfl) ?_
  intro p e s m below meth c A H locs ls hx hb hml hr ht hown hlocks hin hA hK hE hS hW hl
  have hown : s.vm.findClass RX9 = some m.cls := hown
  have hW : zPD D A [(a0, .inr (8, [w2, w3, w4, w5, w6, w7, .ref a8, w9, w10])), (a8, .inr (1, [.ref a11, .int 0, .int 0, w12, w13, w14, w15, w16, .ref a17])), (a11, .inr (6, [w18, .int 0, .int 20, .int 0, .int 0, w19, .int 0, .int 0, .ref a20, .ref a21, w22, w23])), (a17, .inl (y 2, 4, .inl (fun _ => 0))), (a20, .inr (2, [w24, .int 15, w25, w26, w27, w28, w29, w30])), (a21, .inr (5, [.int 0, w31, w32]))] H := hW
  have hl : lv_has ls 3 [(0, .ref a0), (1, .int p1)] := hl
  refine lv_iload_n hx hb dX9_two_0 rfl (lv_at hl 1 rfl) ?_
  refine lv_iconst (v := 0) hx hb dX9_two_1 (by decide) ?_
  refine lv_iconst (v := 1) hx hb dX9_two_2 (by decide) ?_
  refine zgo0_i (zrunS (As := [.int p1, .int 0, .int 1]) (rest := []) ⟨hx, hb, hml, hown, ht⟩ (zc_X9_within_10 l D y p1) (va_cwS 3 ht (zgS zm_222 zm_223 zm_2 zm_224) rfl rfl rfl (by decide +kernel) ⟨(Nat.le_of_ble_eq_true rfl), (Nat.le_of_ble_eq_true rfl)⟩) hK hE hS hA hW [] (by decide) rfl rfl hl.1 rfl (Nat.le_of_ble_eq_true rfl) dX9_two_3 (Nat.le_of_ble_eq_true rfl) (Nat.le_of_ble_eq_true rfl)) hS hA hW (fun r1_ u H locs hw hW hS => ?_)
  have hw : r1_ = (if p1 < 0 then 0 else (if 1 < p1 then 0 else 1)) := hw
  by_cases c2_ : p1 < 0
  · have b3_ : (-2147483648) ≤ Int32.toInt p1 ∧ Int32.toInt p1 ≤ (-1) := (by have u0 := zbnd p1; have u1 := (zi_lt _ _).mp c2_; have u2 : (0 : Int32).toInt = 0 := (by decide); omega)
    rw [if_pos c2_] at hw
    subst hw
    refine lv_if_ne (tgt := 11) hx hb dX9_two_6 (by decide) (fun c4_ => absurd (by decide) c4_) (fun c4_ => ?_)
    refine lv_iconst (v := (-1)) hx hb dX9_two_9 (by decide) ?_
    exact zret_i (v := (-1)) hx hb hr hlocks hS () (by show _ = _; rw [if_pos c2_]) (hW.sub [] (by decide) rfl) (Nat.le_of_ble_eq_true rfl) (Nat.le_of_ble_eq_true rfl) dX9_two_10
  · have b5_ : 0 ≤ Int32.toInt p1 ∧ Int32.toInt p1 ≤ 2147483647 := (by have u0 := zbnd p1; have u1 := (not_congr (zi_lt _ _)).mp c2_; have u2 : (0 : Int32).toInt = 0 := (by decide); omega)
    rw [if_neg c2_] at hw
    by_cases c6_ : 1 < p1
    · have b7_ : 2 ≤ Int32.toInt p1 ∧ Int32.toInt p1 ≤ 2147483647 := (by have u0 := b5_; have u1 := (zi_lt _ _).mp c6_; have u2 : (1 : Int32).toInt = 1 := (by decide); omega)
      rw [if_pos c6_] at hw
      subst hw
      refine lv_if_ne (tgt := 11) hx hb dX9_two_6 (by decide) (fun c8_ => absurd (by decide) c8_) (fun c8_ => ?_)
      refine lv_iconst (v := (-1)) hx hb dX9_two_9 (by decide) ?_
      exact zret_i (v := (-1)) hx hb hr hlocks hS () (by show _ = _; rw [if_neg c2_, if_pos c6_]) (hW.sub [] (by decide) rfl) (Nat.le_of_ble_eq_true rfl) (Nat.le_of_ble_eq_true rfl) dX9_two_10
    · have b9_ : 0 ≤ Int32.toInt p1 ∧ Int32.toInt p1 ≤ 1 := (by have u0 := b5_; have u1 := (not_congr (zi_lt _ _)).mp c6_; have u2 : (1 : Int32).toInt = 1 := (by decide); omega)
      rw [if_neg c6_] at hw
      subst hw
      refine lv_if_ne (tgt := 11) hx hb dX9_two_6 (by decide) (fun c10_ => ?_) (fun c10_ => absurd c10_ (by decide))
      refine lv_aload_n hx hb dX9_two_11 rfl (lv_at hl 0 rfl) ?_
      refine zget hx hb ht inlX9 hown hK hW 0 rfl rfl 6 (by decide) zm_29 rfl dX9_two_12 ?_
      refine zgo_v (wr := [(a0, .inr (8, [w2, w3, w4, w5, w6, w7, .ref a8, w9, w10])), (a20, .inr (2, [w24, .int 15, w25, w26, w27, w28, w29, w30])), (a21, .inr (5, [.int 0, w31, w32]))]) (zrunV (As := []) (rest := []) ⟨hx, hb, hml, hown, ht⟩ (zc_X1_beginFromNow_0 l D y a8 a11 w12 w13 w14 w15 w16 a17 w18 (.int 0) w19 (.int 0) (.int 0) (.ref a20) (.ref a21) w22 w23) (cwV 0 ht (zgV zm_274 zm_275 zm_276 zm_28 zm_277) rfl rfl rfl (by decide +kernel) ⟨(Nat.le_of_ble_eq_true rfl), (Nat.le_of_ble_eq_true rfl)⟩) hK hE hS hA hW [1, 2, 3] (by decide) rfl 0 rfl rfl rfl rfl hl.1 rfl (Nat.le_of_ble_eq_true rfl) dX9_two_15 (Nat.le_of_ble_eq_true rfl) (Nat.le_of_ble_eq_true rfl)) hS hA hW [1, 2, 3] [0, 4, 5] rfl rfl (by decide) (by decide) (fun u H locs hw hW hS => ?_)
      have hW : zPD D A [(a0, .inr (8, [w2, w3, w4, w5, w6, w7, .ref a8, w9, w10])), (a20, .inr (2, [w24, .int 15, w25, w26, w27, w28, w29, w30])), (a21, .inr (5, [.int 0, w31, w32])), (a8, .inr (1, [.ref a11, .int 0, .int 20, w12, w13, w14, w15, w16, .ref a17])), (a11, .inr (6, [w18, .int 0, .int 20, .int 0, .int 0, w19, .int 0, .int 0, .ref a20, .ref a21, w22, w23])), (a17, .inl (y 2, 4, .inl (upd (fun _ => 0) 0 1)))] H := hW
      refine lv_aload_n hx hb dX9_two_18 rfl (lv_at hl 0 rfl) ?_
      refine zget hx hb ht inlX9 hown hK hW 0 rfl rfl 6 (by decide) zm_29 rfl dX9_two_19 ?_
      refine zgo_i (wr := [(a0, .inr (8, [w2, w3, w4, w5, w6, w7, .ref a8, w9, w10])), (a20, .inr (2, [w24, .int 15, w25, w26, w27, w28, w29, w30])), (a17, .inl (y 2, 4, .inl (upd (fun _ => 0) 0 1)))]) (zrunV (As := []) (rest := []) ⟨hx, hb, hml, hown, ht⟩ (zc_X1_goAsTwo_0 l D y a8 a11 (.int 0) (.int 20) w12 w13 w14 w15 w16 (.ref a17) w18 (.int 0) (.int 20) (.int 0) w19 (.ref a20) a21 w22 w23 w31 w32) (cwV 0 ht (zgV zm_958 zm_959 zm_960 zm_28 zm_961) rfl rfl rfl (by decide +kernel) ⟨(Nat.le_of_ble_eq_true rfl), (Nat.le_of_ble_eq_true rfl)⟩) hK hE hS hA hW [3, 4, 2] (by decide) rfl 0 rfl rfl rfl rfl hl.1 rfl (Nat.le_of_ble_eq_true rfl) dX9_two_22 (Nat.le_of_ble_eq_true rfl) (Nat.le_of_ble_eq_true rfl)) hS hA hW [3, 4, 2] [0, 1, 5] rfl rfl (by decide) (by decide) (fun r12_ u H locs hw hW hS => ?_)
      have hW : zPD D A [(a0, .inr (8, [w2, w3, w4, w5, w6, w7, .ref a8, w9, w10])), (a20, .inr (2, [w24, .int 15, w25, w26, w27, w28, w29, w30])), (a17, .inl (y 2, 4, .inl (upd (fun _ => 0) 0 1))), (a8, .inr (1, [.ref a11, .int 0, .int 20, w12, w13, w14, w15, w16, .ref a17])), (a11, .inr (6, [w18, .int 0, .int 20, .int 0, .int 0, w19, .int 0, .int 0, .ref a20, .ref a21, w22, w23])), (a21, .inr (5, [.int 0, w31, w32]))] H := hW
      have hw : r12_ = 0 := hw
      subst hw
      refine lv_istore_n (lv' := [(2, .int 0), (0, .ref a0), (1, .int p1)]) hx hb dX9_two_25 rfl hl (by decide) rfl (fun ls hl => ?_)
      refine lv_iload_n hx hb dX9_two_26 rfl (lv_at hl 2 rfl) ?_
      refine lv_if_ne (tgt := 40) hx hb dX9_two_27 (by decide) (fun c13_ => ?_) (fun c13_ => ?_)
      · have b14_ : 1 ≤ Int32.toInt p1 ∧ Int32.toInt p1 ≤ 1 := (by have u0 := b9_; have u1 := (not_congr (zi_eq _ _)).mp c13_; have u2 : (0 : Int32).toInt = 0 := (by decide); omega)
        refine lv_iload_n hx hb dX9_two_40 rfl (lv_at hl 0 rfl) ?_
        exact zret_i (v := 0) hx hb hr hlocks hS () (by show _ = _; rw [if_neg c2_, if_neg c6_]) (hW.sub [] (by decide) rfl) (Nat.le_of_ble_eq_true rfl) (Nat.le_of_ble_eq_true rfl) dX9_two_41
      · have b15_ : 0 ≤ Int32.toInt p1 ∧ Int32.toInt p1 ≤ 0 := (by have u0 := b9_; have u1 := (zi_eq _ _).mp c13_; have u2 : (0 : Int32).toInt = 0 := (by decide); omega)
        refine lv_aload_n hx hb dX9_two_30 rfl (lv_at hl 1 rfl) ?_
        refine zget hx hb ht inlX9 hown hK hW 0 rfl rfl 6 (by decide) zm_29 rfl dX9_two_31 ?_
        refine zgo_i (wr := [(a0, .inr (8, [w2, w3, w4, w5, w6, w7, .ref a8, w9, w10])), (a17, .inl (y 2, 4, .inl (upd (fun _ => 0) 0 1))), (a21, .inr (5, [.int 0, w31, w32]))]) (zrunV (As := []) (rest := []) ⟨hx, hb, hml, hown, ht⟩ (zc_X1_cost_0 l D y a8 a11 (.int 0) w12 w13 w14 w15 w16 (.ref a17) w18 (.int 20) (.int 0) w19 (.int 0) (.int 0) a20 (.ref a21) w22 w23 w24 w25 w26 w27 w28 w29 w30) (cwV 0 ht (zgV zm_827 zm_828 zm_829 zm_28 zm_830) rfl rfl rfl (by decide +kernel) ⟨(Nat.le_of_ble_eq_true rfl), (Nat.le_of_ble_eq_true rfl)⟩) hK hE hS hA hW [3, 4, 1] (by decide) rfl 0 rfl rfl rfl rfl hl.1 rfl (Nat.le_of_ble_eq_true rfl) dX9_two_34 (Nat.le_of_ble_eq_true rfl) (Nat.le_of_ble_eq_true rfl)) hS hA hW [3, 4, 1] [0, 2, 5] rfl rfl (by decide) (by decide) (fun r16_ u H locs hw hW hS => ?_)
        have hW : zPD D A [(a0, .inr (8, [w2, w3, w4, w5, w6, w7, .ref a8, w9, w10])), (a17, .inl (y 2, 4, .inl (upd (fun _ => 0) 0 1))), (a21, .inr (5, [.int 0, w31, w32])), (a8, .inr (1, [.ref a11, .int 0, .int 20, w12, w13, w14, w15, w16, .ref a17])), (a11, .inr (6, [w18, .int 0, .int 20, .int 0, .int 0, w19, .int 0, .int 0, .ref a20, .ref a21, w22, w23])), (a20, .inr (2, [w24, .int 15, w25, w26, w27, w28, w29, w30]))] H := hW
        have hw : r16_ = 0 := hw
        subst hw
        refine lv_goto (tgt := 41) hx hb dX9_two_37 (by decide) ?_
        exact zret_i (v := 0) hx hb hr hlocks hS () (by show _ = _; rw [if_neg c2_, if_neg c6_]) (hW.sub [] (by decide) rfl) (Nat.le_of_ble_eq_true rfl) (Nat.le_of_ble_eq_true rfl) dX9_two_41
set_option maxHeartbeats 8000000 in
set_option maxRecDepth 100000 in
theorem zc_X10_in_11 (l : Launch) (D : va_G) (y : Nat → ClassId) (a0 : Nat) (p1 : Int32) (w2 : Value) (w3 : Value) (w4 : Value) (w5 : Value) (w6 : Value) (w7 : Value) (w8 : Value) (w9 : Value) (w10 : Value) (w11 : Value) (w12 : Value) (w13 : Value) (w14 : Value) (w15 : Value) (w16 : Value) (w17 : Value) (w18 : Value) (w19 : Value) (w20 : Value) (w21 : Value) (w22 : Value) (w23 : Value) (w24 : Value) (w25 : Value) (w26 : Value) (w27 : Value) (w28 : Value) (w29 : Value) (w30 : Value) (w31 : Value) (w32 : Value) (w33 : Value) (w34 : Value) (w35 : Value) (w36 : Value) (w37 : Value) (w38 : Value) (w39 : Value) (w40 : Value) (w41 : Value) (w42 : Value) (w43 : Value) (w44 : Value) (w45 : Value) (w46 : Value) (w47 : Value) (w48 : Value) (w49 : Value) (w50 : Value) (w51 : Value) (w52 : Value) (w53 : Value) (w54 : Value) (w55 : Value) (w56 : Value) (w57 : Value) (w58 : Value) (w59 : Value) (w60 : Value) (w61 : Value) (w62 : Value) (w63 : Value) (w64 : Value) (w65 : Value) (w66 : Value) (w67 : Value) (w68 : Value) (w69 : Value) (w70 : Value) (w71 : Value) (w72 : Value) (w73 : Value) (w74 : Value) (w75 : Value) (w76 : Value) (w77 : Value) : zM l D y yX10_in (Cond.code yX10_in cX10_in 4 (some .boolean) :: zT) { frames := 0, cells := 0, slots := 0, locals := 0 } [.ref a0, .int p1, .int 0, .int 1] [(a0, .inr (9, [w2, w3, w4, w5, w6, w7, w8, w9, w10, w11, w12, w13, w14, w15, w16, w17, w18, w19, w20, w21, w22, w23, w24, w25, w26, w27, w28, w29, w30, w31, w32, w33, w34, w35, w36, w37, w38, w39, w40, w41, w42, w43, w44, w45, w46, w47, w48, w49, w50, w51, w52, w53, w54, w55, w56, w57, w58, w59, w60, w61, w62, w63, w64, w65, w66, w67, w68, w69, w70, w71, w72, w73, w74, w75, w76, w77]))] (zQi (S := Unit) D (fun r_ _ => r_ = (if p1 < 0 then 0 else (if 1 < p1 then 0 else 1))) (fun _ => [(a0, .inr (9, [w2, w3, w4, w5, w6, w7, w8, w9, w10, w11, w12, w13, w14, w15, w16, w17, w18, w19, w20, w21, w22, w23, w24, w25, w26, w27, w28, w29, w30, w31, w32, w33, w34, w35, w36, w37, w38, w39, w40, w41, w42, w43, w44, w45, w46, w47, w48, w49, w50, w51, w52, w53, w54, w55, w56, w57, w58, w59, w60, w61, w62, w63, w64, w65, w66, w67, w68, w69, w70, w71, w72, w73, w74, w75, w76, w77]))])) := by
  refine zent (cc := cX10_in) (maxL := 4) (ret := (some .boolean)) (by decide) (Nat.le_of_ble_eq_true rfl) ?_
  intro p e s m below meth c A H locs ls hx hb hml hr ht hown hlocks hin hA hK hE hS hW hl
  have hown : s.vm.findClass RX10 = some m.cls := hown
  have hW : zPD D A [(a0, .inr (9, [w2, w3, w4, w5, w6, w7, w8, w9, w10, w11, w12, w13, w14, w15, w16, w17, w18, w19, w20, w21, w22, w23, w24, w25, w26, w27, w28, w29, w30, w31, w32, w33, w34, w35, w36, w37, w38, w39, w40, w41, w42, w43, w44, w45, w46, w47, w48, w49, w50, w51, w52, w53, w54, w55, w56, w57, w58, w59, w60, w61, w62, w63, w64, w65, w66, w67, w68, w69, w70, w71, w72, w73, w74, w75, w76, w77]))] H := hW
  have hl : lv_has ls 4 [(0, .ref a0), (1, .int p1), (2, .int 0), (3, .int 1)] := hl
  refine lv_iload_n hx hb dX10_in_0 rfl (lv_at hl 1 rfl) ?_
  refine lv_iload_n hx hb dX10_in_1 rfl (lv_at hl 2 rfl) ?_
  refine lv_icmp_lt (tgt := 14) hx hb dX10_in_2 (by decide) (fun c1_ => ?_) (fun c1_ => ?_)
  · have b2_ : (-2147483648) ≤ Int32.toInt p1 ∧ Int32.toInt p1 ≤ (-1) := (by have u0 := zbnd p1; have u1 := (zi_lt _ _).mp c1_; have u2 : (0 : Int32).toInt = 0 := (by decide); omega)
    refine lv_iconst (v := 0) hx hb dX10_in_14 (by decide) ?_
    exact zret_z (v := 0) hx hb hr hlocks hS () rfl (by show _ = _; rw [if_pos c1_]) hW (Nat.le_of_ble_eq_true rfl) (Nat.le_of_ble_eq_true rfl) dX10_in_15
  · have b3_ : 0 ≤ Int32.toInt p1 ∧ Int32.toInt p1 ≤ 2147483647 := (by have u0 := zbnd p1; have u1 := (not_congr (zi_lt _ _)).mp c1_; have u2 : (0 : Int32).toInt = 0 := (by decide); omega)
    refine lv_iload_n hx hb dX10_in_5 rfl (lv_at hl 1 rfl) ?_
    refine lv_iload_n hx hb dX10_in_6 rfl (lv_at hl 3 rfl) ?_
    refine lv_icmp_gt (tgt := 14) hx hb dX10_in_7 (by decide) (fun c4_ => ?_) (fun c4_ => ?_)
    · have b5_ : 2 ≤ Int32.toInt p1 ∧ Int32.toInt p1 ≤ 2147483647 := (by have u0 := b3_; have u1 := (zi_lt _ _).mp c4_; have u2 : (1 : Int32).toInt = 1 := (by decide); omega)
      refine lv_iconst (v := 0) hx hb dX10_in_14 (by decide) ?_
      exact zret_z (v := 0) hx hb hr hlocks hS () rfl (by show _ = _; rw [if_neg c1_, if_pos c4_]) hW (Nat.le_of_ble_eq_true rfl) (Nat.le_of_ble_eq_true rfl) dX10_in_15
    · have b6_ : 0 ≤ Int32.toInt p1 ∧ Int32.toInt p1 ≤ 1 := (by have u0 := b3_; have u1 := (not_congr (zi_lt _ _)).mp c4_; have u2 : (1 : Int32).toInt = 1 := (by decide); omega)
      refine lv_iconst (v := 1) hx hb dX10_in_10 (by decide) ?_
      refine lv_goto (tgt := 15) hx hb dX10_in_11 (by decide) ?_
      exact zret_z (v := 1) hx hb hr hlocks hS () rfl (by show _ = _; rw [if_neg c1_, if_neg c4_]) hW (Nat.le_of_ble_eq_true rfl) (Nat.le_of_ble_eq_true rfl) dX10_in_15
set_option maxHeartbeats 8000000 in
set_option maxRecDepth 100000 in
theorem zc_X10_two_0 (l : Launch) (D : va_G) (y : Nat → ClassId) (a0 : Nat) (p1 : Int32) (w2 : Value) (w3 : Value) (w4 : Value) (w5 : Value) (w6 : Value) (w7 : Value) (w8 : Value) (w9 : Value) (a10 : Nat) (w11 : Value) (w12 : Value) (w13 : Value) (w14 : Value) (w15 : Value) (w16 : Value) (w17 : Value) (w18 : Value) (w19 : Value) (w20 : Value) (w21 : Value) (w22 : Value) (w23 : Value) (w24 : Value) (w25 : Value) (w26 : Value) (w27 : Value) (w28 : Value) (a29 : Nat) (a30 : Nat) (a31 : Nat) (w32 : Value) (w33 : Value) (w34 : Value) (w35 : Value) (w36 : Value) (w37 : Value) (w38 : Value) (w39 : Value) (w40 : Value) (w41 : Value) (w42 : Value) (w43 : Value) (w44 : Value) (w45 : Value) (w46 : Value) (w47 : Value) (w48 : Value) (w49 : Value) (w50 : Value) (w51 : Value) (w52 : Value) (w53 : Value) (w54 : Value) (w55 : Value) (w56 : Value) (w57 : Value) (w58 : Value) (w59 : Value) (w60 : Value) (w61 : Value) (w62 : Value) (w63 : Value) (w64 : Value) (w65 : Value) (w66 : Value) (w67 : Value) (w68 : Value) : zM l D y yX10_two (Cond.code yX10_two cX10_two 5 (some .int) :: zT) { frames := 5, cells := 0, slots := 0, locals := 108 } [.ref a0, .int p1] [(a0, .inr (9, [.int 0, .int 0, w2, .int 20, w3, .int 0, .int 0, w4, w5, w6, w7, w8, w9, .ref a10, w11, .int (-1), w12, w13, w14, w15, w16, w17, w18, w19, w20, w21, w22, w23, w24, w25, w26, w27, .int 0, w28, .ref a29, .int 0, .ref a30, .int 0, .ref a31, w32, w33, w34, w35, w36, w37, w38, w39, w40, w41, w42, w43, w44, w45, w46, w47, w48, w49, w50, w51, w52, w53, w54, w55, w56, w57, w58, w59, w60, w61, w62, w63, w64, w65, w66, w67, w68])), (a10, .inl (y 2, 7, .inl (fun _ => 0))), (a29, .inl (y 0, 7, .inl (fun _ => 0))), (a30, .inl (y 0, 7, .inl (fun _ => 0))), (a31, .inl (y 0, 7, .inl (fun _ => 0)))] (zQi (S := Unit) D (fun r_ _ => r_ = (if p1 < 0 then (-1) else (if 1 < p1 then (-1) else 0))) (fun _ => [])) := by
  refine zent (cc := cX10_two) (maxL := 5) (ret := (some .int)) (by decide) (Nat.le_of_ble_eq_true rfl) ?_
  intro p e s m below meth c A H locs ls hx hb hml hr ht hown hlocks hin hA hK hE hS hW hl
  have hown : s.vm.findClass RX10 = some m.cls := hown
  have hW : zPD D A [(a0, .inr (9, [.int 0, .int 0, w2, .int 20, w3, .int 0, .int 0, w4, w5, w6, w7, w8, w9, .ref a10, w11, .int (-1), w12, w13, w14, w15, w16, w17, w18, w19, w20, w21, w22, w23, w24, w25, w26, w27, .int 0, w28, .ref a29, .int 0, .ref a30, .int 0, .ref a31, w32, w33, w34, w35, w36, w37, w38, w39, w40, w41, w42, w43, w44, w45, w46, w47, w48, w49, w50, w51, w52, w53, w54, w55, w56, w57, w58, w59, w60, w61, w62, w63, w64, w65, w66, w67, w68])), (a10, .inl (y 2, 7, .inl (fun _ => 0))), (a29, .inl (y 0, 7, .inl (fun _ => 0))), (a30, .inl (y 0, 7, .inl (fun _ => 0))), (a31, .inl (y 0, 7, .inl (fun _ => 0)))] H := hW
  have hl : lv_has ls 5 [(0, .ref a0), (1, .int p1)] := hl
  refine lv_aload_n hx hb dX10_two_0 rfl (lv_at hl 0 rfl) ?_
  refine lv_iload_n hx hb dX10_two_1 rfl (lv_at hl 1 rfl) ?_
  refine lv_iconst (v := 0) hx hb dX10_two_2 (by decide) ?_
  refine lv_iconst (v := 1) hx hb dX10_two_3 (by decide) ?_
  refine zgo_i (wr := [(a10, .inl (y 2, 7, .inl (fun _ => 0))), (a29, .inl (y 0, 7, .inl (fun _ => 0))), (a30, .inl (y 0, 7, .inl (fun _ => 0))), (a31, .inl (y 0, 7, .inl (fun _ => 0)))]) (zrunV (As := [.int p1, .int 0, .int 1]) (rest := []) ⟨hx, hb, hml, hown, ht⟩ (zc_X10_in_11 l D y a0 p1 (.int 0) (.int 0) w2 (.int 20) w3 (.int 0) (.int 0) w4 w5 w6 w7 w8 w9 (.ref a10) w11 (.int (-1)) w12 w13 w14 w15 w16 w17 w18 w19 w20 w21 w22 w23 w24 w25 w26 w27 (.int 0) w28 (.ref a29) (.int 0) (.ref a30) (.int 0) (.ref a31) w32 w33 w34 w35 w36 w37 w38 w39 w40 w41 w42 w43 w44 w45 w46 w47 w48 w49 w50 w51 w52 w53 w54 w55 w56 w57 w58 w59 w60 w61 w62 w63 w64 w65 w66 w67 w68) (cwV 3 ht (zgV zm_240 zm_241 zm_242 zm_5 zm_243) rfl rfl rfl (by decide +kernel) ⟨(Nat.le_of_ble_eq_true rfl), (Nat.le_of_ble_eq_true rfl)⟩) hK hE hS hA hW [0] (by decide) rfl 0 rfl rfl rfl rfl hl.1 rfl (Nat.le_of_ble_eq_true rfl) dX10_two_4 (Nat.le_of_ble_eq_true rfl) (Nat.le_of_ble_eq_true rfl)) hS hA hW [0] [1, 2, 3, 4] rfl rfl (by decide) (by decide) (fun r1_ u H locs hw hW hS => ?_)
  have hW : zPD D A [(a10, .inl (y 2, 7, .inl (fun _ => 0))), (a29, .inl (y 0, 7, .inl (fun _ => 0))), (a30, .inl (y 0, 7, .inl (fun _ => 0))), (a31, .inl (y 0, 7, .inl (fun _ => 0))), (a0, .inr (9, [.int 0, .int 0, w2, .int 20, w3, .int 0, .int 0, w4, w5, w6, w7, w8, w9, .ref a10, w11, .int (-1), w12, w13, w14, w15, w16, w17, w18, w19, w20, w21, w22, w23, w24, w25, w26, w27, .int 0, w28, .ref a29, .int 0, .ref a30, .int 0, .ref a31, w32, w33, w34, w35, w36, w37, w38, w39, w40, w41, w42, w43, w44, w45, w46, w47, w48, w49, w50, w51, w52, w53, w54, w55, w56, w57, w58, w59, w60, w61, w62, w63, w64, w65, w66, w67, w68]))] H := hW
  have hw : r1_ = (if p1 < 0 then 0 else (if 1 < p1 then 0 else 1)) := hw
  by_cases c2_ : p1 < 0
  · have b3_ : (-2147483648) ≤ Int32.toInt p1 ∧ Int32.toInt p1 ≤ (-1) := (by have u0 := zbnd p1; have u1 := (zi_lt _ _).mp c2_; have u2 : (0 : Int32).toInt = 0 := (by decide); omega)
    rw [if_pos c2_] at hw
    subst hw
    refine lv_if_ne (tgt := 12) hx hb dX10_two_7 (by decide) (fun c4_ => absurd (by decide) c4_) (fun c4_ => ?_)
    refine lv_iconst (v := (-1)) hx hb dX10_two_10 (by decide) ?_
    exact zret_i (v := (-1)) hx hb hr hlocks hS () (by show _ = _; rw [if_pos c2_]) (hW.sub [] (by decide) rfl) (Nat.le_of_ble_eq_true rfl) (Nat.le_of_ble_eq_true rfl) dX10_two_11
  · have b5_ : 0 ≤ Int32.toInt p1 ∧ Int32.toInt p1 ≤ 2147483647 := (by have u0 := zbnd p1; have u1 := (not_congr (zi_lt _ _)).mp c2_; have u2 : (0 : Int32).toInt = 0 := (by decide); omega)
    rw [if_neg c2_] at hw
    by_cases c6_ : 1 < p1
    · have b7_ : 2 ≤ Int32.toInt p1 ∧ Int32.toInt p1 ≤ 2147483647 := (by have u0 := b5_; have u1 := (zi_lt _ _).mp c6_; have u2 : (1 : Int32).toInt = 1 := (by decide); omega)
      rw [if_pos c6_] at hw
      subst hw
      refine lv_if_ne (tgt := 12) hx hb dX10_two_7 (by decide) (fun c8_ => absurd (by decide) c8_) (fun c8_ => ?_)
      refine lv_iconst (v := (-1)) hx hb dX10_two_10 (by decide) ?_
      exact zret_i (v := (-1)) hx hb hr hlocks hS () (by show _ = _; rw [if_neg c2_, if_pos c6_]) (hW.sub [] (by decide) rfl) (Nat.le_of_ble_eq_true rfl) (Nat.le_of_ble_eq_true rfl) dX10_two_11
    · have b9_ : 0 ≤ Int32.toInt p1 ∧ Int32.toInt p1 ≤ 1 := (by have u0 := b5_; have u1 := (not_congr (zi_lt _ _)).mp c6_; have u2 : (1 : Int32).toInt = 1 := (by decide); omega)
      rw [if_neg c6_] at hw
      subst hw
      refine lv_if_ne (tgt := 12) hx hb dX10_two_7 (by decide) (fun c10_ => ?_) (fun c10_ => absurd c10_ (by decide))
      refine lv_aload_n hx hb dX10_two_12 rfl (lv_at hl 0 rfl) ?_
      refine zgo_v (wr := [(a10, .inl (y 2, 7, .inl (fun _ => 0))), (a29, .inl (y 0, 7, .inl (fun _ => 0))), (a30, .inl (y 0, 7, .inl (fun _ => 0))), (a31, .inl (y 0, 7, .inl (fun _ => 0)))]) (zrunV (As := []) (rest := []) ⟨hx, hb, hml, hown, ht⟩ (zc_X10_layRain_0 l D y a0 (.int 0) w2 (.int 20) w3 (.int 0) (.int 0) w4 w5 w6 w7 w8 w9 (.ref a10) w11 w12 w13 w14 w15 w16 w17 w18 w19 w20 w21 w22 w23 w24 w25 w26 w27 w28 (.ref a29) (.int 0) (.ref a30) (.int 0) (.ref a31) w32 w33 w34 w35 w36 w37 w38 w39 w40 w41 w42 w43 w44 w45 w46 w47 w48 w49 w50 w51 w52 w53 w54 w55 w56 w57 w58 w59 w60 w61 w62 w63 w64 w65 w66 w67 w68) (cwV 0 ht (zgV zm_377 zm_378 zm_379 zm_5 zm_380) rfl rfl rfl (by decide +kernel) ⟨(Nat.le_of_ble_eq_true rfl), (Nat.le_of_ble_eq_true rfl)⟩) hK hE hS hA hW [4] (by decide) rfl 0 rfl rfl rfl rfl hl.1 rfl (Nat.le_of_ble_eq_true rfl) dX10_two_13 (Nat.le_of_ble_eq_true rfl) (Nat.le_of_ble_eq_true rfl)) hS hA hW [4] [0, 1, 2, 3] rfl rfl (by decide) (by decide) (fun u H locs hw hW hS => ?_)
      have hW : zPD D A [(a10, .inl (y 2, 7, .inl (fun _ => 0))), (a29, .inl (y 0, 7, .inl (fun _ => 0))), (a30, .inl (y 0, 7, .inl (fun _ => 0))), (a31, .inl (y 0, 7, .inl (fun _ => 0))), (a0, .inr (9, [.int 0, .int 0, w2, .int 20, w3, .int 0, .int 0, w4, w5, w6, w7, w8, w9, .ref a10, w11, .int (-1), w12, w13, w14, w15, w16, w17, w18, w19, w20, w21, w22, w23, w24, w25, w26, w27, .int 0, w28, .ref a29, .int 0, .ref a30, .int 0, .ref a31, w32, w33, w34, w35, w36, w37, w38, w39, w40, w41, w42, w43, w44, w45, w46, w47, w48, w49, w50, w51, w52, w53, w54, w55, w56, w57, w58, w59, w60, w61, w62, w63, w64, w65, w66, w67, w68]))] H := hW
      refine lv_aload_n hx hb dX10_two_16 rfl (lv_at hl 0 rfl) ?_
      refine zgo_v (wr := [(a10, .inl (y 2, 7, .inl (fun _ => 0))), (a29, .inl (y 0, 7, .inl (fun _ => 0)))]) (zrunV (As := []) (rest := []) ⟨hx, hb, hml, hown, ht⟩ (zc_X10_layRound_0 l D y a0 (.int 0) (.int 0) w2 (.int 20) w3 (.int 0) (.int 0) w4 w5 w6 w7 w8 w9 (.ref a10) w11 (.int (-1)) w12 w13 w14 w15 w16 w17 w18 w19 w20 w21 w22 w23 w24 w25 w26 w27 (.int 0) w28 (.ref a29) a30 a31 w32 w33 w34 w35 w36 w37 w38 w39 w40 w41 w42 w43 w44 w45 w46 w47 w48 w49 w50 w51 w52 w53 w54 w55 w56 w57 w58 w59 w60 w61 w62 w63 w64 w65 w66 w67 w68) (cwV 0 ht (zgV zm_844 zm_845 zm_846 zm_5 zm_847) rfl rfl rfl (by decide +kernel) ⟨(Nat.le_of_ble_eq_true rfl), (Nat.le_of_ble_eq_true rfl)⟩) hK hE hS hA hW [4, 2, 3] (by decide) rfl 0 rfl rfl rfl rfl hl.1 rfl (Nat.le_of_ble_eq_true rfl) dX10_two_17 (Nat.le_of_ble_eq_true rfl) (Nat.le_of_ble_eq_true rfl)) hS hA hW [4, 2, 3] [0, 1] rfl rfl (by decide) (by decide) (fun u H locs hw hW hS => ?_)
      have hW : zPD D A [(a10, .inl (y 2, 7, .inl (fun _ => 0))), (a29, .inl (y 0, 7, .inl (fun _ => 0))), (a0, .inr (9, [.int 0, .int 0, w2, .int 20, w3, .int 0, .int 0, w4, w5, w6, w7, w8, w9, .ref a10, w11, .int (-1), w12, w13, w14, w15, w16, w17, w18, w19, w20, w21, w22, w23, w24, w25, w26, w27, .int 0, w28, .ref a29, .int 0, .ref a30, .int 0, .ref a31, w32, w33, w34, w35, w36, w37, w38, w39, w40, w41, w42, w43, w44, w45, w46, w47, w48, w49, w50, w51, w52, w53, w54, w55, w56, w57, w58, w59, w60, w61, w62, w63, w64, w65, w66, w67, w68])), (a30, .inl (y 0, 7, .inl (fun _ => 0))), (a31, .inl (y 0, 7, .inl (fun _ => 0)))] H := hW
      refine lv_aload_n hx hb dX10_two_20 rfl (lv_at hl 0 rfl) ?_
      refine zgo_v (wr := [(a30, .inl (y 0, 7, .inl (fun _ => 0))), (a31, .inl (y 0, 7, .inl (fun _ => 0)))]) (zrunV (As := []) (rest := []) ⟨hx, hb, hml, hown, ht⟩ (zc_X10_layOpen_0 l D y a0 (.int 0) (.int 0) w2 (.int 20) w3 (.int 0) (.int 0) w4 w5 w6 w7 w8 w9 a10 w11 (.int (-1)) w12 w13 w14 w15 w16 w17 w18 w19 w20 w21 w22 w23 w24 w25 w26 w27 (.int 0) w28 a29 (.int 0) (.ref a30) (.int 0) (.ref a31) w32 w33 w34 w35 w36 w37 w38 w39 w40 w41 w42 w43 w44 w45 w46 w47 w48 w49 w50 w51 w52 w53 w54 w55 w56 w57 w58 w59 w60 w61 w62 w63 w64 w65 w66 w67 w68) (cwV 0 ht (zgV zm_397 zm_398 zm_399 zm_5 zm_400) rfl rfl rfl (by decide +kernel) ⟨(Nat.le_of_ble_eq_true rfl), (Nat.le_of_ble_eq_true rfl)⟩) hK hE hS hA hW [2, 0, 1] (by decide) rfl 0 rfl rfl rfl rfl hl.1 rfl (Nat.le_of_ble_eq_true rfl) dX10_two_21 (Nat.le_of_ble_eq_true rfl) (Nat.le_of_ble_eq_true rfl)) hS hA hW [2, 0, 1] [3, 4] rfl rfl (by decide) (by decide) (fun u H locs hw hW hS => ?_)
      have hW : zPD D A [(a30, .inl (y 0, 7, .inl (fun _ => 0))), (a31, .inl (y 0, 7, .inl (fun _ => 0))), (a0, .inr (9, [.int 0, .int 0, w2, .int 20, w3, .int 0, .int 0, w4, w5, w6, w7, w8, w9, .ref a10, w11, .int (-1), w12, w13, w14, w15, w16, w17, w18, w19, w20, w21, w22, w23, w24, w25, w26, w27, .int 0, w28, .ref a29, .int 0, .ref a30, .int 0, .ref a31, w32, w33, w34, w35, w36, w37, w38, w39, w40, w41, w42, w43, w44, w45, w46, w47, w48, w49, w50, w51, w52, w53, w54, w55, w56, w57, w58, w59, w60, w61, w62, w63, w64, w65, w66, w67, w68])), (a10, .inl (y 2, 7, .inl (fun _ => 0))), (a29, .inl (y 0, 7, .inl (upd (upd (upd (upd (upd (upd (upd (fun _ => 0) 0 99999) 1 99999) 2 99999) 3 99999) 4 99999) 5 99999) 6 99999)))] H := hW
      refine lv_aload_n hx hb dX10_two_24 rfl (lv_at hl 0 rfl) ?_
      refine zget hx hb ht inlX10 hown hK hW 2 rfl rfl 37 (by decide) zm_177 rfl dX10_two_25 ?_
      refine lv_aload_n hx hb dX10_two_28 rfl (lv_at hl 0 rfl) ?_
      refine zget hx hb ht inlX10 hown hK hW 2 rfl rfl 37 (by decide) zm_177 rfl dX10_two_29 ?_
      refine lv_iconst (v := 2) hx hb dX10_two_32 (by decide) ?_
      refine lv_idiv hx hb dX10_two_33 (by decide) ?_
      refine ztop (w := .int 0) (congrArg Value.int (by decide)) ?_
      refine lv_isub hx hb dX10_two_34 ?_
      refine ztop (w := .int 0) (congrArg Value.int (by decide)) ?_
      refine lv_istore_n (lv' := [(2, .int 0), (0, .ref a0), (1, .int p1)]) hx hb dX10_two_35 rfl hl (by decide) rfl (fun ls hl => ?_)
      refine lv_aload_n hx hb dX10_two_36 rfl (lv_at hl 1 rfl) ?_
      refine lv_iconst (v := 0) hx hb dX10_two_37 (by decide) ?_
      refine lv_iload_n hx hb dX10_two_38 rfl (lv_at hl 0 rfl) ?_
      refine lv_aload_n hx hb dX10_two_39 rfl (lv_at hl 1 rfl) ?_
      refine zget hx hb ht inlX10 hown hK hW 2 rfl rfl 1 (by decide) zm_141 rfl dX10_two_40 ?_
      refine zgo_i (wr := [(a30, .inl (y 0, 7, .inl (fun _ => 0))), (a31, .inl (y 0, 7, .inl (fun _ => 0))), (a10, .inl (y 2, 7, .inl (fun _ => 0))), (a29, .inl (y 0, 7, .inl (upd (upd (upd (upd (upd (upd (upd (fun _ => 0) 0 99999) 1 99999) 2 99999) 3 99999) 4 99999) 5 99999) 6 99999)))]) (zrunV (As := [.int 0, .int 0, .int 0]) (rest := []) ⟨hx, hb, hml, hown, ht⟩ (zc_X10_goes_0 l D y a0 (.int 0) (.int 0) w2 (.int 20) w3 w4 w5 w6 w7 w8 w9 (.ref a10) w11 (.int (-1)) w12 w13 w14 w15 w16 w17 w18 w19 w20 w21 w22 w23 w24 w25 w26 w27 (.int 0) w28 (.ref a29) (.int 0) (.ref a30) (.int 0) (.ref a31) w32 w33 w34 w35 w36 w37 w38 w39 w40 w41 w42 w43 w44 w45 w46 w47 w48 w49 w50 w51 w52 w53 w54 w55 w56 w57 w58 w59 w60 w61 w62 w63 w64 w65 w66 w67 w68) (cwV 3 ht (zgV zm_852 zm_853 zm_854 zm_5 zm_855) rfl rfl rfl (by decide +kernel) ⟨(Nat.le_of_ble_eq_true rfl), (Nat.le_of_ble_eq_true rfl)⟩) hK hE hS hA hW [2] (by decide) rfl 0 rfl rfl rfl rfl hl.1 rfl (Nat.le_of_ble_eq_true rfl) dX10_two_43 (Nat.le_of_ble_eq_true rfl) (Nat.le_of_ble_eq_true rfl)) hS hA hW [2] [0, 1, 3, 4] rfl rfl (by decide) (by decide) (fun r14_ u H locs hw hW hS => ?_)
      have hW : zPD D A [(a30, .inl (y 0, 7, .inl (fun _ => 0))), (a31, .inl (y 0, 7, .inl (fun _ => 0))), (a10, .inl (y 2, 7, .inl (fun _ => 0))), (a29, .inl (y 0, 7, .inl (upd (upd (upd (upd (upd (upd (upd (fun _ => 0) 0 99999) 1 99999) 2 99999) 3 99999) 4 99999) 5 99999) 6 99999))), (a0, .inr (9, [.int 0, .int 0, w2, .int 20, w3, .int 0, .int 0, w4, w5, w6, w7, w8, w9, .ref a10, w11, .int (-1), w12, w13, w14, w15, w16, w17, w18, w19, w20, w21, w22, w23, w24, w25, w26, w27, .int 0, w28, .ref a29, .int 0, .ref a30, .int 0, .ref a31, w32, w33, w34, w35, w36, w37, w38, w39, w40, w41, w42, w43, w44, w45, w46, w47, w48, w49, w50, w51, w52, w53, w54, w55, w56, w57, w58, w59, w60, w61, w62, w63, w64, w65, w66, w67, w68]))] H := hW
      have hw : r14_ = 0 := hw
      subst hw
      refine lv_istore_n (lv' := [(3, .int 0), (2, .int 0), (0, .ref a0), (1, .int p1)]) hx hb dX10_two_46 rfl hl (by decide) rfl (fun ls hl => ?_)
      refine lv_aload_n hx hb dX10_two_47 rfl (lv_at hl 2 rfl) ?_
      refine lv_iload_n hx hb dX10_two_48 rfl (lv_at hl 1 rfl) ?_
      refine lv_aload_n hx hb dX10_two_49 rfl (lv_at hl 2 rfl) ?_
      refine zget hx hb ht inlX10 hown hK hW 4 rfl rfl 37 (by decide) zm_177 rfl dX10_two_50 ?_
      refine lv_aload_n hx hb dX10_two_53 rfl (lv_at hl 2 rfl) ?_
      refine zget hx hb ht inlX10 hown hK hW 4 rfl rfl 1 (by decide) zm_141 rfl dX10_two_54 ?_
      refine zgo_i (wr := [(a30, .inl (y 0, 7, .inl (fun _ => 0))), (a31, .inl (y 0, 7, .inl (fun _ => 0))), (a10, .inl (y 2, 7, .inl (fun _ => 0))), (a29, .inl (y 0, 7, .inl (upd (upd (upd (upd (upd (upd (upd (fun _ => 0) 0 99999) 1 99999) 2 99999) 3 99999) 4 99999) 5 99999) 6 99999)))]) (zrunV (As := [.int 0, .int 0, .int 0]) (rest := []) ⟨hx, hb, hml, hown, ht⟩ (zc_X10_goes_0 l D y a0 (.int 0) (.int 0) w2 (.int 20) w3 w4 w5 w6 w7 w8 w9 (.ref a10) w11 (.int (-1)) w12 w13 w14 w15 w16 w17 w18 w19 w20 w21 w22 w23 w24 w25 w26 w27 (.int 0) w28 (.ref a29) (.int 0) (.ref a30) (.int 0) (.ref a31) w32 w33 w34 w35 w36 w37 w38 w39 w40 w41 w42 w43 w44 w45 w46 w47 w48 w49 w50 w51 w52 w53 w54 w55 w56 w57 w58 w59 w60 w61 w62 w63 w64 w65 w66 w67 w68) (cwV 3 ht (zgV zm_852 zm_853 zm_854 zm_5 zm_855) rfl rfl rfl (by decide +kernel) ⟨(Nat.le_of_ble_eq_true rfl), (Nat.le_of_ble_eq_true rfl)⟩) hK hE hS hA hW [4] (by decide) rfl 0 rfl rfl rfl rfl hl.1 rfl (Nat.le_of_ble_eq_true rfl) dX10_two_57 (Nat.le_of_ble_eq_true rfl) (Nat.le_of_ble_eq_true rfl)) hS hA hW [4] [0, 1, 2, 3] rfl rfl (by decide) (by decide) (fun r15_ u H locs hw hW hS => ?_)
      have hW : zPD D A [(a30, .inl (y 0, 7, .inl (fun _ => 0))), (a31, .inl (y 0, 7, .inl (fun _ => 0))), (a10, .inl (y 2, 7, .inl (fun _ => 0))), (a29, .inl (y 0, 7, .inl (upd (upd (upd (upd (upd (upd (upd (fun _ => 0) 0 99999) 1 99999) 2 99999) 3 99999) 4 99999) 5 99999) 6 99999))), (a0, .inr (9, [.int 0, .int 0, w2, .int 20, w3, .int 0, .int 0, w4, w5, w6, w7, w8, w9, .ref a10, w11, .int (-1), w12, w13, w14, w15, w16, w17, w18, w19, w20, w21, w22, w23, w24, w25, w26, w27, .int 0, w28, .ref a29, .int 0, .ref a30, .int 0, .ref a31, w32, w33, w34, w35, w36, w37, w38, w39, w40, w41, w42, w43, w44, w45, w46, w47, w48, w49, w50, w51, w52, w53, w54, w55, w56, w57, w58, w59, w60, w61, w62, w63, w64, w65, w66, w67, w68]))] H := hW
      have hw : r15_ = 0 := hw
      subst hw
      refine lv_istore (lv' := [(4, .int 0), (3, .int 0), (2, .int 0), (0, .ref a0), (1, .int p1)]) hx hb dX10_two_60 hl (by decide) rfl (fun ls hl => ?_)
      refine lv_iload_n hx hb dX10_two_62 rfl (lv_at hl 4 rfl) ?_
      refine lv_if_ne (tgt := 73) hx hb dX10_two_63 (by decide) (fun c16_ => ?_) (fun c16_ => ?_)
      · have b17_ : 1 ≤ Int32.toInt p1 ∧ Int32.toInt p1 ≤ 1 := (by have u0 := b9_; have u1 := (not_congr (zi_eq _ _)).mp c16_; have u2 : (0 : Int32).toInt = 0 := (by decide); omega)
        refine lv_iload_n hx hb dX10_two_73 rfl (lv_at hl 1 rfl) ?_
        refine lv_iload hx hb dX10_two_74 (lv_at hl 0 rfl) ?_
        refine lv_icmp_le (tgt := 83) hx hb dX10_two_76 (by decide) (fun c18_ => ?_) (fun c18_ => absurd (by decide) c18_)
        refine lv_iload hx hb dX10_two_83 (lv_at hl 0 rfl) ?_
        exact zret_i (v := 0) hx hb hr hlocks hS () (by show _ = _; rw [if_neg c2_, if_neg c6_]) (hW.sub [] (by decide) rfl) (Nat.le_of_ble_eq_true rfl) (Nat.le_of_ble_eq_true rfl) dX10_two_85
      · have b19_ : 0 ≤ Int32.toInt p1 ∧ Int32.toInt p1 ≤ 0 := (by have u0 := b9_; have u1 := (zi_eq _ _).mp c16_; have u2 : (0 : Int32).toInt = 0 := (by decide); omega)
        refine lv_aload_n hx hb dX10_two_66 rfl (lv_at hl 3 rfl) ?_
        refine zgo_i (wr := [(a30, .inl (y 0, 7, .inl (fun _ => 0))), (a31, .inl (y 0, 7, .inl (fun _ => 0))), (a10, .inl (y 2, 7, .inl (fun _ => 0))), (a29, .inl (y 0, 7, .inl (upd (upd (upd (upd (upd (upd (upd (fun _ => 0) 0 99999) 1 99999) 2 99999) 3 99999) 4 99999) 5 99999) 6 99999)))]) (zrunV (As := []) (rest := []) ⟨hx, hb, hml, hown, ht⟩ (zc_X10_harmTillEnd_0 l D y a0 w2 w3 (.int 0) (.int 0) w4 w5 w6 w7 w8 w9 (.ref a10) w11 w12 w13 w14 w15 w16 w17 w18 w19 w20 w21 w22 w23 w24 w25 w26 w27 (.int 0) w28 (.ref a29) (.int 0) (.ref a30) (.int 0) (.ref a31) w32 w33 w34 w35 w36 w37 w38 w39 w40 w41 w42 w43 w44 w45 w46 w47 w48 w49 w50 w51 w52 w53 w54 w55 w56 w57 w58 w59 w60 w61 w62 w63 w64 w65 w66 w67 w68) (cwV 0 ht (zgV zm_856 zm_857 zm_858 zm_5 zm_859) rfl rfl rfl (by decide +kernel) ⟨(Nat.le_of_ble_eq_true rfl), (Nat.le_of_ble_eq_true rfl)⟩) hK hE hS hA hW [4] (by decide) rfl 0 rfl rfl rfl rfl hl.1 rfl (Nat.le_of_ble_eq_true rfl) dX10_two_67 (Nat.le_of_ble_eq_true rfl) (Nat.le_of_ble_eq_true rfl)) hS hA hW [4] [0, 1, 2, 3] rfl rfl (by decide) (by decide) (fun r20_ u H locs hw hW hS => ?_)
        have hW : zPD D A [(a30, .inl (y 0, 7, .inl (fun _ => 0))), (a31, .inl (y 0, 7, .inl (fun _ => 0))), (a10, .inl (y 2, 7, .inl (fun _ => 0))), (a29, .inl (y 0, 7, .inl (upd (upd (upd (upd (upd (upd (upd (fun _ => 0) 0 99999) 1 99999) 2 99999) 3 99999) 4 99999) 5 99999) 6 99999))), (a0, .inr (9, [.int 0, .int 0, w2, .int 20, w3, .int 0, .int 0, w4, w5, w6, w7, w8, w9, .ref a10, w11, .int (-1), w12, w13, w14, w15, w16, w17, w18, w19, w20, w21, w22, w23, w24, w25, w26, w27, .int 0, w28, .ref a29, .int 0, .ref a30, .int 0, .ref a31, w32, w33, w34, w35, w36, w37, w38, w39, w40, w41, w42, w43, w44, w45, w46, w47, w48, w49, w50, w51, w52, w53, w54, w55, w56, w57, w58, w59, w60, w61, w62, w63, w64, w65, w66, w67, w68]))] H := hW
        have hw : r20_ = 0 := hw
        subst hw
        refine lv_goto (tgt := 85) hx hb dX10_two_70 (by decide) ?_
        exact zret_i (v := 0) hx hb hr hlocks hS () (by show _ = _; rw [if_neg c2_, if_neg c6_]) (hW.sub [] (by decide) rfl) (Nat.le_of_ble_eq_true rfl) (Nat.le_of_ble_eq_true rfl) dX10_two_85
set_option maxHeartbeats 8000000 in
set_option maxRecDepth 100000 in
theorem zc_X9_worth_0 (l : Launch) (D : va_G) (y : Nat → ClassId) (a0 : Nat) (p1 : Int32) (w2 : Value) (w3 : Value) (w4 : Value) (a5 : Nat) (w6 : Value) (w7 : Value) (w8 : Value) (w9 : Value) (w10 : Value) (w11 : Value) (w12 : Value) (w13 : Value) (w14 : Value) (w15 : Value) (w16 : Value) (w17 : Value) (w18 : Value) (w19 : Value) (w20 : Value) (w21 : Value) : zM l D y yX9_worth (Cond.code yX9_worth cX9_worth 3 (some .int) :: zT) { frames := 1, cells := 0, slots := 0, locals := 21 } [.ref a0, .int p1] [(a0, .inr (8, [w2, w3, w4, .ref a5, w6, w7, w8, w9, w10])), (a5, .inr (6, [w11, .int 0, w12, w13, w14, w15, w16, w17, w18, w19, w20, w21]))] (zQi (S := Unit) D (fun r_ _ => r_ = (-1)) (fun _ => [])) := by
  refine zent (cc := cX9_worth) (maxL := 3) (ret := (some .int)) (by decide) (Nat.le_of_ble_eq_true rfl) ?_
  intro p e s m below meth c A H locs ls hx hb hml hr ht hown hlocks hin hA hK hE hS hW hl
  have hown : s.vm.findClass RX9 = some m.cls := hown
  have hW : zPD D A [(a0, .inr (8, [w2, w3, w4, .ref a5, w6, w7, w8, w9, w10])), (a5, .inr (6, [w11, .int 0, w12, w13, w14, w15, w16, w17, w18, w19, w20, w21]))] H := hW
  have hl : lv_has ls 3 [(0, .ref a0), (1, .int p1)] := hl
  refine lv_aload_n hx hb dX9_worth_0 rfl (lv_at hl 0 rfl) ?_
  refine zget hx hb ht inlX9 hown hK hW 0 rfl rfl 3 (by decide) zm_23 rfl dX9_worth_1 ?_
  refine lv_iload_n hx hb dX9_worth_4 rfl (lv_at hl 1 rfl) ?_
  refine zgo_i (wr := [(a0, .inr (8, [w2, w3, w4, .ref a5, w6, w7, w8, w9, w10]))]) (zrunV (As := [.int p1]) (rest := []) ⟨hx, hb, hml, hown, ht⟩ (zc_X7_has_0 l D y a5 p1 w11 w12 w13 w14 w15 w16 w17 w18 w19 w20 w21) (cwV 1 ht (zgV zm_263 zm_264 zm_265 zm_22 zm_266) rfl rfl rfl (by decide +kernel) ⟨(Nat.le_of_ble_eq_true rfl), (Nat.le_of_ble_eq_true rfl)⟩) hK hE hS hA hW [1] (by decide) rfl 0 rfl rfl rfl rfl hl.1 rfl (Nat.le_of_ble_eq_true rfl) dX9_worth_5 (Nat.le_of_ble_eq_true rfl) (Nat.le_of_ble_eq_true rfl)) hS hA hW [1] [0] rfl rfl (by decide) (by decide) (fun r1_ u H locs hw hW hS => ?_)
  have hW : zPD D A [(a0, .inr (8, [w2, w3, w4, .ref a5, w6, w7, w8, w9, w10])), (a5, .inr (6, [w11, .int 0, w12, w13, w14, w15, w16, w17, w18, w19, w20, w21]))] H := hW
  have hw : r1_ = 0 := hw
  subst hw
  refine lv_if_ne (tgt := 13) hx hb dX9_worth_8 (by decide) (fun c2_ => absurd (by decide) c2_) (fun c2_ => ?_)
  refine lv_iconst (v := (-1)) hx hb dX9_worth_11 (by decide) ?_
  exact zret_i (v := (-1)) hx hb hr hlocks hS () rfl (hW.sub [] (by decide) rfl) (Nat.le_of_ble_eq_true rfl) (Nat.le_of_ble_eq_true rfl) dX9_worth_12
set_option maxHeartbeats 8000000 in
set_option maxRecDepth 100000 in
theorem zc_X10_worth_0 (l : Launch) (D : va_G) (y : Nat → ClassId) (a0 : Nat) (p1 : Int32) (w2 : Value) (w3 : Value) (w4 : Value) (w5 : Value) (w6 : Value) (w7 : Value) (w8 : Value) (w9 : Value) (w10 : Value) (w11 : Value) (w12 : Value) (w13 : Value) (w14 : Value) (w15 : Value) (w16 : Value) (w17 : Value) (w18 : Value) (w19 : Value) (w20 : Value) (w21 : Value) (w22 : Value) (w23 : Value) (w24 : Value) (w25 : Value) (w26 : Value) (w27 : Value) (w28 : Value) (w29 : Value) (w30 : Value) (w31 : Value) (w32 : Value) (w33 : Value) (w34 : Value) (w35 : Value) (w36 : Value) (w37 : Value) (w38 : Value) (w39 : Value) (w40 : Value) (w41 : Value) (w42 : Value) (w43 : Value) (w44 : Value) (w45 : Value) (w46 : Value) (w47 : Value) (w48 : Value) (w49 : Value) (w50 : Value) (w51 : Value) (w52 : Value) (w53 : Value) (w54 : Value) (w55 : Value) (w56 : Value) (w57 : Value) (w58 : Value) (w59 : Value) (w60 : Value) (w61 : Value) (w62 : Value) (w63 : Value) (w64 : Value) (w65 : Value) (w66 : Value) (w67 : Value) (w68 : Value) (w69 : Value) (w70 : Value) (w71 : Value) (w72 : Value) (w73 : Value) (w74 : Value) (w75 : Value) (w76 : Value) : zM l D y yX10_worth (Cond.code yX10_worth cX10_worth 4 (some .int) :: zT) { frames := 2, cells := 0, slots := 0, locals := 44 } [.ref a0, .int p1] [(a0, .inr (9, [.int 0, w2, w3, w4, w5, w6, w7, w8, w9, w10, w11, w12, w13, w14, w15, w16, w17, w18, w19, w20, w21, w22, w23, w24, w25, w26, w27, w28, w29, w30, w31, w32, w33, w34, w35, w36, w37, w38, w39, w40, w41, w42, w43, w44, w45, w46, w47, w48, w49, w50, w51, w52, w53, w54, w55, w56, w57, w58, w59, w60, w61, w62, w63, w64, w65, w66, w67, w68, w69, w70, w71, w72, w73, w74, w75, w76]))] (zQi (S := Unit) D (fun r_ _ => r_ = (-1)) (fun _ => [])) := by
  refine zent (cc := cX10_worth) (maxL := 4) (ret := (some .int)) (by decide) (Nat.le_of_ble_eq_true rfl) ?_
  intro p e s m below meth c A H locs ls hx hb hml hr ht hown hlocks hin hA hK hE hS hW hl
  have hown : s.vm.findClass RX10 = some m.cls := hown
  have hW : zPD D A [(a0, .inr (9, [.int 0, w2, w3, w4, w5, w6, w7, w8, w9, w10, w11, w12, w13, w14, w15, w16, w17, w18, w19, w20, w21, w22, w23, w24, w25, w26, w27, w28, w29, w30, w31, w32, w33, w34, w35, w36, w37, w38, w39, w40, w41, w42, w43, w44, w45, w46, w47, w48, w49, w50, w51, w52, w53, w54, w55, w56, w57, w58, w59, w60, w61, w62, w63, w64, w65, w66, w67, w68, w69, w70, w71, w72, w73, w74, w75, w76]))] H := hW
  have hl : lv_has ls 4 [(0, .ref a0), (1, .int p1)] := hl
  refine lv_aload_n hx hb dX10_worth_0 rfl (lv_at hl 0 rfl) ?_
  refine lv_iload_n hx hb dX10_worth_1 rfl (lv_at hl 1 rfl) ?_
  refine zgo_i (wr := []) (zrunV (As := [.int p1]) (rest := []) ⟨hx, hb, hml, hown, ht⟩ (zc_X10_isWindow_0 l D y a0 p1 w2 w3 w4 w5 w6 w7 w8 w9 w10 w11 w12 w13 w14 w15 w16 w17 w18 w19 w20 w21 w22 w23 w24 w25 w26 w27 w28 w29 w30 w31 w32 w33 w34 w35 w36 w37 w38 w39 w40 w41 w42 w43 w44 w45 w46 w47 w48 w49 w50 w51 w52 w53 w54 w55 w56 w57 w58 w59 w60 w61 w62 w63 w64 w65 w66 w67 w68 w69 w70 w71 w72 w73 w74 w75 w76) (cwV 1 ht (zgV zm_353 zm_354 zm_355 zm_5 zm_356) rfl rfl rfl (by decide +kernel) ⟨(Nat.le_of_ble_eq_true rfl), (Nat.le_of_ble_eq_true rfl)⟩) hK hE hS hA hW [0] (by decide) rfl 0 rfl rfl rfl rfl hl.1 rfl (Nat.le_of_ble_eq_true rfl) dX10_worth_2 (Nat.le_of_ble_eq_true rfl) (Nat.le_of_ble_eq_true rfl)) hS hA hW [0] [] rfl rfl (by decide) (by decide) (fun r1_ u H locs hw hW hS => ?_)
  have hW : zPD D A [(a0, .inr (9, [.int 0, w2, w3, w4, w5, w6, w7, w8, w9, w10, w11, w12, w13, w14, w15, w16, w17, w18, w19, w20, w21, w22, w23, w24, w25, w26, w27, w28, w29, w30, w31, w32, w33, w34, w35, w36, w37, w38, w39, w40, w41, w42, w43, w44, w45, w46, w47, w48, w49, w50, w51, w52, w53, w54, w55, w56, w57, w58, w59, w60, w61, w62, w63, w64, w65, w66, w67, w68, w69, w70, w71, w72, w73, w74, w75, w76]))] H := hW
  have hw : r1_ = 0 := hw
  subst hw
  refine lv_if_ne (tgt := 10) hx hb dX10_worth_5 (by decide) (fun c2_ => absurd (by decide) c2_) (fun c2_ => ?_)
  refine lv_iconst (v := (-1)) hx hb dX10_worth_8 (by decide) ?_
  exact zret_i (v := (-1)) hx hb hr hlocks hS () rfl (hW.sub [] (by decide) rfl) (Nat.le_of_ble_eq_true rfl) (Nat.le_of_ble_eq_true rfl) dX10_worth_9
set_option maxHeartbeats 8000000 in
set_option maxRecDepth 100000 in
theorem zc_X1_turnTo_1 (l : Launch) (D : va_G) (y : Nat → ClassId) (a0 : Nat) (w1 : Value) (w2 : Value) (w3 : Value) (w4 : Value) (w5 : Value) (w6 : Value) (w7 : Value) (a8 : Nat) : zM l D y yX1_turnTo (Cond.code yX1_turnTo cX1_turnTo 3 none :: zT) { frames := 0, cells := 0, slots := 0, locals := 0 } [.ref a0, .int 0] [(a0, .inr (1, [w1, .int 0, w2, w3, w4, w5, w6, w7, .ref a8])), (a8, .inl (y 2, 4, .inl (upd (fun _ => 0) 0 1)))] (zQv (S := Unit) D (fun _ => True) (fun _ => [(a0, .inr (1, [w1, .int 0, w2, w3, w4, w5, w6, w7, .ref a8])), (a8, .inl (y 2, 4, .inl (upd (fun _ => 0) 0 1)))])) := by
  refine zent (cc := cX1_turnTo) (maxL := 3) (ret := none) (by decide) (Nat.le_of_ble_eq_true rfl) ?_
  intro p e s m below meth c A H locs ls hx hb hml hr ht hown hlocks hin hA hK hE hS hW hl
  have hown : s.vm.findClass RX1 = some m.cls := hown
  have hW : zPD D A [(a0, .inr (1, [w1, .int 0, w2, w3, w4, w5, w6, w7, .ref a8])), (a8, .inl (y 2, 4, .inl (upd (fun _ => 0) 0 1)))] H := hW
  have hl : lv_has ls 3 [(0, .ref a0), (1, .int 0)] := hl
  refine lv_iload_n hx hb dX1_turnTo_0 rfl (lv_at hl 1 rfl) ?_
  refine lv_if_lt (tgt := 9) hx hb dX1_turnTo_1 (by decide) (fun c1_ => absurd c1_ (by decide)) (fun c1_ => ?_)
  refine lv_iload_n hx hb dX1_turnTo_4 rfl (lv_at hl 1 rfl) ?_
  refine lv_iconst (v := 4) hx hb dX1_turnTo_5 (by decide) ?_
  refine lv_icmp_lt (tgt := 10) hx hb dX1_turnTo_6 (by decide) (fun c2_ => ?_) (fun c2_ => absurd (by decide) c2_)
  refine lv_aload_n hx hb dX1_turnTo_10 rfl (lv_at hl 0 rfl) ?_
  refine lv_iload_n hx hb dX1_turnTo_11 rfl (lv_at hl 1 rfl) ?_
  refine zput (ws' := [(a0, .inr (1, [w1, .int 0, w2, w3, w4, w5, w6, w7, .ref a8])), (a8, .inl (y 2, 4, .inl (upd (fun _ => 0) 0 1)))]) hx hb ht inlX1 tyX1 tyX1_ok nmX1 hown hK hS hW 0 rfl rfl 1 (by decide) zm_109 rfl rfl rfl (Nat.le_of_ble_eq_true rfl) rfl dX1_turnTo_12 (fun H locs hW hS => ?_)
  refine lv_aload_n hx hb dX1_turnTo_15 rfl (lv_at hl 0 rfl) ?_
  refine zget hx hb ht inlX1 hown hK hW 0 rfl rfl 8 (by decide) zm_118 rfl dX1_turnTo_16 ?_
  refine lv_aload_n hx hb dX1_turnTo_19 rfl (lv_at hl 0 rfl) ?_
  refine zget hx hb ht inlX1 hown hK hW 0 rfl rfl 1 (by decide) zm_109 rfl dX1_turnTo_20 ?_
  refine zzald (v := 1) hx hb hK hW 1 rfl (by unfold vp_in; decide) rfl dX1_turnTo_23 ?_
  refine lv_if_eq (tgt := 28) hx hb dX1_turnTo_24 (by decide) (fun c3_ => absurd c3_ (by decide)) (fun c3_ => ?_)
  exact zret_v hx hb hr hlocks hS () trivial hW (Nat.le_of_ble_eq_true rfl) (Nat.le_of_ble_eq_true rfl) dX1_turnTo_27
set_option maxHeartbeats 8000000 in
set_option maxRecDepth 100000 in
theorem zc_X1_turnTo_2 (l : Launch) (D : va_G) (y : Nat → ClassId) (a0 : Nat) (a1 : Nat) (w2 : Value) (w3 : Value) (w4 : Value) (w5 : Value) (w6 : Value) (w7 : Value) (a8 : Nat) (w9 : Value) (w10 : Value) (w11 : Value) (w12 : Value) (w13 : Value) (w14 : Value) (w15 : Value) (w16 : Value) (w17 : Value) (w18 : Value) (w19 : Value) : zM l D y yX1_turnTo (Cond.code yX1_turnTo cX1_turnTo 3 none :: zT) { frames := 0, cells := 0, slots := 0, locals := 0 } [.ref a0, .int 1] [(a0, .inr (1, [.ref a1, .int 0, w2, w3, w4, w5, w6, w7, .ref a8])), (a1, .inr (6, [w9, .int 0, w10, w11, w12, w13, w14, w15, w16, w17, w18, w19])), (a8, .inl (y 2, 4, .inl (upd (fun _ => 0) 0 1)))] (zQv (S := Unit) D (fun _ => True) (fun _ => [(a0, .inr (1, [.ref a1, .int 1, w2, w3, w4, w5, w6, w7, .ref a8])), (a1, .inr (6, [w9, .int 0, w10, w11, w12, w13, w14, w15, w16, w17, w18, w19])), (a8, .inl (y 2, 4, .inl (upd (upd (fun _ => 0) 0 1) 1 1)))])) := by
  refine zent (cc := cX1_turnTo) (maxL := 3) (ret := none) (by decide) (Nat.le_of_ble_eq_true rfl) ?_
  intro p e s m below meth c A H locs ls hx hb hml hr ht hown hlocks hin hA hK hE hS hW hl
  have hown : s.vm.findClass RX1 = some m.cls := hown
  have hW : zPD D A [(a0, .inr (1, [.ref a1, .int 0, w2, w3, w4, w5, w6, w7, .ref a8])), (a1, .inr (6, [w9, .int 0, w10, w11, w12, w13, w14, w15, w16, w17, w18, w19])), (a8, .inl (y 2, 4, .inl (upd (fun _ => 0) 0 1)))] H := hW
  have hl : lv_has ls 3 [(0, .ref a0), (1, .int 1)] := hl
  refine lv_iload_n hx hb dX1_turnTo_0 rfl (lv_at hl 1 rfl) ?_
  refine lv_if_lt (tgt := 9) hx hb dX1_turnTo_1 (by decide) (fun c1_ => absurd c1_ (by decide)) (fun c1_ => ?_)
  refine lv_iload_n hx hb dX1_turnTo_4 rfl (lv_at hl 1 rfl) ?_
  refine lv_iconst (v := 4) hx hb dX1_turnTo_5 (by decide) ?_
  refine lv_icmp_lt (tgt := 10) hx hb dX1_turnTo_6 (by decide) (fun c2_ => ?_) (fun c2_ => absurd (by decide) c2_)
  refine lv_aload_n hx hb dX1_turnTo_10 rfl (lv_at hl 0 rfl) ?_
  refine lv_iload_n hx hb dX1_turnTo_11 rfl (lv_at hl 1 rfl) ?_
  refine zput (ws' := [(a0, .inr (1, [.ref a1, .int 1, w2, w3, w4, w5, w6, w7, .ref a8])), (a1, .inr (6, [w9, .int 0, w10, w11, w12, w13, w14, w15, w16, w17, w18, w19])), (a8, .inl (y 2, 4, .inl (upd (fun _ => 0) 0 1)))]) hx hb ht inlX1 tyX1 tyX1_ok nmX1 hown hK hS hW 0 rfl rfl 1 (by decide) zm_109 rfl rfl rfl (Nat.le_of_ble_eq_true rfl) rfl dX1_turnTo_12 (fun H locs hW hS => ?_)
  refine lv_aload_n hx hb dX1_turnTo_15 rfl (lv_at hl 0 rfl) ?_
  refine zget hx hb ht inlX1 hown hK hW 0 rfl rfl 8 (by decide) zm_118 rfl dX1_turnTo_16 ?_
  refine lv_aload_n hx hb dX1_turnTo_19 rfl (lv_at hl 0 rfl) ?_
  refine zget hx hb ht inlX1 hown hK hW 0 rfl rfl 1 (by decide) zm_109 rfl dX1_turnTo_20 ?_
  refine zzald (v := 0) hx hb hK hW 2 rfl (by unfold vp_in; decide) rfl dX1_turnTo_23 ?_
  refine lv_if_eq (tgt := 28) hx hb dX1_turnTo_24 (by decide) (fun c3_ => ?_) (fun c3_ => absurd (by decide) c3_)
  refine lv_iconst (v := 0) hx hb dX1_turnTo_28 (by decide) ?_
  refine lv_istore_n (lv' := [(2, .int 0), (0, .ref a0), (1, .int 1)]) hx hb dX1_turnTo_29 rfl hl (by decide) rfl (fun ls hl => ?_)
  refine lv_iload_n hx hb dX1_turnTo_30 rfl (lv_at hl 0 rfl) ?_
  refine lv_aload_n hx hb dX1_turnTo_31 rfl (lv_at hl 1 rfl) ?_
  refine zget hx hb ht inlX1 hown hK hW 0 rfl rfl 0 (by decide) zm_119 rfl dX1_turnTo_32 ?_
  refine zget hx hb ht inlX7 hown hK hW 1 rfl rfl 1 (by decide) zm_284 rfl dX1_turnTo_35 ?_
  refine lv_icmp_ge (tgt := 52) hx hb dX1_turnTo_38 (by decide) (fun c4_ => ?_) (fun c4_ => absurd (by decide) c4_)
  refine lv_aload_n hx hb dX1_turnTo_52 rfl (lv_at hl 1 rfl) ?_
  refine zget hx hb ht inlX1 hown hK hW 0 rfl rfl 8 (by decide) zm_118 rfl dX1_turnTo_53 ?_
  refine lv_aload_n hx hb dX1_turnTo_56 rfl (lv_at hl 1 rfl) ?_
  refine zget hx hb ht inlX1 hown hK hW 0 rfl rfl 1 (by decide) zm_109 rfl dX1_turnTo_57 ?_
  refine lv_iconst (v := 1) hx hb dX1_turnTo_60 (by decide) ?_
  refine zzast (ws' := [(a0, .inr (1, [.ref a1, .int 1, w2, w3, w4, w5, w6, w7, .ref a8])), (a1, .inr (6, [w9, .int 0, w10, w11, w12, w13, w14, w15, w16, w17, w18, w19])), (a8, .inl (y 2, 4, .inl (upd (upd (fun _ => 0) 0 1) 1 1)))]) hx hb hK hS hW 2 rfl (by unfold vp_in; decide) rfl rfl dX1_turnTo_61 (fun H locs hW hS => ?_)
  exact zret_v hx hb hr hlocks hS () trivial hW (Nat.le_of_ble_eq_true rfl) (Nat.le_of_ble_eq_true rfl) dX1_turnTo_62
set_option maxHeartbeats 8000000 in
set_option maxRecDepth 100000 in
theorem zc_X1_turnTo_3 (l : Launch) (D : va_G) (y : Nat → ClassId) (a0 : Nat) (a1 : Nat) (w2 : Value) (w3 : Value) (w4 : Value) (w5 : Value) (w6 : Value) (w7 : Value) (a8 : Nat) (w9 : Value) (w10 : Value) (w11 : Value) (w12 : Value) (w13 : Value) (w14 : Value) (w15 : Value) (w16 : Value) (w17 : Value) (w18 : Value) (w19 : Value) : zM l D y yX1_turnTo (Cond.code yX1_turnTo cX1_turnTo 3 none :: zT) { frames := 0, cells := 0, slots := 0, locals := 0 } [.ref a0, .int 2] [(a0, .inr (1, [.ref a1, .int 1, w2, w3, w4, w5, w6, w7, .ref a8])), (a1, .inr (6, [w9, .int 0, w10, w11, w12, w13, w14, w15, w16, w17, w18, w19])), (a8, .inl (y 2, 4, .inl (upd (upd (fun _ => 0) 0 1) 1 1)))] (zQv (S := Unit) D (fun _ => True) (fun _ => [(a0, .inr (1, [.ref a1, .int 2, w2, w3, w4, w5, w6, w7, .ref a8])), (a1, .inr (6, [w9, .int 0, w10, w11, w12, w13, w14, w15, w16, w17, w18, w19])), (a8, .inl (y 2, 4, .inl (upd (upd (upd (fun _ => 0) 0 1) 1 1) 2 1)))])) := by
  refine zent (cc := cX1_turnTo) (maxL := 3) (ret := none) (by decide) (Nat.le_of_ble_eq_true rfl) ?_
  intro p e s m below meth c A H locs ls hx hb hml hr ht hown hlocks hin hA hK hE hS hW hl
  have hown : s.vm.findClass RX1 = some m.cls := hown
  have hW : zPD D A [(a0, .inr (1, [.ref a1, .int 1, w2, w3, w4, w5, w6, w7, .ref a8])), (a1, .inr (6, [w9, .int 0, w10, w11, w12, w13, w14, w15, w16, w17, w18, w19])), (a8, .inl (y 2, 4, .inl (upd (upd (fun _ => 0) 0 1) 1 1)))] H := hW
  have hl : lv_has ls 3 [(0, .ref a0), (1, .int 2)] := hl
  refine lv_iload_n hx hb dX1_turnTo_0 rfl (lv_at hl 1 rfl) ?_
  refine lv_if_lt (tgt := 9) hx hb dX1_turnTo_1 (by decide) (fun c1_ => absurd c1_ (by decide)) (fun c1_ => ?_)
  refine lv_iload_n hx hb dX1_turnTo_4 rfl (lv_at hl 1 rfl) ?_
  refine lv_iconst (v := 4) hx hb dX1_turnTo_5 (by decide) ?_
  refine lv_icmp_lt (tgt := 10) hx hb dX1_turnTo_6 (by decide) (fun c2_ => ?_) (fun c2_ => absurd (by decide) c2_)
  refine lv_aload_n hx hb dX1_turnTo_10 rfl (lv_at hl 0 rfl) ?_
  refine lv_iload_n hx hb dX1_turnTo_11 rfl (lv_at hl 1 rfl) ?_
  refine zput (ws' := [(a0, .inr (1, [.ref a1, .int 2, w2, w3, w4, w5, w6, w7, .ref a8])), (a1, .inr (6, [w9, .int 0, w10, w11, w12, w13, w14, w15, w16, w17, w18, w19])), (a8, .inl (y 2, 4, .inl (upd (upd (fun _ => 0) 0 1) 1 1)))]) hx hb ht inlX1 tyX1 tyX1_ok nmX1 hown hK hS hW 0 rfl rfl 1 (by decide) zm_109 rfl rfl rfl (Nat.le_of_ble_eq_true rfl) rfl dX1_turnTo_12 (fun H locs hW hS => ?_)
  refine lv_aload_n hx hb dX1_turnTo_15 rfl (lv_at hl 0 rfl) ?_
  refine zget hx hb ht inlX1 hown hK hW 0 rfl rfl 8 (by decide) zm_118 rfl dX1_turnTo_16 ?_
  refine lv_aload_n hx hb dX1_turnTo_19 rfl (lv_at hl 0 rfl) ?_
  refine zget hx hb ht inlX1 hown hK hW 0 rfl rfl 1 (by decide) zm_109 rfl dX1_turnTo_20 ?_
  refine zzald (v := 0) hx hb hK hW 2 rfl (by unfold vp_in; decide) rfl dX1_turnTo_23 ?_
  refine lv_if_eq (tgt := 28) hx hb dX1_turnTo_24 (by decide) (fun c3_ => ?_) (fun c3_ => absurd (by decide) c3_)
  refine lv_iconst (v := 0) hx hb dX1_turnTo_28 (by decide) ?_
  refine lv_istore_n (lv' := [(2, .int 0), (0, .ref a0), (1, .int 2)]) hx hb dX1_turnTo_29 rfl hl (by decide) rfl (fun ls hl => ?_)
  refine lv_iload_n hx hb dX1_turnTo_30 rfl (lv_at hl 0 rfl) ?_
  refine lv_aload_n hx hb dX1_turnTo_31 rfl (lv_at hl 1 rfl) ?_
  refine zget hx hb ht inlX1 hown hK hW 0 rfl rfl 0 (by decide) zm_119 rfl dX1_turnTo_32 ?_
  refine zget hx hb ht inlX7 hown hK hW 1 rfl rfl 1 (by decide) zm_284 rfl dX1_turnTo_35 ?_
  refine lv_icmp_ge (tgt := 52) hx hb dX1_turnTo_38 (by decide) (fun c4_ => ?_) (fun c4_ => absurd (by decide) c4_)
  refine lv_aload_n hx hb dX1_turnTo_52 rfl (lv_at hl 1 rfl) ?_
  refine zget hx hb ht inlX1 hown hK hW 0 rfl rfl 8 (by decide) zm_118 rfl dX1_turnTo_53 ?_
  refine lv_aload_n hx hb dX1_turnTo_56 rfl (lv_at hl 1 rfl) ?_
  refine zget hx hb ht inlX1 hown hK hW 0 rfl rfl 1 (by decide) zm_109 rfl dX1_turnTo_57 ?_
  refine lv_iconst (v := 1) hx hb dX1_turnTo_60 (by decide) ?_
  refine zzast (ws' := [(a0, .inr (1, [.ref a1, .int 2, w2, w3, w4, w5, w6, w7, .ref a8])), (a1, .inr (6, [w9, .int 0, w10, w11, w12, w13, w14, w15, w16, w17, w18, w19])), (a8, .inl (y 2, 4, .inl (upd (upd (upd (fun _ => 0) 0 1) 1 1) 2 1)))]) hx hb hK hS hW 2 rfl (by unfold vp_in; decide) rfl rfl dX1_turnTo_61 (fun H locs hW hS => ?_)
  exact zret_v hx hb hr hlocks hS () trivial hW (Nat.le_of_ble_eq_true rfl) (Nat.le_of_ble_eq_true rfl) dX1_turnTo_62
set_option maxHeartbeats 8000000 in
set_option maxRecDepth 100000 in
theorem zc_X1_turnTo_4 (l : Launch) (D : va_G) (y : Nat → ClassId) (a0 : Nat) (a1 : Nat) (w2 : Value) (w3 : Value) (w4 : Value) (w5 : Value) (w6 : Value) (w7 : Value) (a8 : Nat) (w9 : Value) (w10 : Value) (w11 : Value) (w12 : Value) (w13 : Value) (w14 : Value) (w15 : Value) (w16 : Value) (w17 : Value) (w18 : Value) (w19 : Value) : zM l D y yX1_turnTo (Cond.code yX1_turnTo cX1_turnTo 3 none :: zT) { frames := 0, cells := 0, slots := 0, locals := 0 } [.ref a0, .int 3] [(a0, .inr (1, [.ref a1, .int 2, w2, w3, w4, w5, w6, w7, .ref a8])), (a1, .inr (6, [w9, .int 0, w10, w11, w12, w13, w14, w15, w16, w17, w18, w19])), (a8, .inl (y 2, 4, .inl (upd (upd (upd (fun _ => 0) 0 1) 1 1) 2 1)))] (zQv (S := Unit) D (fun _ => True) (fun _ => [(a0, .inr (1, [.ref a1, .int 3, w2, w3, w4, w5, w6, w7, .ref a8])), (a1, .inr (6, [w9, .int 0, w10, w11, w12, w13, w14, w15, w16, w17, w18, w19])), (a8, .inl (y 2, 4, .inl (upd (upd (upd (upd (fun _ => 0) 0 1) 1 1) 2 1) 3 1)))])) := by
  refine zent (cc := cX1_turnTo) (maxL := 3) (ret := none) (by decide) (Nat.le_of_ble_eq_true rfl) ?_
  intro p e s m below meth c A H locs ls hx hb hml hr ht hown hlocks hin hA hK hE hS hW hl
  have hown : s.vm.findClass RX1 = some m.cls := hown
  have hW : zPD D A [(a0, .inr (1, [.ref a1, .int 2, w2, w3, w4, w5, w6, w7, .ref a8])), (a1, .inr (6, [w9, .int 0, w10, w11, w12, w13, w14, w15, w16, w17, w18, w19])), (a8, .inl (y 2, 4, .inl (upd (upd (upd (fun _ => 0) 0 1) 1 1) 2 1)))] H := hW
  have hl : lv_has ls 3 [(0, .ref a0), (1, .int 3)] := hl
  refine lv_iload_n hx hb dX1_turnTo_0 rfl (lv_at hl 1 rfl) ?_
  refine lv_if_lt (tgt := 9) hx hb dX1_turnTo_1 (by decide) (fun c1_ => absurd c1_ (by decide)) (fun c1_ => ?_)
  refine lv_iload_n hx hb dX1_turnTo_4 rfl (lv_at hl 1 rfl) ?_
  refine lv_iconst (v := 4) hx hb dX1_turnTo_5 (by decide) ?_
  refine lv_icmp_lt (tgt := 10) hx hb dX1_turnTo_6 (by decide) (fun c2_ => ?_) (fun c2_ => absurd (by decide) c2_)
  refine lv_aload_n hx hb dX1_turnTo_10 rfl (lv_at hl 0 rfl) ?_
  refine lv_iload_n hx hb dX1_turnTo_11 rfl (lv_at hl 1 rfl) ?_
  refine zput (ws' := [(a0, .inr (1, [.ref a1, .int 3, w2, w3, w4, w5, w6, w7, .ref a8])), (a1, .inr (6, [w9, .int 0, w10, w11, w12, w13, w14, w15, w16, w17, w18, w19])), (a8, .inl (y 2, 4, .inl (upd (upd (upd (fun _ => 0) 0 1) 1 1) 2 1)))]) hx hb ht inlX1 tyX1 tyX1_ok nmX1 hown hK hS hW 0 rfl rfl 1 (by decide) zm_109 rfl rfl rfl (Nat.le_of_ble_eq_true rfl) rfl dX1_turnTo_12 (fun H locs hW hS => ?_)
  refine lv_aload_n hx hb dX1_turnTo_15 rfl (lv_at hl 0 rfl) ?_
  refine zget hx hb ht inlX1 hown hK hW 0 rfl rfl 8 (by decide) zm_118 rfl dX1_turnTo_16 ?_
  refine lv_aload_n hx hb dX1_turnTo_19 rfl (lv_at hl 0 rfl) ?_
  refine zget hx hb ht inlX1 hown hK hW 0 rfl rfl 1 (by decide) zm_109 rfl dX1_turnTo_20 ?_
  refine zzald (v := 0) hx hb hK hW 2 rfl (by unfold vp_in; decide) rfl dX1_turnTo_23 ?_
  refine lv_if_eq (tgt := 28) hx hb dX1_turnTo_24 (by decide) (fun c3_ => ?_) (fun c3_ => absurd (by decide) c3_)
  refine lv_iconst (v := 0) hx hb dX1_turnTo_28 (by decide) ?_
  refine lv_istore_n (lv' := [(2, .int 0), (0, .ref a0), (1, .int 3)]) hx hb dX1_turnTo_29 rfl hl (by decide) rfl (fun ls hl => ?_)
  refine lv_iload_n hx hb dX1_turnTo_30 rfl (lv_at hl 0 rfl) ?_
  refine lv_aload_n hx hb dX1_turnTo_31 rfl (lv_at hl 1 rfl) ?_
  refine zget hx hb ht inlX1 hown hK hW 0 rfl rfl 0 (by decide) zm_119 rfl dX1_turnTo_32 ?_
  refine zget hx hb ht inlX7 hown hK hW 1 rfl rfl 1 (by decide) zm_284 rfl dX1_turnTo_35 ?_
  refine lv_icmp_ge (tgt := 52) hx hb dX1_turnTo_38 (by decide) (fun c4_ => ?_) (fun c4_ => absurd (by decide) c4_)
  refine lv_aload_n hx hb dX1_turnTo_52 rfl (lv_at hl 1 rfl) ?_
  refine zget hx hb ht inlX1 hown hK hW 0 rfl rfl 8 (by decide) zm_118 rfl dX1_turnTo_53 ?_
  refine lv_aload_n hx hb dX1_turnTo_56 rfl (lv_at hl 1 rfl) ?_
  refine zget hx hb ht inlX1 hown hK hW 0 rfl rfl 1 (by decide) zm_109 rfl dX1_turnTo_57 ?_
  refine lv_iconst (v := 1) hx hb dX1_turnTo_60 (by decide) ?_
  refine zzast (ws' := [(a0, .inr (1, [.ref a1, .int 3, w2, w3, w4, w5, w6, w7, .ref a8])), (a1, .inr (6, [w9, .int 0, w10, w11, w12, w13, w14, w15, w16, w17, w18, w19])), (a8, .inl (y 2, 4, .inl (upd (upd (upd (upd (fun _ => 0) 0 1) 1 1) 2 1) 3 1)))]) hx hb hK hS hW 2 rfl (by unfold vp_in; decide) rfl rfl dX1_turnTo_61 (fun H locs hW hS => ?_)
  exact zret_v hx hb hr hlocks hS () trivial hW (Nat.le_of_ble_eq_true rfl) (Nat.le_of_ble_eq_true rfl) dX1_turnTo_62
set_option maxHeartbeats 8000000 in
set_option maxRecDepth 100000 in
theorem zc_X9_sides_0 (l : Launch) (D : va_G) (y : Nat → ClassId) (a0 : Nat) (p1 : Int32) (w2 : Value) (w3 : Value) (w4 : Value) (w5 : Value) (w6 : Value) (w7 : Value) (a8 : Nat) (w9 : Value) (w10 : Value) (a11 : Nat) (w12 : Value) (w13 : Value) (w14 : Value) (w15 : Value) (w16 : Value) (a17 : Nat) (w18 : Value) (w19 : Value) (w20 : Value) (w21 : Value) (a22 : Nat) (w23 : Value) (w24 : Value) (w25 : Value) (w26 : Value) (w27 : Value) (w28 : Value) (w29 : Value) (w30 : Value) (w31 : Value) (w32 : Value) : zM l D y yX9_sides (Cond.code yX9_sides cX9_sides 6 (some .int) :: zT) { frames := 2, cells := 0, slots := 0, locals := 44 } [.ref a0, .int p1] [(a0, .inr (8, [w2, w3, w4, w5, w6, w7, .ref a8, w9, w10])), (a8, .inr (1, [.ref a11, .int 0, .int 0, w12, w13, w14, w15, w16, .ref a17])), (a11, .inr (6, [w18, .int 0, .int 20, .int 0, .int 0, w19, w20, w21, .ref a22, w23, w24, w25])), (a17, .inl (y 2, 4, .inl (fun _ => 0))), (a22, .inr (2, [w26, .int 15, w27, w28, w29, w30, w31, w32]))] (zQi (S := Unit) D (fun r_ _ => r_ = (if p1 < 0 then (-1) else (if 1 < p1 then (-1) else 0))) (fun _ => [])) := by
  refine zent (cc := cX9_sides) (maxL := 6) (ret := (some .int)) (by decide) (Nat.le_of_ble_eq_true rfl) ?_
  intro p e s m below meth c A H locs ls hx hb hml hr ht hown hlocks hin hA hK hE hS hW hl
  have hown : s.vm.findClass RX9 = some m.cls := hown
  have hW : zPD D A [(a0, .inr (8, [w2, w3, w4, w5, w6, w7, .ref a8, w9, w10])), (a8, .inr (1, [.ref a11, .int 0, .int 0, w12, w13, w14, w15, w16, .ref a17])), (a11, .inr (6, [w18, .int 0, .int 20, .int 0, .int 0, w19, w20, w21, .ref a22, w23, w24, w25])), (a17, .inl (y 2, 4, .inl (fun _ => 0))), (a22, .inr (2, [w26, .int 15, w27, w28, w29, w30, w31, w32]))] H := hW
  have hl : lv_has ls 6 [(0, .ref a0), (1, .int p1)] := hl
  refine lv_iload_n hx hb dX9_sides_0 rfl (lv_at hl 1 rfl) ?_
  refine lv_iconst (v := 0) hx hb dX9_sides_1 (by decide) ?_
  refine lv_iconst (v := 1) hx hb dX9_sides_2 (by decide) ?_
  refine zgo0_i (zrunS (As := [.int p1, .int 0, .int 1]) (rest := []) ⟨hx, hb, hml, hown, ht⟩ (zc_X9_within_10 l D y p1) (va_cwS 3 ht (zgS zm_222 zm_223 zm_2 zm_224) rfl rfl rfl (by decide +kernel) ⟨(Nat.le_of_ble_eq_true rfl), (Nat.le_of_ble_eq_true rfl)⟩) hK hE hS hA hW [] (by decide) rfl rfl hl.1 rfl (Nat.le_of_ble_eq_true rfl) dX9_sides_3 (Nat.le_of_ble_eq_true rfl) (Nat.le_of_ble_eq_true rfl)) hS hA hW (fun r1_ u H locs hw hW hS => ?_)
  have hw : r1_ = (if p1 < 0 then 0 else (if 1 < p1 then 0 else 1)) := hw
  by_cases c2_ : p1 < 0
  · have b3_ : (-2147483648) ≤ Int32.toInt p1 ∧ Int32.toInt p1 ≤ (-1) := (by have u0 := zbnd p1; have u1 := (zi_lt _ _).mp c2_; have u2 : (0 : Int32).toInt = 0 := (by decide); omega)
    rw [if_pos c2_] at hw
    subst hw
    refine lv_if_ne (tgt := 11) hx hb dX9_sides_6 (by decide) (fun c4_ => absurd (by decide) c4_) (fun c4_ => ?_)
    refine lv_iconst (v := (-1)) hx hb dX9_sides_9 (by decide) ?_
    exact zret_i (v := (-1)) hx hb hr hlocks hS () (by show _ = _; rw [if_pos c2_]) (hW.sub [] (by decide) rfl) (Nat.le_of_ble_eq_true rfl) (Nat.le_of_ble_eq_true rfl) dX9_sides_10
  · have b5_ : 0 ≤ Int32.toInt p1 ∧ Int32.toInt p1 ≤ 2147483647 := (by have u0 := zbnd p1; have u1 := (not_congr (zi_lt _ _)).mp c2_; have u2 : (0 : Int32).toInt = 0 := (by decide); omega)
    rw [if_neg c2_] at hw
    by_cases c6_ : 1 < p1
    · have b7_ : 2 ≤ Int32.toInt p1 ∧ Int32.toInt p1 ≤ 2147483647 := (by have u0 := b5_; have u1 := (zi_lt _ _).mp c6_; have u2 : (1 : Int32).toInt = 1 := (by decide); omega)
      rw [if_pos c6_] at hw
      subst hw
      refine lv_if_ne (tgt := 11) hx hb dX9_sides_6 (by decide) (fun c8_ => absurd (by decide) c8_) (fun c8_ => ?_)
      refine lv_iconst (v := (-1)) hx hb dX9_sides_9 (by decide) ?_
      exact zret_i (v := (-1)) hx hb hr hlocks hS () (by show _ = _; rw [if_neg c2_, if_pos c6_]) (hW.sub [] (by decide) rfl) (Nat.le_of_ble_eq_true rfl) (Nat.le_of_ble_eq_true rfl) dX9_sides_10
    · have b9_ : 0 ≤ Int32.toInt p1 ∧ Int32.toInt p1 ≤ 1 := (by have u0 := b5_; have u1 := (not_congr (zi_lt _ _)).mp c6_; have u2 : (1 : Int32).toInt = 1 := (by decide); omega)
      rw [if_neg c6_] at hw
      subst hw
      refine lv_if_ne (tgt := 11) hx hb dX9_sides_6 (by decide) (fun c10_ => ?_) (fun c10_ => absurd c10_ (by decide))
      refine lv_aload_n hx hb dX9_sides_11 rfl (lv_at hl 0 rfl) ?_
      refine zget hx hb ht inlX9 hown hK hW 0 rfl rfl 6 (by decide) zm_29 rfl dX9_sides_12 ?_
      refine zgo_v (wr := [(a0, .inr (8, [w2, w3, w4, w5, w6, w7, .ref a8, w9, w10])), (a22, .inr (2, [w26, .int 15, w27, w28, w29, w30, w31, w32]))]) (zrunV (As := []) (rest := []) ⟨hx, hb, hml, hown, ht⟩ (zc_X1_beginFromNow_0 l D y a8 a11 w12 w13 w14 w15 w16 a17 w18 (.int 0) w19 w20 w21 (.ref a22) w23 w24 w25) (cwV 0 ht (zgV zm_274 zm_275 zm_276 zm_28 zm_277) rfl rfl rfl (by decide +kernel) ⟨(Nat.le_of_ble_eq_true rfl), (Nat.le_of_ble_eq_true rfl)⟩) hK hE hS hA hW [1, 2, 3] (by decide) rfl 0 rfl rfl rfl rfl hl.1 rfl (Nat.le_of_ble_eq_true rfl) dX9_sides_15 (Nat.le_of_ble_eq_true rfl) (Nat.le_of_ble_eq_true rfl)) hS hA hW [1, 2, 3] [0, 4] rfl rfl (by decide) (by decide) (fun u H locs hw hW hS => ?_)
      have hW : zPD D A [(a0, .inr (8, [w2, w3, w4, w5, w6, w7, .ref a8, w9, w10])), (a22, .inr (2, [w26, .int 15, w27, w28, w29, w30, w31, w32])), (a8, .inr (1, [.ref a11, .int 0, .int 20, w12, w13, w14, w15, w16, .ref a17])), (a11, .inr (6, [w18, .int 0, .int 20, .int 0, .int 0, w19, w20, w21, .ref a22, w23, w24, w25])), (a17, .inl (y 2, 4, .inl (upd (fun _ => 0) 0 1)))] H := hW
      refine lv_iconst (v := 0) hx hb dX9_sides_18 (by decide) ?_
      refine lv_istore_n (lv' := [(2, .int 0), (0, .ref a0), (1, .int p1)]) hx hb dX9_sides_19 rfl hl (by decide) rfl (fun ls hl => ?_)
      refine lv_iconst (v := (-1)) hx hb dX9_sides_20 (by decide) ?_
      refine lv_istore_n (lv' := [(3, .int (-1)), (2, .int 0), (0, .ref a0), (1, .int p1)]) hx hb dX9_sides_21 rfl hl (by decide) rfl (fun ls hl => ?_)
      refine lv_iconst (v := 0) hx hb dX9_sides_22 (by decide) ?_
      refine lv_istore (lv' := [(4, .int 0), (3, .int (-1)), (2, .int 0), (0, .ref a0), (1, .int p1)]) hx hb dX9_sides_23 hl (by decide) rfl (fun ls hl => ?_)
      refine lv_iload hx hb dX9_sides_25 (lv_at hl 0 rfl) ?_
      refine lv_iconst (v := 4) hx hb dX9_sides_27 (by decide) ?_
      refine lv_icmp_ge (tgt := 67) hx hb dX9_sides_28 (by decide) (fun c12_ => absurd c12_ (by decide)) (fun c12_ => ?_)
      refine lv_aload_n hx hb dX9_sides_31 rfl (lv_at hl 3 rfl) ?_
      refine zget hx hb ht inlX9 hown hK hW 0 rfl rfl 6 (by decide) zm_29 rfl dX9_sides_32 ?_
      refine lv_iload hx hb dX9_sides_35 (lv_at hl 0 rfl) ?_
      refine zgo_v (wr := [(a0, .inr (8, [w2, w3, w4, w5, w6, w7, .ref a8, w9, w10])), (a22, .inr (2, [w26, .int 15, w27, w28, w29, w30, w31, w32])), (a11, .inr (6, [w18, .int 0, .int 20, .int 0, .int 0, w19, w20, w21, .ref a22, w23, w24, w25]))]) (zrunV (As := [.int 0]) (rest := []) ⟨hx, hb, hml, hown, ht⟩ (zc_X1_turnTo_1 l D y a8 (.ref a11) (.int 20) w12 w13 w14 w15 w16 a17) (cwV 1 ht (zgV zm_983 zm_281 zm_282 zm_28 zm_283) rfl rfl rfl (by decide +kernel) ⟨(Nat.le_of_ble_eq_true rfl), (Nat.le_of_ble_eq_true rfl)⟩) hK hE hS hA hW [2, 4] (by decide) rfl 0 rfl rfl rfl rfl hl.1 rfl (Nat.le_of_ble_eq_true rfl) dX9_sides_37 (Nat.le_of_ble_eq_true rfl) (Nat.le_of_ble_eq_true rfl)) hS hA hW [2, 4] [0, 1, 3] rfl rfl (by decide) (by decide) (fun u H locs hw hW hS => ?_)
      have hW : zPD D A [(a0, .inr (8, [w2, w3, w4, w5, w6, w7, .ref a8, w9, w10])), (a22, .inr (2, [w26, .int 15, w27, w28, w29, w30, w31, w32])), (a11, .inr (6, [w18, .int 0, .int 20, .int 0, .int 0, w19, w20, w21, .ref a22, w23, w24, w25])), (a8, .inr (1, [.ref a11, .int 0, .int 20, w12, w13, w14, w15, w16, .ref a17])), (a17, .inl (y 2, 4, .inl (upd (fun _ => 0) 0 1)))] H := hW
      refine lv_aload_n hx hb dX9_sides_40 rfl (lv_at hl 3 rfl) ?_
      refine zget hx hb ht inlX9 hown hK hW 0 rfl rfl 6 (by decide) zm_29 rfl dX9_sides_41 ?_
      refine zgo_i (wr := [(a0, .inr (8, [w2, w3, w4, w5, w6, w7, .ref a8, w9, w10])), (a17, .inl (y 2, 4, .inl (upd (fun _ => 0) 0 1)))]) (zrunV (As := []) (rest := []) ⟨hx, hb, hml, hown, ht⟩ (zc_X1_cost_0 l D y a8 a11 (.int 0) w12 w13 w14 w15 w16 (.ref a17) w18 (.int 20) (.int 0) w19 w20 w21 a22 w23 w24 w25 w26 w27 w28 w29 w30 w31 w32) (cwV 0 ht (zgV zm_827 zm_828 zm_829 zm_28 zm_830) rfl rfl rfl (by decide +kernel) ⟨(Nat.le_of_ble_eq_true rfl), (Nat.le_of_ble_eq_true rfl)⟩) hK hE hS hA hW [3, 2, 1] (by decide) rfl 0 rfl rfl rfl rfl hl.1 rfl (Nat.le_of_ble_eq_true rfl) dX9_sides_44 (Nat.le_of_ble_eq_true rfl) (Nat.le_of_ble_eq_true rfl)) hS hA hW [3, 2, 1] [0, 4] rfl rfl (by decide) (by decide) (fun r14_ u H locs hw hW hS => ?_)
      have hW : zPD D A [(a0, .inr (8, [w2, w3, w4, w5, w6, w7, .ref a8, w9, w10])), (a17, .inl (y 2, 4, .inl (upd (fun _ => 0) 0 1))), (a8, .inr (1, [.ref a11, .int 0, .int 20, w12, w13, w14, w15, w16, .ref a17])), (a11, .inr (6, [w18, .int 0, .int 20, .int 0, .int 0, w19, w20, w21, .ref a22, w23, w24, w25])), (a22, .inr (2, [w26, .int 15, w27, w28, w29, w30, w31, w32]))] H := hW
      have hw : r14_ = 0 := hw
      subst hw
      refine lv_istore (lv' := [(5, .int 0), (4, .int 0), (3, .int (-1)), (2, .int 0), (0, .ref a0), (1, .int p1)]) hx hb dX9_sides_47 hl (by decide) rfl (fun ls hl => ?_)
      refine lv_iload hx hb dX9_sides_49 (lv_at hl 0 rfl) ?_
      refine lv_iload_n hx hb dX9_sides_51 rfl (lv_at hl 2 rfl) ?_
      refine lv_icmp_le (tgt := 61) hx hb dX9_sides_52 (by decide) (fun c15_ => absurd c15_ (by decide)) (fun c15_ => ?_)
      refine lv_iload hx hb dX9_sides_55 (lv_at hl 0 rfl) ?_
      refine lv_istore_n (lv' := [(3, .int 0), (5, .int 0), (4, .int 0), (2, .int 0), (0, .ref a0), (1, .int p1)]) hx hb dX9_sides_57 rfl hl (by decide) rfl (fun ls hl => ?_)
      refine lv_iload hx hb dX9_sides_58 (lv_at hl 2 rfl) ?_
      refine lv_istore_n (lv' := [(2, .int 0), (3, .int 0), (5, .int 0), (4, .int 0), (0, .ref a0), (1, .int p1)]) hx hb dX9_sides_60 rfl hl (by decide) rfl (fun ls hl => ?_)
      refine lv_iinc (k := 3) (v := 1) (lv' := [(4, .int 1), (2, .int 0), (3, .int 0), (5, .int 0), (0, .ref a0), (1, .int p1)]) hx hb dX9_sides_61 hl rfl (by decide) (by decide) rfl (fun ls hl => ?_)
      refine lv_goto (tgt := 25) hx hb dX9_sides_64 (by decide) ?_
      refine lv_iload hx hb dX9_sides_25 (lv_at hl 0 rfl) ?_
      refine lv_iconst (v := 4) hx hb dX9_sides_27 (by decide) ?_
      refine lv_icmp_ge (tgt := 67) hx hb dX9_sides_28 (by decide) (fun c16_ => absurd c16_ (by decide)) (fun c16_ => ?_)
      refine lv_aload_n hx hb dX9_sides_31 rfl (lv_at hl 4 rfl) ?_
      refine zget hx hb ht inlX9 hown hK hW 0 rfl rfl 6 (by decide) zm_29 rfl dX9_sides_32 ?_
      refine lv_iload hx hb dX9_sides_35 (lv_at hl 0 rfl) ?_
      refine zgo_v (wr := [(a0, .inr (8, [w2, w3, w4, w5, w6, w7, .ref a8, w9, w10])), (a22, .inr (2, [w26, .int 15, w27, w28, w29, w30, w31, w32]))]) (zrunV (As := [.int 1]) (rest := []) ⟨hx, hb, hml, hown, ht⟩ (zc_X1_turnTo_2 l D y a8 a11 (.int 20) w12 w13 w14 w15 w16 a17 w18 (.int 20) (.int 0) (.int 0) w19 w20 w21 (.ref a22) w23 w24 w25) (cwV 1 ht (zgV zm_983 zm_281 zm_282 zm_28 zm_283) rfl rfl rfl (by decide +kernel) ⟨(Nat.le_of_ble_eq_true rfl), (Nat.le_of_ble_eq_true rfl)⟩) hK hE hS hA hW [2, 3, 1] (by decide) rfl 0 rfl rfl rfl rfl hl.1 rfl (Nat.le_of_ble_eq_true rfl) dX9_sides_37 (Nat.le_of_ble_eq_true rfl) (Nat.le_of_ble_eq_true rfl)) hS hA hW [2, 3, 1] [0, 4] rfl rfl (by decide) (by decide) (fun u H locs hw hW hS => ?_)
      have hW : zPD D A [(a0, .inr (8, [w2, w3, w4, w5, w6, w7, .ref a8, w9, w10])), (a22, .inr (2, [w26, .int 15, w27, w28, w29, w30, w31, w32])), (a8, .inr (1, [.ref a11, .int 1, .int 20, w12, w13, w14, w15, w16, .ref a17])), (a11, .inr (6, [w18, .int 0, .int 20, .int 0, .int 0, w19, w20, w21, .ref a22, w23, w24, w25])), (a17, .inl (y 2, 4, .inl (upd (upd (fun _ => 0) 0 1) 1 1)))] H := hW
      refine lv_aload_n hx hb dX9_sides_40 rfl (lv_at hl 4 rfl) ?_
      refine zget hx hb ht inlX9 hown hK hW 0 rfl rfl 6 (by decide) zm_29 rfl dX9_sides_41 ?_
      refine zgo_i (wr := [(a0, .inr (8, [w2, w3, w4, w5, w6, w7, .ref a8, w9, w10])), (a17, .inl (y 2, 4, .inl (upd (upd (fun _ => 0) 0 1) 1 1)))]) (zrunV (As := []) (rest := []) ⟨hx, hb, hml, hown, ht⟩ (zc_X1_cost_0 l D y a8 a11 (.int 1) w12 w13 w14 w15 w16 (.ref a17) w18 (.int 20) (.int 0) w19 w20 w21 a22 w23 w24 w25 w26 w27 w28 w29 w30 w31 w32) (cwV 0 ht (zgV zm_827 zm_828 zm_829 zm_28 zm_830) rfl rfl rfl (by decide +kernel) ⟨(Nat.le_of_ble_eq_true rfl), (Nat.le_of_ble_eq_true rfl)⟩) hK hE hS hA hW [2, 3, 1] (by decide) rfl 0 rfl rfl rfl rfl hl.1 rfl (Nat.le_of_ble_eq_true rfl) dX9_sides_44 (Nat.le_of_ble_eq_true rfl) (Nat.le_of_ble_eq_true rfl)) hS hA hW [2, 3, 1] [0, 4] rfl rfl (by decide) (by decide) (fun r18_ u H locs hw hW hS => ?_)
      have hW : zPD D A [(a0, .inr (8, [w2, w3, w4, w5, w6, w7, .ref a8, w9, w10])), (a17, .inl (y 2, 4, .inl (upd (upd (fun _ => 0) 0 1) 1 1))), (a8, .inr (1, [.ref a11, .int 1, .int 20, w12, w13, w14, w15, w16, .ref a17])), (a11, .inr (6, [w18, .int 0, .int 20, .int 0, .int 0, w19, w20, w21, .ref a22, w23, w24, w25])), (a22, .inr (2, [w26, .int 15, w27, w28, w29, w30, w31, w32]))] H := hW
      have hw : r18_ = 0 := hw
      subst hw
      refine lv_istore (lv' := [(5, .int 0), (4, .int 1), (2, .int 0), (3, .int 0), (0, .ref a0), (1, .int p1)]) hx hb dX9_sides_47 hl (by decide) rfl (fun ls hl => ?_)
      refine lv_iload hx hb dX9_sides_49 (lv_at hl 0 rfl) ?_
      refine lv_iload_n hx hb dX9_sides_51 rfl (lv_at hl 3 rfl) ?_
      refine lv_icmp_le (tgt := 61) hx hb dX9_sides_52 (by decide) (fun c19_ => ?_) (fun c19_ => absurd (by decide) c19_)
      refine lv_iinc (k := 1) (v := 2) (lv' := [(4, .int 2), (5, .int 0), (2, .int 0), (3, .int 0), (0, .ref a0), (1, .int p1)]) hx hb dX9_sides_61 hl rfl (by decide) (by decide) rfl (fun ls hl => ?_)
      refine lv_goto (tgt := 25) hx hb dX9_sides_64 (by decide) ?_
      refine lv_iload hx hb dX9_sides_25 (lv_at hl 0 rfl) ?_
      refine lv_iconst (v := 4) hx hb dX9_sides_27 (by decide) ?_
      refine lv_icmp_ge (tgt := 67) hx hb dX9_sides_28 (by decide) (fun c20_ => absurd c20_ (by decide)) (fun c20_ => ?_)
      refine lv_aload_n hx hb dX9_sides_31 rfl (lv_at hl 4 rfl) ?_
      refine zget hx hb ht inlX9 hown hK hW 0 rfl rfl 6 (by decide) zm_29 rfl dX9_sides_32 ?_
      refine lv_iload hx hb dX9_sides_35 (lv_at hl 0 rfl) ?_
      refine zgo_v (wr := [(a0, .inr (8, [w2, w3, w4, w5, w6, w7, .ref a8, w9, w10])), (a22, .inr (2, [w26, .int 15, w27, w28, w29, w30, w31, w32]))]) (zrunV (As := [.int 2]) (rest := []) ⟨hx, hb, hml, hown, ht⟩ (zc_X1_turnTo_3 l D y a8 a11 (.int 20) w12 w13 w14 w15 w16 a17 w18 (.int 20) (.int 0) (.int 0) w19 w20 w21 (.ref a22) w23 w24 w25) (cwV 1 ht (zgV zm_983 zm_281 zm_282 zm_28 zm_283) rfl rfl rfl (by decide +kernel) ⟨(Nat.le_of_ble_eq_true rfl), (Nat.le_of_ble_eq_true rfl)⟩) hK hE hS hA hW [2, 3, 1] (by decide) rfl 0 rfl rfl rfl rfl hl.1 rfl (Nat.le_of_ble_eq_true rfl) dX9_sides_37 (Nat.le_of_ble_eq_true rfl) (Nat.le_of_ble_eq_true rfl)) hS hA hW [2, 3, 1] [0, 4] rfl rfl (by decide) (by decide) (fun u H locs hw hW hS => ?_)
      have hW : zPD D A [(a0, .inr (8, [w2, w3, w4, w5, w6, w7, .ref a8, w9, w10])), (a22, .inr (2, [w26, .int 15, w27, w28, w29, w30, w31, w32])), (a8, .inr (1, [.ref a11, .int 2, .int 20, w12, w13, w14, w15, w16, .ref a17])), (a11, .inr (6, [w18, .int 0, .int 20, .int 0, .int 0, w19, w20, w21, .ref a22, w23, w24, w25])), (a17, .inl (y 2, 4, .inl (upd (upd (upd (fun _ => 0) 0 1) 1 1) 2 1)))] H := hW
      refine lv_aload_n hx hb dX9_sides_40 rfl (lv_at hl 4 rfl) ?_
      refine zget hx hb ht inlX9 hown hK hW 0 rfl rfl 6 (by decide) zm_29 rfl dX9_sides_41 ?_
      refine zgo_i (wr := [(a0, .inr (8, [w2, w3, w4, w5, w6, w7, .ref a8, w9, w10])), (a17, .inl (y 2, 4, .inl (upd (upd (upd (fun _ => 0) 0 1) 1 1) 2 1)))]) (zrunV (As := []) (rest := []) ⟨hx, hb, hml, hown, ht⟩ (zc_X1_cost_0 l D y a8 a11 (.int 2) w12 w13 w14 w15 w16 (.ref a17) w18 (.int 20) (.int 0) w19 w20 w21 a22 w23 w24 w25 w26 w27 w28 w29 w30 w31 w32) (cwV 0 ht (zgV zm_827 zm_828 zm_829 zm_28 zm_830) rfl rfl rfl (by decide +kernel) ⟨(Nat.le_of_ble_eq_true rfl), (Nat.le_of_ble_eq_true rfl)⟩) hK hE hS hA hW [2, 3, 1] (by decide) rfl 0 rfl rfl rfl rfl hl.1 rfl (Nat.le_of_ble_eq_true rfl) dX9_sides_44 (Nat.le_of_ble_eq_true rfl) (Nat.le_of_ble_eq_true rfl)) hS hA hW [2, 3, 1] [0, 4] rfl rfl (by decide) (by decide) (fun r22_ u H locs hw hW hS => ?_)
      have hW : zPD D A [(a0, .inr (8, [w2, w3, w4, w5, w6, w7, .ref a8, w9, w10])), (a17, .inl (y 2, 4, .inl (upd (upd (upd (fun _ => 0) 0 1) 1 1) 2 1))), (a8, .inr (1, [.ref a11, .int 2, .int 20, w12, w13, w14, w15, w16, .ref a17])), (a11, .inr (6, [w18, .int 0, .int 20, .int 0, .int 0, w19, w20, w21, .ref a22, w23, w24, w25])), (a22, .inr (2, [w26, .int 15, w27, w28, w29, w30, w31, w32]))] H := hW
      have hw : r22_ = 0 := hw
      subst hw
      refine lv_istore (lv' := [(5, .int 0), (4, .int 2), (2, .int 0), (3, .int 0), (0, .ref a0), (1, .int p1)]) hx hb dX9_sides_47 hl (by decide) rfl (fun ls hl => ?_)
      refine lv_iload hx hb dX9_sides_49 (lv_at hl 0 rfl) ?_
      refine lv_iload_n hx hb dX9_sides_51 rfl (lv_at hl 3 rfl) ?_
      refine lv_icmp_le (tgt := 61) hx hb dX9_sides_52 (by decide) (fun c23_ => ?_) (fun c23_ => absurd (by decide) c23_)
      refine lv_iinc (k := 1) (v := 3) (lv' := [(4, .int 3), (5, .int 0), (2, .int 0), (3, .int 0), (0, .ref a0), (1, .int p1)]) hx hb dX9_sides_61 hl rfl (by decide) (by decide) rfl (fun ls hl => ?_)
      refine lv_goto (tgt := 25) hx hb dX9_sides_64 (by decide) ?_
      refine lv_iload hx hb dX9_sides_25 (lv_at hl 0 rfl) ?_
      refine lv_iconst (v := 4) hx hb dX9_sides_27 (by decide) ?_
      refine lv_icmp_ge (tgt := 67) hx hb dX9_sides_28 (by decide) (fun c24_ => absurd c24_ (by decide)) (fun c24_ => ?_)
      refine lv_aload_n hx hb dX9_sides_31 rfl (lv_at hl 4 rfl) ?_
      refine zget hx hb ht inlX9 hown hK hW 0 rfl rfl 6 (by decide) zm_29 rfl dX9_sides_32 ?_
      refine lv_iload hx hb dX9_sides_35 (lv_at hl 0 rfl) ?_
      refine zgo_v (wr := [(a0, .inr (8, [w2, w3, w4, w5, w6, w7, .ref a8, w9, w10])), (a22, .inr (2, [w26, .int 15, w27, w28, w29, w30, w31, w32]))]) (zrunV (As := [.int 3]) (rest := []) ⟨hx, hb, hml, hown, ht⟩ (zc_X1_turnTo_4 l D y a8 a11 (.int 20) w12 w13 w14 w15 w16 a17 w18 (.int 20) (.int 0) (.int 0) w19 w20 w21 (.ref a22) w23 w24 w25) (cwV 1 ht (zgV zm_983 zm_281 zm_282 zm_28 zm_283) rfl rfl rfl (by decide +kernel) ⟨(Nat.le_of_ble_eq_true rfl), (Nat.le_of_ble_eq_true rfl)⟩) hK hE hS hA hW [2, 3, 1] (by decide) rfl 0 rfl rfl rfl rfl hl.1 rfl (Nat.le_of_ble_eq_true rfl) dX9_sides_37 (Nat.le_of_ble_eq_true rfl) (Nat.le_of_ble_eq_true rfl)) hS hA hW [2, 3, 1] [0, 4] rfl rfl (by decide) (by decide) (fun u H locs hw hW hS => ?_)
      have hW : zPD D A [(a0, .inr (8, [w2, w3, w4, w5, w6, w7, .ref a8, w9, w10])), (a22, .inr (2, [w26, .int 15, w27, w28, w29, w30, w31, w32])), (a8, .inr (1, [.ref a11, .int 3, .int 20, w12, w13, w14, w15, w16, .ref a17])), (a11, .inr (6, [w18, .int 0, .int 20, .int 0, .int 0, w19, w20, w21, .ref a22, w23, w24, w25])), (a17, .inl (y 2, 4, .inl (upd (upd (upd (upd (fun _ => 0) 0 1) 1 1) 2 1) 3 1)))] H := hW
      refine lv_aload_n hx hb dX9_sides_40 rfl (lv_at hl 4 rfl) ?_
      refine zget hx hb ht inlX9 hown hK hW 0 rfl rfl 6 (by decide) zm_29 rfl dX9_sides_41 ?_
      refine zgo_i (wr := [(a0, .inr (8, [w2, w3, w4, w5, w6, w7, .ref a8, w9, w10])), (a17, .inl (y 2, 4, .inl (upd (upd (upd (upd (fun _ => 0) 0 1) 1 1) 2 1) 3 1)))]) (zrunV (As := []) (rest := []) ⟨hx, hb, hml, hown, ht⟩ (zc_X1_cost_0 l D y a8 a11 (.int 3) w12 w13 w14 w15 w16 (.ref a17) w18 (.int 20) (.int 0) w19 w20 w21 a22 w23 w24 w25 w26 w27 w28 w29 w30 w31 w32) (cwV 0 ht (zgV zm_827 zm_828 zm_829 zm_28 zm_830) rfl rfl rfl (by decide +kernel) ⟨(Nat.le_of_ble_eq_true rfl), (Nat.le_of_ble_eq_true rfl)⟩) hK hE hS hA hW [2, 3, 1] (by decide) rfl 0 rfl rfl rfl rfl hl.1 rfl (Nat.le_of_ble_eq_true rfl) dX9_sides_44 (Nat.le_of_ble_eq_true rfl) (Nat.le_of_ble_eq_true rfl)) hS hA hW [2, 3, 1] [0, 4] rfl rfl (by decide) (by decide) (fun r26_ u H locs hw hW hS => ?_)
      have hW : zPD D A [(a0, .inr (8, [w2, w3, w4, w5, w6, w7, .ref a8, w9, w10])), (a17, .inl (y 2, 4, .inl (upd (upd (upd (upd (fun _ => 0) 0 1) 1 1) 2 1) 3 1))), (a8, .inr (1, [.ref a11, .int 3, .int 20, w12, w13, w14, w15, w16, .ref a17])), (a11, .inr (6, [w18, .int 0, .int 20, .int 0, .int 0, w19, w20, w21, .ref a22, w23, w24, w25])), (a22, .inr (2, [w26, .int 15, w27, w28, w29, w30, w31, w32]))] H := hW
      have hw : r26_ = 0 := hw
      subst hw
      refine lv_istore (lv' := [(5, .int 0), (4, .int 3), (2, .int 0), (3, .int 0), (0, .ref a0), (1, .int p1)]) hx hb dX9_sides_47 hl (by decide) rfl (fun ls hl => ?_)
      refine lv_iload hx hb dX9_sides_49 (lv_at hl 0 rfl) ?_
      refine lv_iload_n hx hb dX9_sides_51 rfl (lv_at hl 3 rfl) ?_
      refine lv_icmp_le (tgt := 61) hx hb dX9_sides_52 (by decide) (fun c27_ => ?_) (fun c27_ => absurd (by decide) c27_)
      refine lv_iinc (k := 1) (v := 4) (lv' := [(4, .int 4), (5, .int 0), (2, .int 0), (3, .int 0), (0, .ref a0), (1, .int p1)]) hx hb dX9_sides_61 hl rfl (by decide) (by decide) rfl (fun ls hl => ?_)
      refine lv_goto (tgt := 25) hx hb dX9_sides_64 (by decide) ?_
      refine lv_iload hx hb dX9_sides_25 (lv_at hl 0 rfl) ?_
      refine lv_iconst (v := 4) hx hb dX9_sides_27 (by decide) ?_
      refine lv_icmp_ge (tgt := 67) hx hb dX9_sides_28 (by decide) (fun c28_ => ?_) (fun c28_ => absurd (by decide) c28_)
      refine lv_iload_n hx hb dX9_sides_67 rfl (lv_at hl 5 rfl) ?_
      refine lv_if_ne (tgt := 75) hx hb dX9_sides_68 (by decide) (fun c29_ => ?_) (fun c29_ => ?_)
      · have b30_ : 1 ≤ Int32.toInt p1 ∧ Int32.toInt p1 ≤ 1 := (by have u0 := b9_; have u1 := (not_congr (zi_eq _ _)).mp c29_; have u2 : (0 : Int32).toInt = 0 := (by decide); omega)
        refine lv_iload_n hx hb dX9_sides_75 rfl (lv_at hl 3 rfl) ?_
        exact zret_i (v := 0) hx hb hr hlocks hS () (by show _ = _; rw [if_neg c2_, if_neg c6_]) (hW.sub [] (by decide) rfl) (Nat.le_of_ble_eq_true rfl) (Nat.le_of_ble_eq_true rfl) dX9_sides_76
      · have b31_ : 0 ≤ Int32.toInt p1 ∧ Int32.toInt p1 ≤ 0 := (by have u0 := b9_; have u1 := (zi_eq _ _).mp c29_; have u2 : (0 : Int32).toInt = 0 := (by decide); omega)
        refine lv_iload_n hx hb dX9_sides_71 rfl (lv_at hl 2 rfl) ?_
        refine lv_goto (tgt := 76) hx hb dX9_sides_72 (by decide) ?_
        exact zret_i (v := 0) hx hb hr hlocks hS () (by show _ = _; rw [if_neg c2_, if_neg c6_]) (hW.sub [] (by decide) rfl) (Nat.le_of_ble_eq_true rfl) (Nat.le_of_ble_eq_true rfl) dX9_sides_76
set_option maxHeartbeats 8000000 in
set_option maxRecDepth 100000 in
theorem zc_X10_costOfNone_0 (l : Launch) (D : va_G) (y : Nat → ClassId) (a0 : Nat) (w1 : Value) (w2 : Value) (w3 : Value) (w4 : Value) (w5 : Value) (w6 : Value) (w7 : Value) (w8 : Value) (w9 : Value) (w10 : Value) (a11 : Nat) (w12 : Value) (w13 : Value) (w14 : Value) (w15 : Value) (w16 : Value) (w17 : Value) (w18 : Value) (w19 : Value) (w20 : Value) (w21 : Value) (w22 : Value) (w23 : Value) (w24 : Value) (w25 : Value) (w26 : Value) (w27 : Value) (w28 : Value) (w29 : Value) (w30 : Value) (a31 : Nat) (w32 : Value) (w33 : Value) (w34 : Value) (w35 : Value) (w36 : Value) (w37 : Value) (w38 : Value) (w39 : Value) (w40 : Value) (w41 : Value) (w42 : Value) (w43 : Value) (w44 : Value) (w45 : Value) (w46 : Value) (w47 : Value) (w48 : Value) (w49 : Value) (w50 : Value) (w51 : Value) (w52 : Value) (w53 : Value) (w54 : Value) (w55 : Value) (w56 : Value) (w57 : Value) (w58 : Value) (w59 : Value) (w60 : Value) (w61 : Value) (w62 : Value) (w63 : Value) (w64 : Value) (w65 : Value) (w66 : Value) (w67 : Value) (w68 : Value) (w69 : Value) (w70 : Value) (w71 : Value) (w72 : Value) : zM l D y yX10_costOfNone (Cond.code yX10_costOfNone cX10_costOfNone 1 (some .int) :: zT) { frames := 5, cells := 0, slots := 0, locals := 108 } [.ref a0] [(a0, .inr (9, [.int 0, .int 0, w1, .int 20, w2, w3, w4, w5, w6, w7, w8, w9, w10, .ref a11, w12, .int (-1), w13, w14, w15, w16, w17, w18, w19, w20, w21, w22, w23, w24, w25, w26, w27, w28, w29, w30, .ref a31, w32, w33, w34, w35, w36, w37, w38, w39, w40, w41, w42, w43, w44, w45, w46, w47, w48, w49, w50, w51, w52, w53, w54, w55, w56, w57, w58, w59, w60, w61, w62, w63, w64, w65, w66, w67, w68, w69, w70, w71, w72])), (a11, .inl (y 2, 7, .inl (fun _ => 0))), (a31, .inl (y 0, 7, .inl (fun _ => 0)))] (zQi (S := Unit) D (fun r_ _ => r_ = 0) (fun _ => [(a0, .inr (9, [.int 0, .int 0, w1, .int 20, w2, w3, w4, w5, w6, w7, w8, w9, w10, .ref a11, w12, .int (-1), w13, w14, w15, w16, w17, w18, w19, w20, w21, w22, w23, w24, w25, w26, w27, w28, w29, w30, .ref a31, w32, w33, w34, w35, w36, w37, w38, w39, w40, w41, w42, w43, w44, w45, w46, w47, w48, w49, w50, w51, w52, w53, w54, w55, w56, w57, w58, w59, w60, w61, w62, w63, w64, w65, w66, w67, w68, w69, w70, w71, w72])), (a11, .inl (y 2, 7, .inl (fun _ => 0))), (a31, .inl (y 0, 7, .inl (upd (upd (upd (upd (upd (upd (upd (fun _ => 0) 0 99999) 1 99999) 2 99999) 3 99999) 4 99999) 5 99999) 6 99999)))])) := by
  refine zent (cc := cX10_costOfNone) (maxL := 1) (ret := (some .int)) (by decide) (Nat.le_of_ble_eq_true rfl) ?_
  intro p e s m below meth c A H locs ls hx hb hml hr ht hown hlocks hin hA hK hE hS hW hl
  have hown : s.vm.findClass RX10 = some m.cls := hown
  have hW : zPD D A [(a0, .inr (9, [.int 0, .int 0, w1, .int 20, w2, w3, w4, w5, w6, w7, w8, w9, w10, .ref a11, w12, .int (-1), w13, w14, w15, w16, w17, w18, w19, w20, w21, w22, w23, w24, w25, w26, w27, w28, w29, w30, .ref a31, w32, w33, w34, w35, w36, w37, w38, w39, w40, w41, w42, w43, w44, w45, w46, w47, w48, w49, w50, w51, w52, w53, w54, w55, w56, w57, w58, w59, w60, w61, w62, w63, w64, w65, w66, w67, w68, w69, w70, w71, w72])), (a11, .inl (y 2, 7, .inl (fun _ => 0))), (a31, .inl (y 0, 7, .inl (fun _ => 0)))] H := hW
  have hl : lv_has ls 1 [(0, .ref a0)] := hl
  refine lv_aload_n hx hb dX10_costOfNone_0 rfl (lv_at hl 0 rfl) ?_
  refine zgo_v (wr := []) (zrunV (As := []) (rest := []) ⟨hx, hb, hml, hown, ht⟩ (zc_X10_layOpen_0 l D y a0 (.int 0) (.int 0) w1 (.int 20) w2 w3 w4 w5 w6 w7 w8 w9 w10 a11 w12 (.int (-1)) w13 w14 w15 w16 w17 w18 w19 w20 w21 w22 w23 w24 w25 w26 w27 w28 w29 w30 a31 w32 w33 w34 w35 w36 w37 w38 w39 w40 w41 w42 w43 w44 w45 w46 w47 w48 w49 w50 w51 w52 w53 w54 w55 w56 w57 w58 w59 w60 w61 w62 w63 w64 w65 w66 w67 w68 w69 w70 w71 w72) (cwV 0 ht (zgV zm_397 zm_398 zm_399 zm_5 zm_400) rfl rfl rfl (by decide +kernel) ⟨(Nat.le_of_ble_eq_true rfl), (Nat.le_of_ble_eq_true rfl)⟩) hK hE hS hA hW [0, 1, 2] (by decide) rfl 0 rfl rfl rfl rfl hl.1 rfl (Nat.le_of_ble_eq_true rfl) dX10_costOfNone_1 (Nat.le_of_ble_eq_true rfl) (Nat.le_of_ble_eq_true rfl)) hS hA hW [0, 1, 2] [] rfl rfl (by decide) (by decide) (fun u H locs hw hW hS => ?_)
  have hW : zPD D A [(a0, .inr (9, [.int 0, .int 0, w1, .int 20, w2, w3, w4, w5, w6, w7, w8, w9, w10, .ref a11, w12, .int (-1), w13, w14, w15, w16, w17, w18, w19, w20, w21, w22, w23, w24, w25, w26, w27, w28, w29, w30, .ref a31, w32, w33, w34, w35, w36, w37, w38, w39, w40, w41, w42, w43, w44, w45, w46, w47, w48, w49, w50, w51, w52, w53, w54, w55, w56, w57, w58, w59, w60, w61, w62, w63, w64, w65, w66, w67, w68, w69, w70, w71, w72])), (a11, .inl (y 2, 7, .inl (fun _ => 0))), (a31, .inl (y 0, 7, .inl (upd (upd (upd (upd (upd (upd (upd (fun _ => 0) 0 99999) 1 99999) 2 99999) 3 99999) 4 99999) 5 99999) 6 99999)))] H := hW
  refine lv_aload_n hx hb dX10_costOfNone_4 rfl (lv_at hl 0 rfl) ?_
  refine zgo_i (wr := [(a11, .inl (y 2, 7, .inl (fun _ => 0))), (a31, .inl (y 0, 7, .inl (upd (upd (upd (upd (upd (upd (upd (fun _ => 0) 0 99999) 1 99999) 2 99999) 3 99999) 4 99999) 5 99999) 6 99999)))]) (zrunV (As := []) (rest := []) ⟨hx, hb, hml, hown, ht⟩ (zc_X10_harmTillEnd_0 l D y a0 w1 w2 w3 w4 w5 w6 w7 w8 w9 w10 (.ref a11) w12 w13 w14 w15 w16 w17 w18 w19 w20 w21 w22 w23 w24 w25 w26 w27 w28 w29 w30 (.ref a31) w32 w33 w34 w35 w36 w37 w38 w39 w40 w41 w42 w43 w44 w45 w46 w47 w48 w49 w50 w51 w52 w53 w54 w55 w56 w57 w58 w59 w60 w61 w62 w63 w64 w65 w66 w67 w68 w69 w70 w71 w72) (cwV 0 ht (zgV zm_856 zm_857 zm_858 zm_5 zm_859) rfl rfl rfl (by decide +kernel) ⟨(Nat.le_of_ble_eq_true rfl), (Nat.le_of_ble_eq_true rfl)⟩) hK hE hS hA hW [0] (by decide) rfl 0 rfl rfl rfl rfl hl.1 rfl (Nat.le_of_ble_eq_true rfl) dX10_costOfNone_5 (Nat.le_of_ble_eq_true rfl) (Nat.le_of_ble_eq_true rfl)) hS hA hW [0] [1, 2] rfl rfl (by decide) (by decide) (fun r2_ u H locs hw hW hS => ?_)
  have hW : zPD D A [(a11, .inl (y 2, 7, .inl (fun _ => 0))), (a31, .inl (y 0, 7, .inl (upd (upd (upd (upd (upd (upd (upd (fun _ => 0) 0 99999) 1 99999) 2 99999) 3 99999) 4 99999) 5 99999) 6 99999))), (a0, .inr (9, [.int 0, .int 0, w1, .int 20, w2, w3, w4, w5, w6, w7, w8, w9, w10, .ref a11, w12, .int (-1), w13, w14, w15, w16, w17, w18, w19, w20, w21, w22, w23, w24, w25, w26, w27, w28, w29, w30, .ref a31, w32, w33, w34, w35, w36, w37, w38, w39, w40, w41, w42, w43, w44, w45, w46, w47, w48, w49, w50, w51, w52, w53, w54, w55, w56, w57, w58, w59, w60, w61, w62, w63, w64, w65, w66, w67, w68, w69, w70, w71, w72]))] H := hW
  have hw : r2_ = 0 := hw
  subst hw
  exact zret_i (v := 0) hx hb hr hlocks hS () rfl (hW.sub [2, 0, 1] (by decide) rfl) (Nat.le_of_ble_eq_true rfl) (Nat.le_of_ble_eq_true rfl) dX10_costOfNone_8
set_option maxHeartbeats 8000000 in
set_option maxRecDepth 100000 in
theorem zc_X10_layOpen_1 (l : Launch) (D : va_G) (y : Nat → ClassId) (a0 : Nat) (w1 : Value) (w2 : Value) (w3 : Value) (w4 : Value) (w5 : Value) (w6 : Value) (w7 : Value) (w8 : Value) (w9 : Value) (w10 : Value) (w11 : Value) (w12 : Value) (w13 : Value) (a14 : Nat) (w15 : Value) (w16 : Value) (w17 : Value) (w18 : Value) (w19 : Value) (w20 : Value) (w21 : Value) (w22 : Value) (w23 : Value) (w24 : Value) (w25 : Value) (w26 : Value) (w27 : Value) (w28 : Value) (w29 : Value) (w30 : Value) (w31 : Value) (w32 : Value) (w33 : Value) (w34 : Value) (a35 : Nat) (w36 : Value) (w37 : Value) (w38 : Value) (w39 : Value) (w40 : Value) (w41 : Value) (w42 : Value) (w43 : Value) (w44 : Value) (w45 : Value) (w46 : Value) (w47 : Value) (w48 : Value) (w49 : Value) (w50 : Value) (w51 : Value) (w52 : Value) (w53 : Value) (w54 : Value) (w55 : Value) (w56 : Value) (w57 : Value) (w58 : Value) (w59 : Value) (w60 : Value) (w61 : Value) (w62 : Value) (w63 : Value) (w64 : Value) (w65 : Value) (w66 : Value) (w67 : Value) (w68 : Value) (w69 : Value) (w70 : Value) (w71 : Value) (w72 : Value) (w73 : Value) (w74 : Value) (w75 : Value) (w76 : Value) : zM l D y yX10_layOpen (Cond.code yX10_layOpen cX10_layOpen 2 none :: zT) { frames := 0, cells := 0, slots := 0, locals := 0 } [.ref a0] [(a0, .inr (9, [w1, w2, w3, w4, w5, w6, w7, w8, w9, w10, w11, w12, w13, .ref a14, w15, w16, w17, w18, w19, w20, w21, w22, w23, w24, w25, w26, w27, w28, w29, w30, w31, w32, w33, w34, .ref a35, w36, w37, w38, w39, w40, w41, w42, w43, w44, w45, w46, w47, w48, w49, w50, w51, w52, w53, w54, w55, w56, w57, w58, w59, w60, w61, w62, w63, w64, w65, w66, w67, w68, w69, w70, w71, w72, w73, w74, w75, w76])), (a14, .inl (y 2, 7, .inl (fun _ => 0))), (a35, .inl (y 0, 7, .inl (upd (upd (upd (upd (upd (upd (upd (fun _ => 0) 0 99999) 1 99999) 2 99999) 3 99999) 4 99999) 5 99999) 6 99999)))] (zQv (S := Unit) D (fun _ => True) (fun _ => [(a0, .inr (9, [w1, w2, w3, w4, w5, w6, w7, w8, w9, w10, w11, w12, w13, .ref a14, w15, w16, w17, w18, w19, w20, w21, w22, w23, w24, w25, w26, w27, w28, w29, w30, w31, w32, w33, w34, .ref a35, w36, w37, w38, w39, w40, w41, w42, w43, w44, w45, w46, w47, w48, w49, w50, w51, w52, w53, w54, w55, w56, w57, w58, w59, w60, w61, w62, w63, w64, w65, w66, w67, w68, w69, w70, w71, w72, w73, w74, w75, w76])), (a14, .inl (y 2, 7, .inl (fun _ => 0))), (a35, .inl (y 0, 7, .inl (upd (upd (upd (upd (upd (upd (upd (upd (upd (upd (upd (upd (upd (upd (fun _ => 0) 0 99999) 1 99999) 2 99999) 3 99999) 4 99999) 5 99999) 6 99999) 0 99999) 1 99999) 2 99999) 3 99999) 4 99999) 5 99999) 6 99999)))])) := by
  refine zent (cc := cX10_layOpen) (maxL := 2) (ret := none) (by decide) (Nat.le_of_ble_eq_true rfl) ?_
  intro p e s m below meth c A H locs ls hx hb hml hr ht hown hlocks hin hA hK hE hS hW hl
  have hown : s.vm.findClass RX10 = some m.cls := hown
  have hW : zPD D A [(a0, .inr (9, [w1, w2, w3, w4, w5, w6, w7, w8, w9, w10, w11, w12, w13, .ref a14, w15, w16, w17, w18, w19, w20, w21, w22, w23, w24, w25, w26, w27, w28, w29, w30, w31, w32, w33, w34, .ref a35, w36, w37, w38, w39, w40, w41, w42, w43, w44, w45, w46, w47, w48, w49, w50, w51, w52, w53, w54, w55, w56, w57, w58, w59, w60, w61, w62, w63, w64, w65, w66, w67, w68, w69, w70, w71, w72, w73, w74, w75, w76])), (a14, .inl (y 2, 7, .inl (fun _ => 0))), (a35, .inl (y 0, 7, .inl (upd (upd (upd (upd (upd (upd (upd (fun _ => 0) 0 99999) 1 99999) 2 99999) 3 99999) 4 99999) 5 99999) 6 99999)))] H := hW
  have hl : lv_has ls 2 [(0, .ref a0)] := hl
  refine lv_iconst (v := 0) hx hb dX10_layOpen_0 (by decide) ?_
  refine lv_istore_n (lv' := [(1, .int 0), (0, .ref a0)]) hx hb dX10_layOpen_1 rfl hl (by decide) rfl (fun ls hl => ?_)
  refine lv_iload_n hx hb dX10_layOpen_2 rfl (lv_at hl 0 rfl) ?_
  refine lv_bipush (v := 7) hx hb dX10_layOpen_3 (by decide) ?_
  refine lv_icmp_ge (tgt := 36) hx hb dX10_layOpen_5 (by decide) (fun c1_ => absurd c1_ (by decide)) (fun c1_ => ?_)
  refine lv_aload_n hx hb dX10_layOpen_8 rfl (lv_at hl 1 rfl) ?_
  refine zget hx hb ht inlX10 hown hK hW 0 rfl rfl 34 (by decide) zm_174 rfl dX10_layOpen_9 ?_
  refine lv_iload_n hx hb dX10_layOpen_12 rfl (lv_at hl 0 rfl) ?_
  refine lv_aload_n hx hb dX10_layOpen_13 rfl (lv_at hl 1 rfl) ?_
  refine zget hx hb ht inlX10 hown hK hW 0 rfl rfl 13 (by decide) zm_153 rfl dX10_layOpen_14 ?_
  refine lv_iload_n hx hb dX10_layOpen_17 rfl (lv_at hl 0 rfl) ?_
  refine zzald (v := 0) hx hb hK hW 1 rfl (by unfold vp_in; decide) rfl dX10_layOpen_18 ?_
  refine lv_if_eq (tgt := 26) hx hb dX10_layOpen_19 (by decide) (fun c2_ => ?_) (fun c2_ => absurd (by decide) c2_)
  refine lv_ldcw (v := 99999) hx hb hown (ht _ zm_401) dX10_layOpen_26 ?_
  refine ziast (ws' := [(a0, .inr (9, [w1, w2, w3, w4, w5, w6, w7, w8, w9, w10, w11, w12, w13, .ref a14, w15, w16, w17, w18, w19, w20, w21, w22, w23, w24, w25, w26, w27, w28, w29, w30, w31, w32, w33, w34, .ref a35, w36, w37, w38, w39, w40, w41, w42, w43, w44, w45, w46, w47, w48, w49, w50, w51, w52, w53, w54, w55, w56, w57, w58, w59, w60, w61, w62, w63, w64, w65, w66, w67, w68, w69, w70, w71, w72, w73, w74, w75, w76])), (a14, .inl (y 2, 7, .inl (fun _ => 0))), (a35, .inl (y 0, 7, .inl (upd (upd (upd (upd (upd (upd (upd (upd (fun _ => 0) 0 99999) 1 99999) 2 99999) 3 99999) 4 99999) 5 99999) 6 99999) 0 99999)))]) hx hb hK hS hW 2 rfl (by unfold vp_in; decide) rfl rfl dX10_layOpen_29 (fun H locs hW hS => ?_)
  refine lv_iinc (k := 0) (v := 1) (lv' := [(1, .int 1), (0, .ref a0)]) hx hb dX10_layOpen_30 hl rfl (by decide) (by decide) rfl (fun ls hl => ?_)
  refine lv_goto (tgt := 2) hx hb dX10_layOpen_33 (by decide) ?_
  refine lv_iload_n hx hb dX10_layOpen_2 rfl (lv_at hl 0 rfl) ?_
  refine lv_bipush (v := 7) hx hb dX10_layOpen_3 (by decide) ?_
  refine lv_icmp_ge (tgt := 36) hx hb dX10_layOpen_5 (by decide) (fun c3_ => absurd c3_ (by decide)) (fun c3_ => ?_)
  refine lv_aload_n hx hb dX10_layOpen_8 rfl (lv_at hl 1 rfl) ?_
  refine zget hx hb ht inlX10 hown hK hW 0 rfl rfl 34 (by decide) zm_174 rfl dX10_layOpen_9 ?_
  refine lv_iload_n hx hb dX10_layOpen_12 rfl (lv_at hl 0 rfl) ?_
  refine lv_aload_n hx hb dX10_layOpen_13 rfl (lv_at hl 1 rfl) ?_
  refine zget hx hb ht inlX10 hown hK hW 0 rfl rfl 13 (by decide) zm_153 rfl dX10_layOpen_14 ?_
  refine lv_iload_n hx hb dX10_layOpen_17 rfl (lv_at hl 0 rfl) ?_
  refine zzald (v := 0) hx hb hK hW 1 rfl (by unfold vp_in; decide) rfl dX10_layOpen_18 ?_
  refine lv_if_eq (tgt := 26) hx hb dX10_layOpen_19 (by decide) (fun c4_ => ?_) (fun c4_ => absurd (by decide) c4_)
  refine lv_ldcw (v := 99999) hx hb hown (ht _ zm_401) dX10_layOpen_26 ?_
  refine ziast (ws' := [(a0, .inr (9, [w1, w2, w3, w4, w5, w6, w7, w8, w9, w10, w11, w12, w13, .ref a14, w15, w16, w17, w18, w19, w20, w21, w22, w23, w24, w25, w26, w27, w28, w29, w30, w31, w32, w33, w34, .ref a35, w36, w37, w38, w39, w40, w41, w42, w43, w44, w45, w46, w47, w48, w49, w50, w51, w52, w53, w54, w55, w56, w57, w58, w59, w60, w61, w62, w63, w64, w65, w66, w67, w68, w69, w70, w71, w72, w73, w74, w75, w76])), (a14, .inl (y 2, 7, .inl (fun _ => 0))), (a35, .inl (y 0, 7, .inl (upd (upd (upd (upd (upd (upd (upd (upd (upd (fun _ => 0) 0 99999) 1 99999) 2 99999) 3 99999) 4 99999) 5 99999) 6 99999) 0 99999) 1 99999)))]) hx hb hK hS hW 2 rfl (by unfold vp_in; decide) rfl rfl dX10_layOpen_29 (fun H locs hW hS => ?_)
  refine lv_iinc (k := 0) (v := 2) (lv' := [(1, .int 2), (0, .ref a0)]) hx hb dX10_layOpen_30 hl rfl (by decide) (by decide) rfl (fun ls hl => ?_)
  refine lv_goto (tgt := 2) hx hb dX10_layOpen_33 (by decide) ?_
  refine lv_iload_n hx hb dX10_layOpen_2 rfl (lv_at hl 0 rfl) ?_
  refine lv_bipush (v := 7) hx hb dX10_layOpen_3 (by decide) ?_
  refine lv_icmp_ge (tgt := 36) hx hb dX10_layOpen_5 (by decide) (fun c5_ => absurd c5_ (by decide)) (fun c5_ => ?_)
  refine lv_aload_n hx hb dX10_layOpen_8 rfl (lv_at hl 1 rfl) ?_
  refine zget hx hb ht inlX10 hown hK hW 0 rfl rfl 34 (by decide) zm_174 rfl dX10_layOpen_9 ?_
  refine lv_iload_n hx hb dX10_layOpen_12 rfl (lv_at hl 0 rfl) ?_
  refine lv_aload_n hx hb dX10_layOpen_13 rfl (lv_at hl 1 rfl) ?_
  refine zget hx hb ht inlX10 hown hK hW 0 rfl rfl 13 (by decide) zm_153 rfl dX10_layOpen_14 ?_
  refine lv_iload_n hx hb dX10_layOpen_17 rfl (lv_at hl 0 rfl) ?_
  refine zzald (v := 0) hx hb hK hW 1 rfl (by unfold vp_in; decide) rfl dX10_layOpen_18 ?_
  refine lv_if_eq (tgt := 26) hx hb dX10_layOpen_19 (by decide) (fun c6_ => ?_) (fun c6_ => absurd (by decide) c6_)
  refine lv_ldcw (v := 99999) hx hb hown (ht _ zm_401) dX10_layOpen_26 ?_
  refine ziast (ws' := [(a0, .inr (9, [w1, w2, w3, w4, w5, w6, w7, w8, w9, w10, w11, w12, w13, .ref a14, w15, w16, w17, w18, w19, w20, w21, w22, w23, w24, w25, w26, w27, w28, w29, w30, w31, w32, w33, w34, .ref a35, w36, w37, w38, w39, w40, w41, w42, w43, w44, w45, w46, w47, w48, w49, w50, w51, w52, w53, w54, w55, w56, w57, w58, w59, w60, w61, w62, w63, w64, w65, w66, w67, w68, w69, w70, w71, w72, w73, w74, w75, w76])), (a14, .inl (y 2, 7, .inl (fun _ => 0))), (a35, .inl (y 0, 7, .inl (upd (upd (upd (upd (upd (upd (upd (upd (upd (upd (fun _ => 0) 0 99999) 1 99999) 2 99999) 3 99999) 4 99999) 5 99999) 6 99999) 0 99999) 1 99999) 2 99999)))]) hx hb hK hS hW 2 rfl (by unfold vp_in; decide) rfl rfl dX10_layOpen_29 (fun H locs hW hS => ?_)
  refine lv_iinc (k := 0) (v := 3) (lv' := [(1, .int 3), (0, .ref a0)]) hx hb dX10_layOpen_30 hl rfl (by decide) (by decide) rfl (fun ls hl => ?_)
  refine lv_goto (tgt := 2) hx hb dX10_layOpen_33 (by decide) ?_
  refine lv_iload_n hx hb dX10_layOpen_2 rfl (lv_at hl 0 rfl) ?_
  refine lv_bipush (v := 7) hx hb dX10_layOpen_3 (by decide) ?_
  refine lv_icmp_ge (tgt := 36) hx hb dX10_layOpen_5 (by decide) (fun c7_ => absurd c7_ (by decide)) (fun c7_ => ?_)
  refine lv_aload_n hx hb dX10_layOpen_8 rfl (lv_at hl 1 rfl) ?_
  refine zget hx hb ht inlX10 hown hK hW 0 rfl rfl 34 (by decide) zm_174 rfl dX10_layOpen_9 ?_
  refine lv_iload_n hx hb dX10_layOpen_12 rfl (lv_at hl 0 rfl) ?_
  refine lv_aload_n hx hb dX10_layOpen_13 rfl (lv_at hl 1 rfl) ?_
  refine zget hx hb ht inlX10 hown hK hW 0 rfl rfl 13 (by decide) zm_153 rfl dX10_layOpen_14 ?_
  refine lv_iload_n hx hb dX10_layOpen_17 rfl (lv_at hl 0 rfl) ?_
  refine zzald (v := 0) hx hb hK hW 1 rfl (by unfold vp_in; decide) rfl dX10_layOpen_18 ?_
  refine lv_if_eq (tgt := 26) hx hb dX10_layOpen_19 (by decide) (fun c8_ => ?_) (fun c8_ => absurd (by decide) c8_)
  refine lv_ldcw (v := 99999) hx hb hown (ht _ zm_401) dX10_layOpen_26 ?_
  refine ziast (ws' := [(a0, .inr (9, [w1, w2, w3, w4, w5, w6, w7, w8, w9, w10, w11, w12, w13, .ref a14, w15, w16, w17, w18, w19, w20, w21, w22, w23, w24, w25, w26, w27, w28, w29, w30, w31, w32, w33, w34, .ref a35, w36, w37, w38, w39, w40, w41, w42, w43, w44, w45, w46, w47, w48, w49, w50, w51, w52, w53, w54, w55, w56, w57, w58, w59, w60, w61, w62, w63, w64, w65, w66, w67, w68, w69, w70, w71, w72, w73, w74, w75, w76])), (a14, .inl (y 2, 7, .inl (fun _ => 0))), (a35, .inl (y 0, 7, .inl (upd (upd (upd (upd (upd (upd (upd (upd (upd (upd (upd (fun _ => 0) 0 99999) 1 99999) 2 99999) 3 99999) 4 99999) 5 99999) 6 99999) 0 99999) 1 99999) 2 99999) 3 99999)))]) hx hb hK hS hW 2 rfl (by unfold vp_in; decide) rfl rfl dX10_layOpen_29 (fun H locs hW hS => ?_)
  refine lv_iinc (k := 0) (v := 4) (lv' := [(1, .int 4), (0, .ref a0)]) hx hb dX10_layOpen_30 hl rfl (by decide) (by decide) rfl (fun ls hl => ?_)
  refine lv_goto (tgt := 2) hx hb dX10_layOpen_33 (by decide) ?_
  refine lv_iload_n hx hb dX10_layOpen_2 rfl (lv_at hl 0 rfl) ?_
  refine lv_bipush (v := 7) hx hb dX10_layOpen_3 (by decide) ?_
  refine lv_icmp_ge (tgt := 36) hx hb dX10_layOpen_5 (by decide) (fun c9_ => absurd c9_ (by decide)) (fun c9_ => ?_)
  refine lv_aload_n hx hb dX10_layOpen_8 rfl (lv_at hl 1 rfl) ?_
  refine zget hx hb ht inlX10 hown hK hW 0 rfl rfl 34 (by decide) zm_174 rfl dX10_layOpen_9 ?_
  refine lv_iload_n hx hb dX10_layOpen_12 rfl (lv_at hl 0 rfl) ?_
  refine lv_aload_n hx hb dX10_layOpen_13 rfl (lv_at hl 1 rfl) ?_
  refine zget hx hb ht inlX10 hown hK hW 0 rfl rfl 13 (by decide) zm_153 rfl dX10_layOpen_14 ?_
  refine lv_iload_n hx hb dX10_layOpen_17 rfl (lv_at hl 0 rfl) ?_
  refine zzald (v := 0) hx hb hK hW 1 rfl (by unfold vp_in; decide) rfl dX10_layOpen_18 ?_
  refine lv_if_eq (tgt := 26) hx hb dX10_layOpen_19 (by decide) (fun c10_ => ?_) (fun c10_ => absurd (by decide) c10_)
  refine lv_ldcw (v := 99999) hx hb hown (ht _ zm_401) dX10_layOpen_26 ?_
  refine ziast (ws' := [(a0, .inr (9, [w1, w2, w3, w4, w5, w6, w7, w8, w9, w10, w11, w12, w13, .ref a14, w15, w16, w17, w18, w19, w20, w21, w22, w23, w24, w25, w26, w27, w28, w29, w30, w31, w32, w33, w34, .ref a35, w36, w37, w38, w39, w40, w41, w42, w43, w44, w45, w46, w47, w48, w49, w50, w51, w52, w53, w54, w55, w56, w57, w58, w59, w60, w61, w62, w63, w64, w65, w66, w67, w68, w69, w70, w71, w72, w73, w74, w75, w76])), (a14, .inl (y 2, 7, .inl (fun _ => 0))), (a35, .inl (y 0, 7, .inl (upd (upd (upd (upd (upd (upd (upd (upd (upd (upd (upd (upd (fun _ => 0) 0 99999) 1 99999) 2 99999) 3 99999) 4 99999) 5 99999) 6 99999) 0 99999) 1 99999) 2 99999) 3 99999) 4 99999)))]) hx hb hK hS hW 2 rfl (by unfold vp_in; decide) rfl rfl dX10_layOpen_29 (fun H locs hW hS => ?_)
  refine lv_iinc (k := 0) (v := 5) (lv' := [(1, .int 5), (0, .ref a0)]) hx hb dX10_layOpen_30 hl rfl (by decide) (by decide) rfl (fun ls hl => ?_)
  refine lv_goto (tgt := 2) hx hb dX10_layOpen_33 (by decide) ?_
  refine lv_iload_n hx hb dX10_layOpen_2 rfl (lv_at hl 0 rfl) ?_
  refine lv_bipush (v := 7) hx hb dX10_layOpen_3 (by decide) ?_
  refine lv_icmp_ge (tgt := 36) hx hb dX10_layOpen_5 (by decide) (fun c11_ => absurd c11_ (by decide)) (fun c11_ => ?_)
  refine lv_aload_n hx hb dX10_layOpen_8 rfl (lv_at hl 1 rfl) ?_
  refine zget hx hb ht inlX10 hown hK hW 0 rfl rfl 34 (by decide) zm_174 rfl dX10_layOpen_9 ?_
  refine lv_iload_n hx hb dX10_layOpen_12 rfl (lv_at hl 0 rfl) ?_
  refine lv_aload_n hx hb dX10_layOpen_13 rfl (lv_at hl 1 rfl) ?_
  refine zget hx hb ht inlX10 hown hK hW 0 rfl rfl 13 (by decide) zm_153 rfl dX10_layOpen_14 ?_
  refine lv_iload_n hx hb dX10_layOpen_17 rfl (lv_at hl 0 rfl) ?_
  refine zzald (v := 0) hx hb hK hW 1 rfl (by unfold vp_in; decide) rfl dX10_layOpen_18 ?_
  refine lv_if_eq (tgt := 26) hx hb dX10_layOpen_19 (by decide) (fun c12_ => ?_) (fun c12_ => absurd (by decide) c12_)
  refine lv_ldcw (v := 99999) hx hb hown (ht _ zm_401) dX10_layOpen_26 ?_
  refine ziast (ws' := [(a0, .inr (9, [w1, w2, w3, w4, w5, w6, w7, w8, w9, w10, w11, w12, w13, .ref a14, w15, w16, w17, w18, w19, w20, w21, w22, w23, w24, w25, w26, w27, w28, w29, w30, w31, w32, w33, w34, .ref a35, w36, w37, w38, w39, w40, w41, w42, w43, w44, w45, w46, w47, w48, w49, w50, w51, w52, w53, w54, w55, w56, w57, w58, w59, w60, w61, w62, w63, w64, w65, w66, w67, w68, w69, w70, w71, w72, w73, w74, w75, w76])), (a14, .inl (y 2, 7, .inl (fun _ => 0))), (a35, .inl (y 0, 7, .inl (upd (upd (upd (upd (upd (upd (upd (upd (upd (upd (upd (upd (upd (fun _ => 0) 0 99999) 1 99999) 2 99999) 3 99999) 4 99999) 5 99999) 6 99999) 0 99999) 1 99999) 2 99999) 3 99999) 4 99999) 5 99999)))]) hx hb hK hS hW 2 rfl (by unfold vp_in; decide) rfl rfl dX10_layOpen_29 (fun H locs hW hS => ?_)
  refine lv_iinc (k := 0) (v := 6) (lv' := [(1, .int 6), (0, .ref a0)]) hx hb dX10_layOpen_30 hl rfl (by decide) (by decide) rfl (fun ls hl => ?_)
  refine lv_goto (tgt := 2) hx hb dX10_layOpen_33 (by decide) ?_
  refine lv_iload_n hx hb dX10_layOpen_2 rfl (lv_at hl 0 rfl) ?_
  refine lv_bipush (v := 7) hx hb dX10_layOpen_3 (by decide) ?_
  refine lv_icmp_ge (tgt := 36) hx hb dX10_layOpen_5 (by decide) (fun c13_ => absurd c13_ (by decide)) (fun c13_ => ?_)
  refine lv_aload_n hx hb dX10_layOpen_8 rfl (lv_at hl 1 rfl) ?_
  refine zget hx hb ht inlX10 hown hK hW 0 rfl rfl 34 (by decide) zm_174 rfl dX10_layOpen_9 ?_
  refine lv_iload_n hx hb dX10_layOpen_12 rfl (lv_at hl 0 rfl) ?_
  refine lv_aload_n hx hb dX10_layOpen_13 rfl (lv_at hl 1 rfl) ?_
  refine zget hx hb ht inlX10 hown hK hW 0 rfl rfl 13 (by decide) zm_153 rfl dX10_layOpen_14 ?_
  refine lv_iload_n hx hb dX10_layOpen_17 rfl (lv_at hl 0 rfl) ?_
  refine zzald (v := 0) hx hb hK hW 1 rfl (by unfold vp_in; decide) rfl dX10_layOpen_18 ?_
  refine lv_if_eq (tgt := 26) hx hb dX10_layOpen_19 (by decide) (fun c14_ => ?_) (fun c14_ => absurd (by decide) c14_)
  refine lv_ldcw (v := 99999) hx hb hown (ht _ zm_401) dX10_layOpen_26 ?_
  refine ziast (ws' := [(a0, .inr (9, [w1, w2, w3, w4, w5, w6, w7, w8, w9, w10, w11, w12, w13, .ref a14, w15, w16, w17, w18, w19, w20, w21, w22, w23, w24, w25, w26, w27, w28, w29, w30, w31, w32, w33, w34, .ref a35, w36, w37, w38, w39, w40, w41, w42, w43, w44, w45, w46, w47, w48, w49, w50, w51, w52, w53, w54, w55, w56, w57, w58, w59, w60, w61, w62, w63, w64, w65, w66, w67, w68, w69, w70, w71, w72, w73, w74, w75, w76])), (a14, .inl (y 2, 7, .inl (fun _ => 0))), (a35, .inl (y 0, 7, .inl (upd (upd (upd (upd (upd (upd (upd (upd (upd (upd (upd (upd (upd (upd (fun _ => 0) 0 99999) 1 99999) 2 99999) 3 99999) 4 99999) 5 99999) 6 99999) 0 99999) 1 99999) 2 99999) 3 99999) 4 99999) 5 99999) 6 99999)))]) hx hb hK hS hW 2 rfl (by unfold vp_in; decide) rfl rfl dX10_layOpen_29 (fun H locs hW hS => ?_)
  refine lv_iinc (k := 0) (v := 7) (lv' := [(1, .int 7), (0, .ref a0)]) hx hb dX10_layOpen_30 hl rfl (by decide) (by decide) rfl (fun ls hl => ?_)
  refine lv_goto (tgt := 2) hx hb dX10_layOpen_33 (by decide) ?_
  refine lv_iload_n hx hb dX10_layOpen_2 rfl (lv_at hl 0 rfl) ?_
  refine lv_bipush (v := 7) hx hb dX10_layOpen_3 (by decide) ?_
  refine lv_icmp_ge (tgt := 36) hx hb dX10_layOpen_5 (by decide) (fun c15_ => ?_) (fun c15_ => absurd (by decide) c15_)
  exact zret_v hx hb hr hlocks hS () trivial hW (Nat.le_of_ble_eq_true rfl) (Nat.le_of_ble_eq_true rfl) dX10_layOpen_36
set_option maxHeartbeats 8000000 in
set_option maxRecDepth 100000 in
theorem zc_X10_costOfNone_1 (l : Launch) (D : va_G) (y : Nat → ClassId) (a0 : Nat) (w1 : Value) (w2 : Value) (w3 : Value) (w4 : Value) (w5 : Value) (w6 : Value) (w7 : Value) (w8 : Value) (w9 : Value) (w10 : Value) (a11 : Nat) (w12 : Value) (w13 : Value) (w14 : Value) (w15 : Value) (w16 : Value) (w17 : Value) (w18 : Value) (w19 : Value) (w20 : Value) (w21 : Value) (w22 : Value) (w23 : Value) (w24 : Value) (w25 : Value) (w26 : Value) (w27 : Value) (w28 : Value) (w29 : Value) (w30 : Value) (a31 : Nat) (w32 : Value) (w33 : Value) (w34 : Value) (w35 : Value) (w36 : Value) (w37 : Value) (w38 : Value) (w39 : Value) (w40 : Value) (w41 : Value) (w42 : Value) (w43 : Value) (w44 : Value) (w45 : Value) (w46 : Value) (w47 : Value) (w48 : Value) (w49 : Value) (w50 : Value) (w51 : Value) (w52 : Value) (w53 : Value) (w54 : Value) (w55 : Value) (w56 : Value) (w57 : Value) (w58 : Value) (w59 : Value) (w60 : Value) (w61 : Value) (w62 : Value) (w63 : Value) (w64 : Value) (w65 : Value) (w66 : Value) (w67 : Value) (w68 : Value) (w69 : Value) (w70 : Value) (w71 : Value) (w72 : Value) : zM l D y yX10_costOfNone (Cond.code yX10_costOfNone cX10_costOfNone 1 (some .int) :: zT) { frames := 5, cells := 0, slots := 0, locals := 108 } [.ref a0] [(a0, .inr (9, [.int 0, .int 0, w1, .int 20, w2, w3, w4, w5, w6, w7, w8, w9, w10, .ref a11, w12, .int (-1), w13, w14, w15, w16, w17, w18, w19, w20, w21, w22, w23, w24, w25, w26, w27, w28, w29, w30, .ref a31, w32, w33, w34, w35, w36, w37, w38, w39, w40, w41, w42, w43, w44, w45, w46, w47, w48, w49, w50, w51, w52, w53, w54, w55, w56, w57, w58, w59, w60, w61, w62, w63, w64, w65, w66, w67, w68, w69, w70, w71, w72])), (a11, .inl (y 2, 7, .inl (fun _ => 0))), (a31, .inl (y 0, 7, .inl (upd (upd (upd (upd (upd (upd (upd (fun _ => 0) 0 99999) 1 99999) 2 99999) 3 99999) 4 99999) 5 99999) 6 99999)))] (zQi (S := Unit) D (fun r_ _ => r_ = 0) (fun _ => [(a0, .inr (9, [.int 0, .int 0, w1, .int 20, w2, w3, w4, w5, w6, w7, w8, w9, w10, .ref a11, w12, .int (-1), w13, w14, w15, w16, w17, w18, w19, w20, w21, w22, w23, w24, w25, w26, w27, w28, w29, w30, .ref a31, w32, w33, w34, w35, w36, w37, w38, w39, w40, w41, w42, w43, w44, w45, w46, w47, w48, w49, w50, w51, w52, w53, w54, w55, w56, w57, w58, w59, w60, w61, w62, w63, w64, w65, w66, w67, w68, w69, w70, w71, w72])), (a11, .inl (y 2, 7, .inl (fun _ => 0))), (a31, .inl (y 0, 7, .inl (upd (upd (upd (upd (upd (upd (upd (upd (upd (upd (upd (upd (upd (upd (fun _ => 0) 0 99999) 1 99999) 2 99999) 3 99999) 4 99999) 5 99999) 6 99999) 0 99999) 1 99999) 2 99999) 3 99999) 4 99999) 5 99999) 6 99999)))])) := by
  refine zent (cc := cX10_costOfNone) (maxL := 1) (ret := (some .int)) (by decide) (Nat.le_of_ble_eq_true rfl) ?_
  intro p e s m below meth c A H locs ls hx hb hml hr ht hown hlocks hin hA hK hE hS hW hl
  have hown : s.vm.findClass RX10 = some m.cls := hown
  have hW : zPD D A [(a0, .inr (9, [.int 0, .int 0, w1, .int 20, w2, w3, w4, w5, w6, w7, w8, w9, w10, .ref a11, w12, .int (-1), w13, w14, w15, w16, w17, w18, w19, w20, w21, w22, w23, w24, w25, w26, w27, w28, w29, w30, .ref a31, w32, w33, w34, w35, w36, w37, w38, w39, w40, w41, w42, w43, w44, w45, w46, w47, w48, w49, w50, w51, w52, w53, w54, w55, w56, w57, w58, w59, w60, w61, w62, w63, w64, w65, w66, w67, w68, w69, w70, w71, w72])), (a11, .inl (y 2, 7, .inl (fun _ => 0))), (a31, .inl (y 0, 7, .inl (upd (upd (upd (upd (upd (upd (upd (fun _ => 0) 0 99999) 1 99999) 2 99999) 3 99999) 4 99999) 5 99999) 6 99999)))] H := hW
  have hl : lv_has ls 1 [(0, .ref a0)] := hl
  refine lv_aload_n hx hb dX10_costOfNone_0 rfl (lv_at hl 0 rfl) ?_
  refine zgo_v (wr := []) (zrunV (As := []) (rest := []) ⟨hx, hb, hml, hown, ht⟩ (zc_X10_layOpen_1 l D y a0 (.int 0) (.int 0) w1 (.int 20) w2 w3 w4 w5 w6 w7 w8 w9 w10 a11 w12 (.int (-1)) w13 w14 w15 w16 w17 w18 w19 w20 w21 w22 w23 w24 w25 w26 w27 w28 w29 w30 a31 w32 w33 w34 w35 w36 w37 w38 w39 w40 w41 w42 w43 w44 w45 w46 w47 w48 w49 w50 w51 w52 w53 w54 w55 w56 w57 w58 w59 w60 w61 w62 w63 w64 w65 w66 w67 w68 w69 w70 w71 w72) (cwV 0 ht (zgV zm_397 zm_398 zm_399 zm_5 zm_400) rfl rfl rfl (by decide +kernel) ⟨(Nat.le_of_ble_eq_true rfl), (Nat.le_of_ble_eq_true rfl)⟩) hK hE hS hA hW [0, 1, 2] (by decide) rfl 0 rfl rfl rfl rfl hl.1 rfl (Nat.le_of_ble_eq_true rfl) dX10_costOfNone_1 (Nat.le_of_ble_eq_true rfl) (Nat.le_of_ble_eq_true rfl)) hS hA hW [0, 1, 2] [] rfl rfl (by decide) (by decide) (fun u H locs hw hW hS => ?_)
  have hW : zPD D A [(a0, .inr (9, [.int 0, .int 0, w1, .int 20, w2, w3, w4, w5, w6, w7, w8, w9, w10, .ref a11, w12, .int (-1), w13, w14, w15, w16, w17, w18, w19, w20, w21, w22, w23, w24, w25, w26, w27, w28, w29, w30, .ref a31, w32, w33, w34, w35, w36, w37, w38, w39, w40, w41, w42, w43, w44, w45, w46, w47, w48, w49, w50, w51, w52, w53, w54, w55, w56, w57, w58, w59, w60, w61, w62, w63, w64, w65, w66, w67, w68, w69, w70, w71, w72])), (a11, .inl (y 2, 7, .inl (fun _ => 0))), (a31, .inl (y 0, 7, .inl (upd (upd (upd (upd (upd (upd (upd (upd (upd (upd (upd (upd (upd (upd (fun _ => 0) 0 99999) 1 99999) 2 99999) 3 99999) 4 99999) 5 99999) 6 99999) 0 99999) 1 99999) 2 99999) 3 99999) 4 99999) 5 99999) 6 99999)))] H := hW
  refine lv_aload_n hx hb dX10_costOfNone_4 rfl (lv_at hl 0 rfl) ?_
  refine zgo_i (wr := [(a11, .inl (y 2, 7, .inl (fun _ => 0))), (a31, .inl (y 0, 7, .inl (upd (upd (upd (upd (upd (upd (upd (upd (upd (upd (upd (upd (upd (upd (fun _ => 0) 0 99999) 1 99999) 2 99999) 3 99999) 4 99999) 5 99999) 6 99999) 0 99999) 1 99999) 2 99999) 3 99999) 4 99999) 5 99999) 6 99999)))]) (zrunV (As := []) (rest := []) ⟨hx, hb, hml, hown, ht⟩ (zc_X10_harmTillEnd_0 l D y a0 w1 w2 w3 w4 w5 w6 w7 w8 w9 w10 (.ref a11) w12 w13 w14 w15 w16 w17 w18 w19 w20 w21 w22 w23 w24 w25 w26 w27 w28 w29 w30 (.ref a31) w32 w33 w34 w35 w36 w37 w38 w39 w40 w41 w42 w43 w44 w45 w46 w47 w48 w49 w50 w51 w52 w53 w54 w55 w56 w57 w58 w59 w60 w61 w62 w63 w64 w65 w66 w67 w68 w69 w70 w71 w72) (cwV 0 ht (zgV zm_856 zm_857 zm_858 zm_5 zm_859) rfl rfl rfl (by decide +kernel) ⟨(Nat.le_of_ble_eq_true rfl), (Nat.le_of_ble_eq_true rfl)⟩) hK hE hS hA hW [0] (by decide) rfl 0 rfl rfl rfl rfl hl.1 rfl (Nat.le_of_ble_eq_true rfl) dX10_costOfNone_5 (Nat.le_of_ble_eq_true rfl) (Nat.le_of_ble_eq_true rfl)) hS hA hW [0] [1, 2] rfl rfl (by decide) (by decide) (fun r2_ u H locs hw hW hS => ?_)
  have hW : zPD D A [(a11, .inl (y 2, 7, .inl (fun _ => 0))), (a31, .inl (y 0, 7, .inl (upd (upd (upd (upd (upd (upd (upd (upd (upd (upd (upd (upd (upd (upd (fun _ => 0) 0 99999) 1 99999) 2 99999) 3 99999) 4 99999) 5 99999) 6 99999) 0 99999) 1 99999) 2 99999) 3 99999) 4 99999) 5 99999) 6 99999))), (a0, .inr (9, [.int 0, .int 0, w1, .int 20, w2, w3, w4, w5, w6, w7, w8, w9, w10, .ref a11, w12, .int (-1), w13, w14, w15, w16, w17, w18, w19, w20, w21, w22, w23, w24, w25, w26, w27, w28, w29, w30, .ref a31, w32, w33, w34, w35, w36, w37, w38, w39, w40, w41, w42, w43, w44, w45, w46, w47, w48, w49, w50, w51, w52, w53, w54, w55, w56, w57, w58, w59, w60, w61, w62, w63, w64, w65, w66, w67, w68, w69, w70, w71, w72]))] H := hW
  have hw : r2_ = 0 := hw
  subst hw
  exact zret_i (v := 0) hx hb hr hlocks hS () rfl (hW.sub [2, 0, 1] (by decide) rfl) (Nat.le_of_ble_eq_true rfl) (Nat.le_of_ble_eq_true rfl) dX10_costOfNone_8
set_option maxHeartbeats 8000000 in
set_option maxRecDepth 100000 in
theorem zc_X10_layOpen_2 (l : Launch) (D : va_G) (y : Nat → ClassId) (a0 : Nat) (w1 : Value) (w2 : Value) (w3 : Value) (w4 : Value) (w5 : Value) (w6 : Value) (w7 : Value) (w8 : Value) (w9 : Value) (w10 : Value) (w11 : Value) (w12 : Value) (w13 : Value) (a14 : Nat) (w15 : Value) (w16 : Value) (w17 : Value) (w18 : Value) (w19 : Value) (w20 : Value) (w21 : Value) (w22 : Value) (w23 : Value) (w24 : Value) (w25 : Value) (w26 : Value) (w27 : Value) (w28 : Value) (w29 : Value) (w30 : Value) (w31 : Value) (w32 : Value) (w33 : Value) (w34 : Value) (a35 : Nat) (w36 : Value) (w37 : Value) (w38 : Value) (w39 : Value) (w40 : Value) (w41 : Value) (w42 : Value) (w43 : Value) (w44 : Value) (w45 : Value) (w46 : Value) (w47 : Value) (w48 : Value) (w49 : Value) (w50 : Value) (w51 : Value) (w52 : Value) (w53 : Value) (w54 : Value) (w55 : Value) (w56 : Value) (w57 : Value) (w58 : Value) (w59 : Value) (w60 : Value) (w61 : Value) (w62 : Value) (w63 : Value) (w64 : Value) (w65 : Value) (w66 : Value) (w67 : Value) (w68 : Value) (w69 : Value) (w70 : Value) (w71 : Value) (w72 : Value) (w73 : Value) (w74 : Value) (w75 : Value) (w76 : Value) : zM l D y yX10_layOpen (Cond.code yX10_layOpen cX10_layOpen 2 none :: zT) { frames := 0, cells := 0, slots := 0, locals := 0 } [.ref a0] [(a0, .inr (9, [w1, w2, w3, w4, w5, w6, w7, w8, w9, w10, w11, w12, w13, .ref a14, w15, w16, w17, w18, w19, w20, w21, w22, w23, w24, w25, w26, w27, w28, w29, w30, w31, w32, w33, w34, .ref a35, w36, w37, w38, w39, w40, w41, w42, w43, w44, w45, w46, w47, w48, w49, w50, w51, w52, w53, w54, w55, w56, w57, w58, w59, w60, w61, w62, w63, w64, w65, w66, w67, w68, w69, w70, w71, w72, w73, w74, w75, w76])), (a14, .inl (y 2, 7, .inl (fun _ => 0))), (a35, .inl (y 0, 7, .inl (upd (upd (upd (upd (upd (upd (upd (upd (upd (upd (upd (upd (upd (upd (fun _ => 0) 0 99999) 1 99999) 2 99999) 3 99999) 4 99999) 5 99999) 6 99999) 0 99999) 1 99999) 2 99999) 3 99999) 4 99999) 5 99999) 6 99999)))] (zQv (S := Unit) D (fun _ => True) (fun _ => [(a0, .inr (9, [w1, w2, w3, w4, w5, w6, w7, w8, w9, w10, w11, w12, w13, .ref a14, w15, w16, w17, w18, w19, w20, w21, w22, w23, w24, w25, w26, w27, w28, w29, w30, w31, w32, w33, w34, .ref a35, w36, w37, w38, w39, w40, w41, w42, w43, w44, w45, w46, w47, w48, w49, w50, w51, w52, w53, w54, w55, w56, w57, w58, w59, w60, w61, w62, w63, w64, w65, w66, w67, w68, w69, w70, w71, w72, w73, w74, w75, w76])), (a14, .inl (y 2, 7, .inl (fun _ => 0))), (a35, .inl (y 0, 7, .inl (upd (upd (upd (upd (upd (upd (upd (upd (upd (upd (upd (upd (upd (upd (upd (upd (upd (upd (upd (upd (upd (fun _ => 0) 0 99999) 1 99999) 2 99999) 3 99999) 4 99999) 5 99999) 6 99999) 0 99999) 1 99999) 2 99999) 3 99999) 4 99999) 5 99999) 6 99999) 0 99999) 1 99999) 2 99999) 3 99999) 4 99999) 5 99999) 6 99999)))])) := by
  refine zent (cc := cX10_layOpen) (maxL := 2) (ret := none) (by decide) (Nat.le_of_ble_eq_true rfl) ?_
  intro p e s m below meth c A H locs ls hx hb hml hr ht hown hlocks hin hA hK hE hS hW hl
  have hown : s.vm.findClass RX10 = some m.cls := hown
  have hW : zPD D A [(a0, .inr (9, [w1, w2, w3, w4, w5, w6, w7, w8, w9, w10, w11, w12, w13, .ref a14, w15, w16, w17, w18, w19, w20, w21, w22, w23, w24, w25, w26, w27, w28, w29, w30, w31, w32, w33, w34, .ref a35, w36, w37, w38, w39, w40, w41, w42, w43, w44, w45, w46, w47, w48, w49, w50, w51, w52, w53, w54, w55, w56, w57, w58, w59, w60, w61, w62, w63, w64, w65, w66, w67, w68, w69, w70, w71, w72, w73, w74, w75, w76])), (a14, .inl (y 2, 7, .inl (fun _ => 0))), (a35, .inl (y 0, 7, .inl (upd (upd (upd (upd (upd (upd (upd (upd (upd (upd (upd (upd (upd (upd (fun _ => 0) 0 99999) 1 99999) 2 99999) 3 99999) 4 99999) 5 99999) 6 99999) 0 99999) 1 99999) 2 99999) 3 99999) 4 99999) 5 99999) 6 99999)))] H := hW
  have hl : lv_has ls 2 [(0, .ref a0)] := hl
  refine lv_iconst (v := 0) hx hb dX10_layOpen_0 (by decide) ?_
  refine lv_istore_n (lv' := [(1, .int 0), (0, .ref a0)]) hx hb dX10_layOpen_1 rfl hl (by decide) rfl (fun ls hl => ?_)
  refine lv_iload_n hx hb dX10_layOpen_2 rfl (lv_at hl 0 rfl) ?_
  refine lv_bipush (v := 7) hx hb dX10_layOpen_3 (by decide) ?_
  refine lv_icmp_ge (tgt := 36) hx hb dX10_layOpen_5 (by decide) (fun c1_ => absurd c1_ (by decide)) (fun c1_ => ?_)
  refine lv_aload_n hx hb dX10_layOpen_8 rfl (lv_at hl 1 rfl) ?_
  refine zget hx hb ht inlX10 hown hK hW 0 rfl rfl 34 (by decide) zm_174 rfl dX10_layOpen_9 ?_
  refine lv_iload_n hx hb dX10_layOpen_12 rfl (lv_at hl 0 rfl) ?_
  refine lv_aload_n hx hb dX10_layOpen_13 rfl (lv_at hl 1 rfl) ?_
  refine zget hx hb ht inlX10 hown hK hW 0 rfl rfl 13 (by decide) zm_153 rfl dX10_layOpen_14 ?_
  refine lv_iload_n hx hb dX10_layOpen_17 rfl (lv_at hl 0 rfl) ?_
  refine zzald (v := 0) hx hb hK hW 1 rfl (by unfold vp_in; decide) rfl dX10_layOpen_18 ?_
  refine lv_if_eq (tgt := 26) hx hb dX10_layOpen_19 (by decide) (fun c2_ => ?_) (fun c2_ => absurd (by decide) c2_)
  refine lv_ldcw (v := 99999) hx hb hown (ht _ zm_401) dX10_layOpen_26 ?_
  refine ziast (ws' := [(a0, .inr (9, [w1, w2, w3, w4, w5, w6, w7, w8, w9, w10, w11, w12, w13, .ref a14, w15, w16, w17, w18, w19, w20, w21, w22, w23, w24, w25, w26, w27, w28, w29, w30, w31, w32, w33, w34, .ref a35, w36, w37, w38, w39, w40, w41, w42, w43, w44, w45, w46, w47, w48, w49, w50, w51, w52, w53, w54, w55, w56, w57, w58, w59, w60, w61, w62, w63, w64, w65, w66, w67, w68, w69, w70, w71, w72, w73, w74, w75, w76])), (a14, .inl (y 2, 7, .inl (fun _ => 0))), (a35, .inl (y 0, 7, .inl (upd (upd (upd (upd (upd (upd (upd (upd (upd (upd (upd (upd (upd (upd (upd (fun _ => 0) 0 99999) 1 99999) 2 99999) 3 99999) 4 99999) 5 99999) 6 99999) 0 99999) 1 99999) 2 99999) 3 99999) 4 99999) 5 99999) 6 99999) 0 99999)))]) hx hb hK hS hW 2 rfl (by unfold vp_in; decide) rfl rfl dX10_layOpen_29 (fun H locs hW hS => ?_)
  refine lv_iinc (k := 0) (v := 1) (lv' := [(1, .int 1), (0, .ref a0)]) hx hb dX10_layOpen_30 hl rfl (by decide) (by decide) rfl (fun ls hl => ?_)
  refine lv_goto (tgt := 2) hx hb dX10_layOpen_33 (by decide) ?_
  refine lv_iload_n hx hb dX10_layOpen_2 rfl (lv_at hl 0 rfl) ?_
  refine lv_bipush (v := 7) hx hb dX10_layOpen_3 (by decide) ?_
  refine lv_icmp_ge (tgt := 36) hx hb dX10_layOpen_5 (by decide) (fun c3_ => absurd c3_ (by decide)) (fun c3_ => ?_)
  refine lv_aload_n hx hb dX10_layOpen_8 rfl (lv_at hl 1 rfl) ?_
  refine zget hx hb ht inlX10 hown hK hW 0 rfl rfl 34 (by decide) zm_174 rfl dX10_layOpen_9 ?_
  refine lv_iload_n hx hb dX10_layOpen_12 rfl (lv_at hl 0 rfl) ?_
  refine lv_aload_n hx hb dX10_layOpen_13 rfl (lv_at hl 1 rfl) ?_
  refine zget hx hb ht inlX10 hown hK hW 0 rfl rfl 13 (by decide) zm_153 rfl dX10_layOpen_14 ?_
  refine lv_iload_n hx hb dX10_layOpen_17 rfl (lv_at hl 0 rfl) ?_
  refine zzald (v := 0) hx hb hK hW 1 rfl (by unfold vp_in; decide) rfl dX10_layOpen_18 ?_
  refine lv_if_eq (tgt := 26) hx hb dX10_layOpen_19 (by decide) (fun c4_ => ?_) (fun c4_ => absurd (by decide) c4_)
  refine lv_ldcw (v := 99999) hx hb hown (ht _ zm_401) dX10_layOpen_26 ?_
  refine ziast (ws' := [(a0, .inr (9, [w1, w2, w3, w4, w5, w6, w7, w8, w9, w10, w11, w12, w13, .ref a14, w15, w16, w17, w18, w19, w20, w21, w22, w23, w24, w25, w26, w27, w28, w29, w30, w31, w32, w33, w34, .ref a35, w36, w37, w38, w39, w40, w41, w42, w43, w44, w45, w46, w47, w48, w49, w50, w51, w52, w53, w54, w55, w56, w57, w58, w59, w60, w61, w62, w63, w64, w65, w66, w67, w68, w69, w70, w71, w72, w73, w74, w75, w76])), (a14, .inl (y 2, 7, .inl (fun _ => 0))), (a35, .inl (y 0, 7, .inl (upd (upd (upd (upd (upd (upd (upd (upd (upd (upd (upd (upd (upd (upd (upd (upd (fun _ => 0) 0 99999) 1 99999) 2 99999) 3 99999) 4 99999) 5 99999) 6 99999) 0 99999) 1 99999) 2 99999) 3 99999) 4 99999) 5 99999) 6 99999) 0 99999) 1 99999)))]) hx hb hK hS hW 2 rfl (by unfold vp_in; decide) rfl rfl dX10_layOpen_29 (fun H locs hW hS => ?_)
  refine lv_iinc (k := 0) (v := 2) (lv' := [(1, .int 2), (0, .ref a0)]) hx hb dX10_layOpen_30 hl rfl (by decide) (by decide) rfl (fun ls hl => ?_)
  refine lv_goto (tgt := 2) hx hb dX10_layOpen_33 (by decide) ?_
  refine lv_iload_n hx hb dX10_layOpen_2 rfl (lv_at hl 0 rfl) ?_
  refine lv_bipush (v := 7) hx hb dX10_layOpen_3 (by decide) ?_
  refine lv_icmp_ge (tgt := 36) hx hb dX10_layOpen_5 (by decide) (fun c5_ => absurd c5_ (by decide)) (fun c5_ => ?_)
  refine lv_aload_n hx hb dX10_layOpen_8 rfl (lv_at hl 1 rfl) ?_
  refine zget hx hb ht inlX10 hown hK hW 0 rfl rfl 34 (by decide) zm_174 rfl dX10_layOpen_9 ?_
  refine lv_iload_n hx hb dX10_layOpen_12 rfl (lv_at hl 0 rfl) ?_
  refine lv_aload_n hx hb dX10_layOpen_13 rfl (lv_at hl 1 rfl) ?_
  refine zget hx hb ht inlX10 hown hK hW 0 rfl rfl 13 (by decide) zm_153 rfl dX10_layOpen_14 ?_
  refine lv_iload_n hx hb dX10_layOpen_17 rfl (lv_at hl 0 rfl) ?_
  refine zzald (v := 0) hx hb hK hW 1 rfl (by unfold vp_in; decide) rfl dX10_layOpen_18 ?_
  refine lv_if_eq (tgt := 26) hx hb dX10_layOpen_19 (by decide) (fun c6_ => ?_) (fun c6_ => absurd (by decide) c6_)
  refine lv_ldcw (v := 99999) hx hb hown (ht _ zm_401) dX10_layOpen_26 ?_
  refine ziast (ws' := [(a0, .inr (9, [w1, w2, w3, w4, w5, w6, w7, w8, w9, w10, w11, w12, w13, .ref a14, w15, w16, w17, w18, w19, w20, w21, w22, w23, w24, w25, w26, w27, w28, w29, w30, w31, w32, w33, w34, .ref a35, w36, w37, w38, w39, w40, w41, w42, w43, w44, w45, w46, w47, w48, w49, w50, w51, w52, w53, w54, w55, w56, w57, w58, w59, w60, w61, w62, w63, w64, w65, w66, w67, w68, w69, w70, w71, w72, w73, w74, w75, w76])), (a14, .inl (y 2, 7, .inl (fun _ => 0))), (a35, .inl (y 0, 7, .inl (upd (upd (upd (upd (upd (upd (upd (upd (upd (upd (upd (upd (upd (upd (upd (upd (upd (fun _ => 0) 0 99999) 1 99999) 2 99999) 3 99999) 4 99999) 5 99999) 6 99999) 0 99999) 1 99999) 2 99999) 3 99999) 4 99999) 5 99999) 6 99999) 0 99999) 1 99999) 2 99999)))]) hx hb hK hS hW 2 rfl (by unfold vp_in; decide) rfl rfl dX10_layOpen_29 (fun H locs hW hS => ?_)
  refine lv_iinc (k := 0) (v := 3) (lv' := [(1, .int 3), (0, .ref a0)]) hx hb dX10_layOpen_30 hl rfl (by decide) (by decide) rfl (fun ls hl => ?_)
  refine lv_goto (tgt := 2) hx hb dX10_layOpen_33 (by decide) ?_
  refine lv_iload_n hx hb dX10_layOpen_2 rfl (lv_at hl 0 rfl) ?_
  refine lv_bipush (v := 7) hx hb dX10_layOpen_3 (by decide) ?_
  refine lv_icmp_ge (tgt := 36) hx hb dX10_layOpen_5 (by decide) (fun c7_ => absurd c7_ (by decide)) (fun c7_ => ?_)
  refine lv_aload_n hx hb dX10_layOpen_8 rfl (lv_at hl 1 rfl) ?_
  refine zget hx hb ht inlX10 hown hK hW 0 rfl rfl 34 (by decide) zm_174 rfl dX10_layOpen_9 ?_
  refine lv_iload_n hx hb dX10_layOpen_12 rfl (lv_at hl 0 rfl) ?_
  refine lv_aload_n hx hb dX10_layOpen_13 rfl (lv_at hl 1 rfl) ?_
  refine zget hx hb ht inlX10 hown hK hW 0 rfl rfl 13 (by decide) zm_153 rfl dX10_layOpen_14 ?_
  refine lv_iload_n hx hb dX10_layOpen_17 rfl (lv_at hl 0 rfl) ?_
  refine zzald (v := 0) hx hb hK hW 1 rfl (by unfold vp_in; decide) rfl dX10_layOpen_18 ?_
  refine lv_if_eq (tgt := 26) hx hb dX10_layOpen_19 (by decide) (fun c8_ => ?_) (fun c8_ => absurd (by decide) c8_)
  refine lv_ldcw (v := 99999) hx hb hown (ht _ zm_401) dX10_layOpen_26 ?_
  refine ziast (ws' := [(a0, .inr (9, [w1, w2, w3, w4, w5, w6, w7, w8, w9, w10, w11, w12, w13, .ref a14, w15, w16, w17, w18, w19, w20, w21, w22, w23, w24, w25, w26, w27, w28, w29, w30, w31, w32, w33, w34, .ref a35, w36, w37, w38, w39, w40, w41, w42, w43, w44, w45, w46, w47, w48, w49, w50, w51, w52, w53, w54, w55, w56, w57, w58, w59, w60, w61, w62, w63, w64, w65, w66, w67, w68, w69, w70, w71, w72, w73, w74, w75, w76])), (a14, .inl (y 2, 7, .inl (fun _ => 0))), (a35, .inl (y 0, 7, .inl (upd (upd (upd (upd (upd (upd (upd (upd (upd (upd (upd (upd (upd (upd (upd (upd (upd (upd (fun _ => 0) 0 99999) 1 99999) 2 99999) 3 99999) 4 99999) 5 99999) 6 99999) 0 99999) 1 99999) 2 99999) 3 99999) 4 99999) 5 99999) 6 99999) 0 99999) 1 99999) 2 99999) 3 99999)))]) hx hb hK hS hW 2 rfl (by unfold vp_in; decide) rfl rfl dX10_layOpen_29 (fun H locs hW hS => ?_)
  refine lv_iinc (k := 0) (v := 4) (lv' := [(1, .int 4), (0, .ref a0)]) hx hb dX10_layOpen_30 hl rfl (by decide) (by decide) rfl (fun ls hl => ?_)
  refine lv_goto (tgt := 2) hx hb dX10_layOpen_33 (by decide) ?_
  refine lv_iload_n hx hb dX10_layOpen_2 rfl (lv_at hl 0 rfl) ?_
  refine lv_bipush (v := 7) hx hb dX10_layOpen_3 (by decide) ?_
  refine lv_icmp_ge (tgt := 36) hx hb dX10_layOpen_5 (by decide) (fun c9_ => absurd c9_ (by decide)) (fun c9_ => ?_)
  refine lv_aload_n hx hb dX10_layOpen_8 rfl (lv_at hl 1 rfl) ?_
  refine zget hx hb ht inlX10 hown hK hW 0 rfl rfl 34 (by decide) zm_174 rfl dX10_layOpen_9 ?_
  refine lv_iload_n hx hb dX10_layOpen_12 rfl (lv_at hl 0 rfl) ?_
  refine lv_aload_n hx hb dX10_layOpen_13 rfl (lv_at hl 1 rfl) ?_
  refine zget hx hb ht inlX10 hown hK hW 0 rfl rfl 13 (by decide) zm_153 rfl dX10_layOpen_14 ?_
  refine lv_iload_n hx hb dX10_layOpen_17 rfl (lv_at hl 0 rfl) ?_
  refine zzald (v := 0) hx hb hK hW 1 rfl (by unfold vp_in; decide) rfl dX10_layOpen_18 ?_
  refine lv_if_eq (tgt := 26) hx hb dX10_layOpen_19 (by decide) (fun c10_ => ?_) (fun c10_ => absurd (by decide) c10_)
  refine lv_ldcw (v := 99999) hx hb hown (ht _ zm_401) dX10_layOpen_26 ?_
  refine ziast (ws' := [(a0, .inr (9, [w1, w2, w3, w4, w5, w6, w7, w8, w9, w10, w11, w12, w13, .ref a14, w15, w16, w17, w18, w19, w20, w21, w22, w23, w24, w25, w26, w27, w28, w29, w30, w31, w32, w33, w34, .ref a35, w36, w37, w38, w39, w40, w41, w42, w43, w44, w45, w46, w47, w48, w49, w50, w51, w52, w53, w54, w55, w56, w57, w58, w59, w60, w61, w62, w63, w64, w65, w66, w67, w68, w69, w70, w71, w72, w73, w74, w75, w76])), (a14, .inl (y 2, 7, .inl (fun _ => 0))), (a35, .inl (y 0, 7, .inl (upd (upd (upd (upd (upd (upd (upd (upd (upd (upd (upd (upd (upd (upd (upd (upd (upd (upd (upd (fun _ => 0) 0 99999) 1 99999) 2 99999) 3 99999) 4 99999) 5 99999) 6 99999) 0 99999) 1 99999) 2 99999) 3 99999) 4 99999) 5 99999) 6 99999) 0 99999) 1 99999) 2 99999) 3 99999) 4 99999)))]) hx hb hK hS hW 2 rfl (by unfold vp_in; decide) rfl rfl dX10_layOpen_29 (fun H locs hW hS => ?_)
  refine lv_iinc (k := 0) (v := 5) (lv' := [(1, .int 5), (0, .ref a0)]) hx hb dX10_layOpen_30 hl rfl (by decide) (by decide) rfl (fun ls hl => ?_)
  refine lv_goto (tgt := 2) hx hb dX10_layOpen_33 (by decide) ?_
  refine lv_iload_n hx hb dX10_layOpen_2 rfl (lv_at hl 0 rfl) ?_
  refine lv_bipush (v := 7) hx hb dX10_layOpen_3 (by decide) ?_
  refine lv_icmp_ge (tgt := 36) hx hb dX10_layOpen_5 (by decide) (fun c11_ => absurd c11_ (by decide)) (fun c11_ => ?_)
  refine lv_aload_n hx hb dX10_layOpen_8 rfl (lv_at hl 1 rfl) ?_
  refine zget hx hb ht inlX10 hown hK hW 0 rfl rfl 34 (by decide) zm_174 rfl dX10_layOpen_9 ?_
  refine lv_iload_n hx hb dX10_layOpen_12 rfl (lv_at hl 0 rfl) ?_
  refine lv_aload_n hx hb dX10_layOpen_13 rfl (lv_at hl 1 rfl) ?_
  refine zget hx hb ht inlX10 hown hK hW 0 rfl rfl 13 (by decide) zm_153 rfl dX10_layOpen_14 ?_
  refine lv_iload_n hx hb dX10_layOpen_17 rfl (lv_at hl 0 rfl) ?_
  refine zzald (v := 0) hx hb hK hW 1 rfl (by unfold vp_in; decide) rfl dX10_layOpen_18 ?_
  refine lv_if_eq (tgt := 26) hx hb dX10_layOpen_19 (by decide) (fun c12_ => ?_) (fun c12_ => absurd (by decide) c12_)
  refine lv_ldcw (v := 99999) hx hb hown (ht _ zm_401) dX10_layOpen_26 ?_
  refine ziast (ws' := [(a0, .inr (9, [w1, w2, w3, w4, w5, w6, w7, w8, w9, w10, w11, w12, w13, .ref a14, w15, w16, w17, w18, w19, w20, w21, w22, w23, w24, w25, w26, w27, w28, w29, w30, w31, w32, w33, w34, .ref a35, w36, w37, w38, w39, w40, w41, w42, w43, w44, w45, w46, w47, w48, w49, w50, w51, w52, w53, w54, w55, w56, w57, w58, w59, w60, w61, w62, w63, w64, w65, w66, w67, w68, w69, w70, w71, w72, w73, w74, w75, w76])), (a14, .inl (y 2, 7, .inl (fun _ => 0))), (a35, .inl (y 0, 7, .inl (upd (upd (upd (upd (upd (upd (upd (upd (upd (upd (upd (upd (upd (upd (upd (upd (upd (upd (upd (upd (fun _ => 0) 0 99999) 1 99999) 2 99999) 3 99999) 4 99999) 5 99999) 6 99999) 0 99999) 1 99999) 2 99999) 3 99999) 4 99999) 5 99999) 6 99999) 0 99999) 1 99999) 2 99999) 3 99999) 4 99999) 5 99999)))]) hx hb hK hS hW 2 rfl (by unfold vp_in; decide) rfl rfl dX10_layOpen_29 (fun H locs hW hS => ?_)
  refine lv_iinc (k := 0) (v := 6) (lv' := [(1, .int 6), (0, .ref a0)]) hx hb dX10_layOpen_30 hl rfl (by decide) (by decide) rfl (fun ls hl => ?_)
  refine lv_goto (tgt := 2) hx hb dX10_layOpen_33 (by decide) ?_
  refine lv_iload_n hx hb dX10_layOpen_2 rfl (lv_at hl 0 rfl) ?_
  refine lv_bipush (v := 7) hx hb dX10_layOpen_3 (by decide) ?_
  refine lv_icmp_ge (tgt := 36) hx hb dX10_layOpen_5 (by decide) (fun c13_ => absurd c13_ (by decide)) (fun c13_ => ?_)
  refine lv_aload_n hx hb dX10_layOpen_8 rfl (lv_at hl 1 rfl) ?_
  refine zget hx hb ht inlX10 hown hK hW 0 rfl rfl 34 (by decide) zm_174 rfl dX10_layOpen_9 ?_
  refine lv_iload_n hx hb dX10_layOpen_12 rfl (lv_at hl 0 rfl) ?_
  refine lv_aload_n hx hb dX10_layOpen_13 rfl (lv_at hl 1 rfl) ?_
  refine zget hx hb ht inlX10 hown hK hW 0 rfl rfl 13 (by decide) zm_153 rfl dX10_layOpen_14 ?_
  refine lv_iload_n hx hb dX10_layOpen_17 rfl (lv_at hl 0 rfl) ?_
  refine zzald (v := 0) hx hb hK hW 1 rfl (by unfold vp_in; decide) rfl dX10_layOpen_18 ?_
  refine lv_if_eq (tgt := 26) hx hb dX10_layOpen_19 (by decide) (fun c14_ => ?_) (fun c14_ => absurd (by decide) c14_)
  refine lv_ldcw (v := 99999) hx hb hown (ht _ zm_401) dX10_layOpen_26 ?_
  refine ziast (ws' := [(a0, .inr (9, [w1, w2, w3, w4, w5, w6, w7, w8, w9, w10, w11, w12, w13, .ref a14, w15, w16, w17, w18, w19, w20, w21, w22, w23, w24, w25, w26, w27, w28, w29, w30, w31, w32, w33, w34, .ref a35, w36, w37, w38, w39, w40, w41, w42, w43, w44, w45, w46, w47, w48, w49, w50, w51, w52, w53, w54, w55, w56, w57, w58, w59, w60, w61, w62, w63, w64, w65, w66, w67, w68, w69, w70, w71, w72, w73, w74, w75, w76])), (a14, .inl (y 2, 7, .inl (fun _ => 0))), (a35, .inl (y 0, 7, .inl (upd (upd (upd (upd (upd (upd (upd (upd (upd (upd (upd (upd (upd (upd (upd (upd (upd (upd (upd (upd (upd (fun _ => 0) 0 99999) 1 99999) 2 99999) 3 99999) 4 99999) 5 99999) 6 99999) 0 99999) 1 99999) 2 99999) 3 99999) 4 99999) 5 99999) 6 99999) 0 99999) 1 99999) 2 99999) 3 99999) 4 99999) 5 99999) 6 99999)))]) hx hb hK hS hW 2 rfl (by unfold vp_in; decide) rfl rfl dX10_layOpen_29 (fun H locs hW hS => ?_)
  refine lv_iinc (k := 0) (v := 7) (lv' := [(1, .int 7), (0, .ref a0)]) hx hb dX10_layOpen_30 hl rfl (by decide) (by decide) rfl (fun ls hl => ?_)
  refine lv_goto (tgt := 2) hx hb dX10_layOpen_33 (by decide) ?_
  refine lv_iload_n hx hb dX10_layOpen_2 rfl (lv_at hl 0 rfl) ?_
  refine lv_bipush (v := 7) hx hb dX10_layOpen_3 (by decide) ?_
  refine lv_icmp_ge (tgt := 36) hx hb dX10_layOpen_5 (by decide) (fun c15_ => ?_) (fun c15_ => absurd (by decide) c15_)
  exact zret_v hx hb hr hlocks hS () trivial hW (Nat.le_of_ble_eq_true rfl) (Nat.le_of_ble_eq_true rfl) dX10_layOpen_36
set_option maxHeartbeats 8000000 in
set_option maxRecDepth 100000 in
theorem zc_X10_costOfNone_2 (l : Launch) (D : va_G) (y : Nat → ClassId) (a0 : Nat) (w1 : Value) (w2 : Value) (w3 : Value) (w4 : Value) (w5 : Value) (w6 : Value) (w7 : Value) (w8 : Value) (w9 : Value) (w10 : Value) (a11 : Nat) (w12 : Value) (w13 : Value) (w14 : Value) (w15 : Value) (w16 : Value) (w17 : Value) (w18 : Value) (w19 : Value) (w20 : Value) (w21 : Value) (w22 : Value) (w23 : Value) (w24 : Value) (w25 : Value) (w26 : Value) (w27 : Value) (w28 : Value) (w29 : Value) (w30 : Value) (a31 : Nat) (w32 : Value) (w33 : Value) (w34 : Value) (w35 : Value) (w36 : Value) (w37 : Value) (w38 : Value) (w39 : Value) (w40 : Value) (w41 : Value) (w42 : Value) (w43 : Value) (w44 : Value) (w45 : Value) (w46 : Value) (w47 : Value) (w48 : Value) (w49 : Value) (w50 : Value) (w51 : Value) (w52 : Value) (w53 : Value) (w54 : Value) (w55 : Value) (w56 : Value) (w57 : Value) (w58 : Value) (w59 : Value) (w60 : Value) (w61 : Value) (w62 : Value) (w63 : Value) (w64 : Value) (w65 : Value) (w66 : Value) (w67 : Value) (w68 : Value) (w69 : Value) (w70 : Value) (w71 : Value) (w72 : Value) : zM l D y yX10_costOfNone (Cond.code yX10_costOfNone cX10_costOfNone 1 (some .int) :: zT) { frames := 5, cells := 0, slots := 0, locals := 108 } [.ref a0] [(a0, .inr (9, [.int 0, .int 0, w1, .int 20, w2, w3, w4, w5, w6, w7, w8, w9, w10, .ref a11, w12, .int (-1), w13, w14, w15, w16, w17, w18, w19, w20, w21, w22, w23, w24, w25, w26, w27, w28, w29, w30, .ref a31, w32, w33, w34, w35, w36, w37, w38, w39, w40, w41, w42, w43, w44, w45, w46, w47, w48, w49, w50, w51, w52, w53, w54, w55, w56, w57, w58, w59, w60, w61, w62, w63, w64, w65, w66, w67, w68, w69, w70, w71, w72])), (a11, .inl (y 2, 7, .inl (fun _ => 0))), (a31, .inl (y 0, 7, .inl (upd (upd (upd (upd (upd (upd (upd (upd (upd (upd (upd (upd (upd (upd (fun _ => 0) 0 99999) 1 99999) 2 99999) 3 99999) 4 99999) 5 99999) 6 99999) 0 99999) 1 99999) 2 99999) 3 99999) 4 99999) 5 99999) 6 99999)))] (zQi (S := Unit) D (fun r_ _ => r_ = 0) (fun _ => [(a0, .inr (9, [.int 0, .int 0, w1, .int 20, w2, w3, w4, w5, w6, w7, w8, w9, w10, .ref a11, w12, .int (-1), w13, w14, w15, w16, w17, w18, w19, w20, w21, w22, w23, w24, w25, w26, w27, w28, w29, w30, .ref a31, w32, w33, w34, w35, w36, w37, w38, w39, w40, w41, w42, w43, w44, w45, w46, w47, w48, w49, w50, w51, w52, w53, w54, w55, w56, w57, w58, w59, w60, w61, w62, w63, w64, w65, w66, w67, w68, w69, w70, w71, w72])), (a11, .inl (y 2, 7, .inl (fun _ => 0))), (a31, .inl (y 0, 7, .inl (upd (upd (upd (upd (upd (upd (upd (upd (upd (upd (upd (upd (upd (upd (upd (upd (upd (upd (upd (upd (upd (fun _ => 0) 0 99999) 1 99999) 2 99999) 3 99999) 4 99999) 5 99999) 6 99999) 0 99999) 1 99999) 2 99999) 3 99999) 4 99999) 5 99999) 6 99999) 0 99999) 1 99999) 2 99999) 3 99999) 4 99999) 5 99999) 6 99999)))])) := by
  refine zent (cc := cX10_costOfNone) (maxL := 1) (ret := (some .int)) (by decide) (Nat.le_of_ble_eq_true rfl) ?_
  intro p e s m below meth c A H locs ls hx hb hml hr ht hown hlocks hin hA hK hE hS hW hl
  have hown : s.vm.findClass RX10 = some m.cls := hown
  have hW : zPD D A [(a0, .inr (9, [.int 0, .int 0, w1, .int 20, w2, w3, w4, w5, w6, w7, w8, w9, w10, .ref a11, w12, .int (-1), w13, w14, w15, w16, w17, w18, w19, w20, w21, w22, w23, w24, w25, w26, w27, w28, w29, w30, .ref a31, w32, w33, w34, w35, w36, w37, w38, w39, w40, w41, w42, w43, w44, w45, w46, w47, w48, w49, w50, w51, w52, w53, w54, w55, w56, w57, w58, w59, w60, w61, w62, w63, w64, w65, w66, w67, w68, w69, w70, w71, w72])), (a11, .inl (y 2, 7, .inl (fun _ => 0))), (a31, .inl (y 0, 7, .inl (upd (upd (upd (upd (upd (upd (upd (upd (upd (upd (upd (upd (upd (upd (fun _ => 0) 0 99999) 1 99999) 2 99999) 3 99999) 4 99999) 5 99999) 6 99999) 0 99999) 1 99999) 2 99999) 3 99999) 4 99999) 5 99999) 6 99999)))] H := hW
  have hl : lv_has ls 1 [(0, .ref a0)] := hl
  refine lv_aload_n hx hb dX10_costOfNone_0 rfl (lv_at hl 0 rfl) ?_
  refine zgo_v (wr := []) (zrunV (As := []) (rest := []) ⟨hx, hb, hml, hown, ht⟩ (zc_X10_layOpen_2 l D y a0 (.int 0) (.int 0) w1 (.int 20) w2 w3 w4 w5 w6 w7 w8 w9 w10 a11 w12 (.int (-1)) w13 w14 w15 w16 w17 w18 w19 w20 w21 w22 w23 w24 w25 w26 w27 w28 w29 w30 a31 w32 w33 w34 w35 w36 w37 w38 w39 w40 w41 w42 w43 w44 w45 w46 w47 w48 w49 w50 w51 w52 w53 w54 w55 w56 w57 w58 w59 w60 w61 w62 w63 w64 w65 w66 w67 w68 w69 w70 w71 w72) (cwV 0 ht (zgV zm_397 zm_398 zm_399 zm_5 zm_400) rfl rfl rfl (by decide +kernel) ⟨(Nat.le_of_ble_eq_true rfl), (Nat.le_of_ble_eq_true rfl)⟩) hK hE hS hA hW [0, 1, 2] (by decide) rfl 0 rfl rfl rfl rfl hl.1 rfl (Nat.le_of_ble_eq_true rfl) dX10_costOfNone_1 (Nat.le_of_ble_eq_true rfl) (Nat.le_of_ble_eq_true rfl)) hS hA hW [0, 1, 2] [] rfl rfl (by decide) (by decide) (fun u H locs hw hW hS => ?_)
  have hW : zPD D A [(a0, .inr (9, [.int 0, .int 0, w1, .int 20, w2, w3, w4, w5, w6, w7, w8, w9, w10, .ref a11, w12, .int (-1), w13, w14, w15, w16, w17, w18, w19, w20, w21, w22, w23, w24, w25, w26, w27, w28, w29, w30, .ref a31, w32, w33, w34, w35, w36, w37, w38, w39, w40, w41, w42, w43, w44, w45, w46, w47, w48, w49, w50, w51, w52, w53, w54, w55, w56, w57, w58, w59, w60, w61, w62, w63, w64, w65, w66, w67, w68, w69, w70, w71, w72])), (a11, .inl (y 2, 7, .inl (fun _ => 0))), (a31, .inl (y 0, 7, .inl (upd (upd (upd (upd (upd (upd (upd (upd (upd (upd (upd (upd (upd (upd (upd (upd (upd (upd (upd (upd (upd (fun _ => 0) 0 99999) 1 99999) 2 99999) 3 99999) 4 99999) 5 99999) 6 99999) 0 99999) 1 99999) 2 99999) 3 99999) 4 99999) 5 99999) 6 99999) 0 99999) 1 99999) 2 99999) 3 99999) 4 99999) 5 99999) 6 99999)))] H := hW
  refine lv_aload_n hx hb dX10_costOfNone_4 rfl (lv_at hl 0 rfl) ?_
  refine zgo_i (wr := [(a11, .inl (y 2, 7, .inl (fun _ => 0))), (a31, .inl (y 0, 7, .inl (upd (upd (upd (upd (upd (upd (upd (upd (upd (upd (upd (upd (upd (upd (upd (upd (upd (upd (upd (upd (upd (fun _ => 0) 0 99999) 1 99999) 2 99999) 3 99999) 4 99999) 5 99999) 6 99999) 0 99999) 1 99999) 2 99999) 3 99999) 4 99999) 5 99999) 6 99999) 0 99999) 1 99999) 2 99999) 3 99999) 4 99999) 5 99999) 6 99999)))]) (zrunV (As := []) (rest := []) ⟨hx, hb, hml, hown, ht⟩ (zc_X10_harmTillEnd_0 l D y a0 w1 w2 w3 w4 w5 w6 w7 w8 w9 w10 (.ref a11) w12 w13 w14 w15 w16 w17 w18 w19 w20 w21 w22 w23 w24 w25 w26 w27 w28 w29 w30 (.ref a31) w32 w33 w34 w35 w36 w37 w38 w39 w40 w41 w42 w43 w44 w45 w46 w47 w48 w49 w50 w51 w52 w53 w54 w55 w56 w57 w58 w59 w60 w61 w62 w63 w64 w65 w66 w67 w68 w69 w70 w71 w72) (cwV 0 ht (zgV zm_856 zm_857 zm_858 zm_5 zm_859) rfl rfl rfl (by decide +kernel) ⟨(Nat.le_of_ble_eq_true rfl), (Nat.le_of_ble_eq_true rfl)⟩) hK hE hS hA hW [0] (by decide) rfl 0 rfl rfl rfl rfl hl.1 rfl (Nat.le_of_ble_eq_true rfl) dX10_costOfNone_5 (Nat.le_of_ble_eq_true rfl) (Nat.le_of_ble_eq_true rfl)) hS hA hW [0] [1, 2] rfl rfl (by decide) (by decide) (fun r2_ u H locs hw hW hS => ?_)
  have hW : zPD D A [(a11, .inl (y 2, 7, .inl (fun _ => 0))), (a31, .inl (y 0, 7, .inl (upd (upd (upd (upd (upd (upd (upd (upd (upd (upd (upd (upd (upd (upd (upd (upd (upd (upd (upd (upd (upd (fun _ => 0) 0 99999) 1 99999) 2 99999) 3 99999) 4 99999) 5 99999) 6 99999) 0 99999) 1 99999) 2 99999) 3 99999) 4 99999) 5 99999) 6 99999) 0 99999) 1 99999) 2 99999) 3 99999) 4 99999) 5 99999) 6 99999))), (a0, .inr (9, [.int 0, .int 0, w1, .int 20, w2, w3, w4, w5, w6, w7, w8, w9, w10, .ref a11, w12, .int (-1), w13, w14, w15, w16, w17, w18, w19, w20, w21, w22, w23, w24, w25, w26, w27, w28, w29, w30, .ref a31, w32, w33, w34, w35, w36, w37, w38, w39, w40, w41, w42, w43, w44, w45, w46, w47, w48, w49, w50, w51, w52, w53, w54, w55, w56, w57, w58, w59, w60, w61, w62, w63, w64, w65, w66, w67, w68, w69, w70, w71, w72]))] H := hW
  have hw : r2_ = 0 := hw
  subst hw
  exact zret_i (v := 0) hx hb hr hlocks hS () rfl (hW.sub [2, 0, 1] (by decide) rfl) (Nat.le_of_ble_eq_true rfl) (Nat.le_of_ble_eq_true rfl) dX10_costOfNone_8

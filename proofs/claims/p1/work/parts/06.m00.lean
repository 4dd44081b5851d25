theorem dX10_in_0 : decode cX10_in 0 = .ok (.iload_n 1, 1) := by decide +kernel
theorem dX10_in_1 : decode cX10_in 1 = .ok (.iload_n 2, 1) := by decide +kernel
theorem dX10_in_10 : decode cX10_in 10 = .ok (.iconst 1, 1) := by decide +kernel
theorem dX10_in_11 : decode cX10_in 11 = .ok (.goto 4, 3) := by decide +kernel
theorem dX10_in_14 : decode cX10_in 14 = .ok (.iconst 0, 1) := by decide +kernel
theorem dX10_in_15 : decode cX10_in 15 = .ok (.ireturn, 1) := by decide +kernel
theorem dX10_in_2 : decode cX10_in 2 = .ok (.if_icmp .lt 12, 3) := by decide +kernel
theorem dX10_in_5 : decode cX10_in 5 = .ok (.iload_n 1, 1) := by decide +kernel
theorem dX10_in_6 : decode cX10_in 6 = .ok (.iload_n 3, 1) := by decide +kernel
theorem dX10_in_7 : decode cX10_in 7 = .ok (.if_icmp .gt 7, 3) := by decide +kernel
theorem dX10_isPlace_0 : decode cX10_isPlace 0 = .ok (.aload_n 0, 1) := by decide +kernel
theorem dX10_isPlace_1 : decode cX10_isPlace 1 = .ok (.iload_n 1, 1) := by decide +kernel
theorem dX10_isPlace_10 : decode cX10_isPlace 10 = .ok (.aload_n 0, 1) := by decide +kernel
theorem dX10_isPlace_11 : decode cX10_isPlace 11 = .ok (.iload_n 2, 1) := by decide +kernel
theorem dX10_isPlace_12 : decode cX10_isPlace 12 = .ok (.iconst 0, 1) := by decide +kernel
theorem dX10_isPlace_13 : decode cX10_isPlace 13 = .ok (.iconst 4, 1) := by decide +kernel
theorem dX10_isPlace_14 : decode cX10_isPlace 14 = .ok (.invokevirtual 242, 3) := by decide +kernel
theorem dX10_isPlace_17 : decode cX10_isPlace 17 = .ok (.ifCond .eq 7, 3) := by decide +kernel
theorem dX10_isPlace_2 : decode cX10_isPlace 2 = .ok (.iconst 0, 1) := by decide +kernel
theorem dX10_isPlace_20 : decode cX10_isPlace 20 = .ok (.iconst 1, 1) := by decide +kernel
theorem dX10_isPlace_21 : decode cX10_isPlace 21 = .ok (.goto 4, 3) := by decide +kernel
theorem dX10_isPlace_24 : decode cX10_isPlace 24 = .ok (.iconst 0, 1) := by decide +kernel
theorem dX10_isPlace_25 : decode cX10_isPlace 25 = .ok (.ireturn, 1) := by decide +kernel
theorem dX10_isPlace_3 : decode cX10_isPlace 3 = .ok (.iconst 3, 1) := by decide +kernel
theorem dX10_isPlace_4 : decode cX10_isPlace 4 = .ok (.invokevirtual 242, 3) := by decide +kernel
theorem dX10_isPlace_7 : decode cX10_isPlace 7 = .ok (.ifCond .eq 17, 3) := by decide +kernel
theorem dX10_isWindow_0 : decode cX10_isWindow 0 = .ok (.aload_n 0, 1) := by decide +kernel
theorem dX10_isWindow_1 : decode cX10_isWindow 1 = .ok (.iload_n 1, 1) := by decide +kernel
theorem dX10_isWindow_12 : decode cX10_isWindow 12 = .ok (.ireturn, 1) := by decide +kernel
theorem dX10_isWindow_2 : decode cX10_isWindow 2 = .ok (.iconst 0, 1) := by decide +kernel
theorem dX10_isWindow_3 : decode cX10_isWindow 3 = .ok (.aload_n 0, 1) := by decide +kernel
theorem dX10_isWindow_4 : decode cX10_isWindow 4 = .ok (.getfield 7, 3) := by decide +kernel
theorem dX10_isWindow_7 : decode cX10_isWindow 7 = .ok (.iconst 1, 1) := by decide +kernel
theorem dX10_isWindow_8 : decode cX10_isWindow 8 = .ok (.isub, 1) := by decide +kernel
theorem dX10_isWindow_9 : decode cX10_isWindow 9 = .ok (.invokevirtual 242, 3) := by decide +kernel
theorem dX10_of_0 : decode cX10_of 0 = .ok (.aload_n 0, 1) := by decide +kernel
theorem dX10_of_1 : decode cX10_of 1 = .ok (.iload_n 1, 1) := by decide +kernel
theorem dX10_of_2 : decode cX10_of 2 = .ok (.invokevirtual 250, 3) := by decide +kernel
theorem dX10_of_5 : decode cX10_of 5 = .ok (.ifCond .ne 5, 3) := by decide +kernel
theorem dX10_of_8 : decode cX10_of 8 = .ok (.iconst (-1), 1) := by decide +kernel
theorem dX10_of_9 : decode cX10_of 9 = .ok (.ireturn, 1) := by decide +kernel
theorem dX10_put_0 : decode cX10_put 0 = .ok (.aload_n 0, 1) := by decide +kernel
theorem dX10_put_1 : decode cX10_put 1 = .ok (.iload_n 1, 1) := by decide +kernel
theorem dX10_put_2 : decode cX10_put 2 = .ok (.invokevirtual 250, 3) := by decide +kernel
theorem dX10_put_5 : decode cX10_put 5 = .ok (.ifCond .ne 5, 3) := by decide +kernel
theorem dX10_put_8 : decode cX10_put 8 = .ok (.iconst (-1), 1) := by decide +kernel
theorem dX10_put_9 : decode cX10_put 9 = .ok (.ireturn, 1) := by decide +kernel
theorem dX10_row_0 : decode cX10_row 0 = .ok (.aload_n 0, 1) := by decide +kernel
theorem dX10_row_1 : decode cX10_row 1 = .ok (.iload_n 1, 1) := by decide +kernel
theorem dX10_row_18 : decode cX10_row 18 = .ok (.iconst (-1), 1) := by decide +kernel
theorem dX10_row_19 : decode cX10_row 19 = .ok (.ireturn, 1) := by decide +kernel
theorem dX10_row_2 : decode cX10_row 2 = .ok (.invokevirtual 250, 3) := by decide +kernel
theorem dX10_row_5 : decode cX10_row 5 = .ok (.ifCond .eq 13, 3) := by decide +kernel
theorem dX10_stand_0 : decode cX10_stand 0 = .ok (.aload_n 0, 1) := by decide +kernel
theorem dX10_stand_1 : decode cX10_stand 1 = .ok (.iload_n 1, 1) := by decide +kernel
theorem dX10_stand_11 : decode cX10_stand 11 = .ok (.ireturn, 1) := by decide +kernel
theorem dX10_stand_12 : decode cX10_stand 12 = .ok (.aload_n 0, 1) := by decide +kernel
theorem dX10_stand_13 : decode cX10_stand 13 = .ok (.iload_n 1, 1) := by decide +kernel
theorem dX10_stand_14 : decode cX10_stand 14 = .ok (.putfield 25, 3) := by decide +kernel
theorem dX10_stand_17 : decode cX10_stand 17 = .ok (.aload_n 0, 1) := by decide +kernel
theorem dX10_stand_18 : decode cX10_stand 18 = .ok (.iload_n 2, 1) := by decide +kernel
theorem dX10_stand_19 : decode cX10_stand 19 = .ok (.putfield 28, 3) := by decide +kernel
theorem dX10_stand_2 : decode cX10_stand 2 = .ok (.iload_n 2, 1) := by decide +kernel
theorem dX10_stand_22 : decode cX10_stand 22 = .ok (.iconst 1, 1) := by decide +kernel
theorem dX10_stand_23 : decode cX10_stand 23 = .ok (.ireturn, 1) := by decide +kernel
theorem dX10_stand_3 : decode cX10_stand 3 = .ok (.invokevirtual 246, 3) := by decide +kernel
theorem dX10_stand_6 : decode cX10_stand 6 = .ok (.ifCond .ne 6, 3) := by decide +kernel
theorem dX10_stand_9 : decode cX10_stand 9 = .ok (.bipush (-2), 2) := by decide +kernel
theorem dX10_storm_0 : decode cX10_storm 0 = .ok (.aload_n 0, 1) := by decide +kernel
theorem dX10_storm_1 : decode cX10_storm 1 = .ok (.iload_n 2, 1) := by decide +kernel
theorem dX10_storm_10 : decode cX10_storm 10 = .ok (.iconst (-1), 1) := by decide +kernel
theorem dX10_storm_11 : decode cX10_storm 11 = .ok (.ireturn, 1) := by decide +kernel
theorem dX10_storm_12 : decode cX10_storm 12 = .ok (.aload_n 0, 1) := by decide +kernel
theorem dX10_storm_13 : decode cX10_storm 13 = .ok (.iload_n 1, 1) := by decide +kernel
theorem dX10_storm_14 : decode cX10_storm 14 = .ok (.iconst 0, 1) := by decide +kernel
theorem dX10_storm_15 : decode cX10_storm 15 = .ok (.bipush 99, 2) := by decide +kernel
theorem dX10_storm_17 : decode cX10_storm 17 = .ok (.invokevirtual 242, 3) := by decide +kernel
theorem dX10_storm_2 : decode cX10_storm 2 = .ok (.iconst 0, 1) := by decide +kernel
theorem dX10_storm_20 : decode cX10_storm 20 = .ok (.ifCond .ne 6, 3) := by decide +kernel
theorem dX10_storm_23 : decode cX10_storm 23 = .ok (.bipush (-2), 2) := by decide +kernel
theorem dX10_storm_25 : decode cX10_storm 25 = .ok (.ireturn, 1) := by decide +kernel
theorem dX10_storm_26 : decode cX10_storm 26 = .ok (.aload_n 0, 1) := by decide +kernel
theorem dX10_storm_27 : decode cX10_storm 27 = .ok (.getfield 19, 3) := by decide +kernel
theorem dX10_storm_3 : decode cX10_storm 3 = .ok (.iconst 3, 1) := by decide +kernel
theorem dX10_storm_30 : decode cX10_storm 30 = .ok (.istore_n 3, 1) := by decide +kernel
theorem dX10_storm_31 : decode cX10_storm 31 = .ok (.aload_n 0, 1) := by decide +kernel
theorem dX10_storm_32 : decode cX10_storm 32 = .ok (.iload_n 1, 1) := by decide +kernel
theorem dX10_storm_33 : decode cX10_storm 33 = .ok (.putfield 19, 3) := by decide +kernel
theorem dX10_storm_36 : decode cX10_storm 36 = .ok (.aload_n 0, 1) := by decide +kernel
theorem dX10_storm_37 : decode cX10_storm 37 = .ok (.iload_n 2, 1) := by decide +kernel
theorem dX10_storm_38 : decode cX10_storm 38 = .ok (.putfield 22, 3) := by decide +kernel
theorem dX10_storm_4 : decode cX10_storm 4 = .ok (.invokevirtual 242, 3) := by decide +kernel
theorem dX10_storm_41 : decode cX10_storm 41 = .ok (.iload_n 3, 1) := by decide +kernel
theorem dX10_storm_42 : decode cX10_storm 42 = .ok (.ireturn, 1) := by decide +kernel
theorem dX10_storm_7 : decode cX10_storm 7 = .ok (.ifCond .ne 5, 3) := by decide +kernel
theorem dX10_window_0 : decode cX10_window 0 = .ok (.aload_n 0, 1) := by decide +kernel
theorem dX10_window_1 : decode cX10_window 1 = .ok (.iload_n 1, 1) := by decide +kernel
theorem dX10_window_101 : decode cX10_window 101 = .ok (.iastore, 1) := by decide +kernel
theorem dX10_window_102 : decode cX10_window 102 = .ok (.aload_n 0, 1) := by decide +kernel
theorem dX10_window_103 : decode cX10_window 103 = .ok (.getfield 44, 3) := by decide +kernel
theorem dX10_window_106 : decode cX10_window 106 = .ok (.aload_n 0, 1) := by decide +kernel
theorem dX10_window_107 : decode cX10_window 107 = .ok (.getfield 7, 3) := by decide +kernel
theorem dX10_window_11 : decode cX10_window 11 = .ok (.iconst (-1), 1) := by decide +kernel
theorem dX10_window_110 : decode cX10_window 110 = .ok (.iload 5, 2) := by decide +kernel
theorem dX10_window_112 : decode cX10_window 112 = .ok (.iastore, 1) := by decide +kernel
theorem dX10_window_113 : decode cX10_window 113 = .ok (.aload_n 0, 1) := by decide +kernel
theorem dX10_window_114 : decode cX10_window 114 = .ok (.getfield 50, 3) := by decide +kernel
theorem dX10_window_117 : decode cX10_window 117 = .ok (.aload_n 0, 1) := by decide +kernel
theorem dX10_window_118 : decode cX10_window 118 = .ok (.getfield 7, 3) := by decide +kernel
theorem dX10_window_12 : decode cX10_window 12 = .ok (.ireturn, 1) := by decide +kernel
theorem dX10_window_121 : decode cX10_window 121 = .ok (.iconst 0, 1) := by decide +kernel
theorem dX10_window_122 : decode cX10_window 122 = .ok (.bastore, 1) := by decide +kernel
theorem dX10_window_123 : decode cX10_window 123 = .ok (.iconst 0, 1) := by decide +kernel
theorem dX10_window_124 : decode cX10_window 124 = .ok (.istore 6, 2) := by decide +kernel
theorem dX10_window_126 : decode cX10_window 126 = .ok (.iload 6, 2) := by decide +kernel
theorem dX10_window_128 : decode cX10_window 128 = .ok (.iconst 4, 1) := by decide +kernel
theorem dX10_window_129 : decode cX10_window 129 = .ok (.if_icmp .ge 24, 3) := by decide +kernel
theorem dX10_window_13 : decode cX10_window 13 = .ok (.aload_n 0, 1) := by decide +kernel
theorem dX10_window_132 : decode cX10_window 132 = .ok (.aload_n 0, 1) := by decide +kernel
theorem dX10_window_133 : decode cX10_window 133 = .ok (.getfield 47, 3) := by decide +kernel
theorem dX10_window_136 : decode cX10_window 136 = .ok (.iconst 4, 1) := by decide +kernel
theorem dX10_window_137 : decode cX10_window 137 = .ok (.aload_n 0, 1) := by decide +kernel
theorem dX10_window_138 : decode cX10_window 138 = .ok (.getfield 7, 3) := by decide +kernel
theorem dX10_window_14 : decode cX10_window 14 = .ok (.iload_n 2, 1) := by decide +kernel
theorem dX10_window_141 : decode cX10_window 141 = .ok (.imul, 1) := by decide +kernel
theorem dX10_window_142 : decode cX10_window 142 = .ok (.iload 6, 2) := by decide +kernel
theorem dX10_window_144 : decode cX10_window 144 = .ok (.iadd, 1) := by decide +kernel
theorem dX10_window_145 : decode cX10_window 145 = .ok (.iconst 0, 1) := by decide +kernel
theorem dX10_window_146 : decode cX10_window 146 = .ok (.iastore, 1) := by decide +kernel
theorem dX10_window_147 : decode cX10_window 147 = .ok (.iinc 6 1, 3) := by decide +kernel
theorem dX10_window_15 : decode cX10_window 15 = .ok (.iconst 0, 1) := by decide +kernel
theorem dX10_window_150 : decode cX10_window 150 = .ok (.goto (-24), 3) := by decide +kernel
theorem dX10_window_153 : decode cX10_window 153 = .ok (.aload_n 0, 1) := by decide +kernel
theorem dX10_window_154 : decode cX10_window 154 = .ok (.dup, 1) := by decide +kernel
theorem dX10_window_155 : decode cX10_window 155 = .ok (.getfield 7, 3) := by decide +kernel
theorem dX10_window_158 : decode cX10_window 158 = .ok (.iconst 1, 1) := by decide +kernel
theorem dX10_window_159 : decode cX10_window 159 = .ok (.iadd, 1) := by decide +kernel
theorem dX10_window_16 : decode cX10_window 16 = .ok (.bipush 9, 2) := by decide +kernel
theorem dX10_window_160 : decode cX10_window 160 = .ok (.putfield 7, 3) := by decide +kernel
theorem dX10_window_163 : decode cX10_window 163 = .ok (.aload_n 0, 1) := by decide +kernel
theorem dX10_window_164 : decode cX10_window 164 = .ok (.getfield 7, 3) := by decide +kernel
theorem dX10_window_167 : decode cX10_window 167 = .ok (.iconst 1, 1) := by decide +kernel
theorem dX10_window_168 : decode cX10_window 168 = .ok (.isub, 1) := by decide +kernel
theorem dX10_window_169 : decode cX10_window 169 = .ok (.ireturn, 1) := by decide +kernel
theorem dX10_window_18 : decode cX10_window 18 = .ok (.invokevirtual 242, 3) := by decide +kernel
theorem dX10_window_2 : decode cX10_window 2 = .ok (.iconst 0, 1) := by decide +kernel
theorem dX10_window_21 : decode cX10_window 21 = .ok (.ifCond .eq 25, 3) := by decide +kernel
theorem dX10_window_24 : decode cX10_window 24 = .ok (.aload_n 0, 1) := by decide +kernel
theorem dX10_window_25 : decode cX10_window 25 = .ok (.iload_n 3, 1) := by decide +kernel
theorem dX10_window_26 : decode cX10_window 26 = .ok (.iload 4, 2) := by decide +kernel
theorem dX10_window_28 : decode cX10_window 28 = .ok (.invokevirtual 246, 3) := by decide +kernel
theorem dX10_window_3 : decode cX10_window 3 = .ok (.bipush 6, 2) := by decide +kernel
theorem dX10_window_31 : decode cX10_window 31 = .ok (.ifCond .eq 15, 3) := by decide +kernel
theorem dX10_window_34 : decode cX10_window 34 = .ok (.aload_n 0, 1) := by decide +kernel
theorem dX10_window_35 : decode cX10_window 35 = .ok (.iload 5, 2) := by decide +kernel
theorem dX10_window_37 : decode cX10_window 37 = .ok (.iconst 1, 1) := by decide +kernel
theorem dX10_window_38 : decode cX10_window 38 = .ok (.bipush 9, 2) := by decide +kernel
theorem dX10_window_40 : decode cX10_window 40 = .ok (.invokevirtual 242, 3) := by decide +kernel
theorem dX10_window_43 : decode cX10_window 43 = .ok (.ifCond .ne 6, 3) := by decide +kernel
theorem dX10_window_46 : decode cX10_window 46 = .ok (.bipush (-2), 2) := by decide +kernel
theorem dX10_window_48 : decode cX10_window 48 = .ok (.ireturn, 1) := by decide +kernel
theorem dX10_window_49 : decode cX10_window 49 = .ok (.aload_n 0, 1) := by decide +kernel
theorem dX10_window_5 : decode cX10_window 5 = .ok (.invokevirtual 242, 3) := by decide +kernel
theorem dX10_window_50 : decode cX10_window 50 = .ok (.getfield 7, 3) := by decide +kernel
theorem dX10_window_53 : decode cX10_window 53 = .ok (.bipush 7, 2) := by decide +kernel
theorem dX10_window_55 : decode cX10_window 55 = .ok (.if_icmp .ne 6, 3) := by decide +kernel
theorem dX10_window_61 : decode cX10_window 61 = .ok (.aload_n 0, 1) := by decide +kernel
theorem dX10_window_62 : decode cX10_window 62 = .ok (.getfield 31, 3) := by decide +kernel
theorem dX10_window_65 : decode cX10_window 65 = .ok (.aload_n 0, 1) := by decide +kernel
theorem dX10_window_66 : decode cX10_window 66 = .ok (.getfield 7, 3) := by decide +kernel
theorem dX10_window_69 : decode cX10_window 69 = .ok (.iload_n 1, 1) := by decide +kernel
theorem dX10_window_70 : decode cX10_window 70 = .ok (.iastore, 1) := by decide +kernel
theorem dX10_window_71 : decode cX10_window 71 = .ok (.aload_n 0, 1) := by decide +kernel
theorem dX10_window_72 : decode cX10_window 72 = .ok (.getfield 35, 3) := by decide +kernel
theorem dX10_window_75 : decode cX10_window 75 = .ok (.aload_n 0, 1) := by decide +kernel
theorem dX10_window_76 : decode cX10_window 76 = .ok (.getfield 7, 3) := by decide +kernel
theorem dX10_window_79 : decode cX10_window 79 = .ok (.iload_n 2, 1) := by decide +kernel
theorem dX10_window_8 : decode cX10_window 8 = .ok (.ifCond .ne 5, 3) := by decide +kernel
theorem dX10_window_80 : decode cX10_window 80 = .ok (.iastore, 1) := by decide +kernel
theorem dX10_window_81 : decode cX10_window 81 = .ok (.aload_n 0, 1) := by decide +kernel
theorem dX10_window_82 : decode cX10_window 82 = .ok (.getfield 38, 3) := by decide +kernel
theorem dX10_window_85 : decode cX10_window 85 = .ok (.aload_n 0, 1) := by decide +kernel
theorem dX10_window_86 : decode cX10_window 86 = .ok (.getfield 7, 3) := by decide +kernel
theorem dX10_window_89 : decode cX10_window 89 = .ok (.iload_n 3, 1) := by decide +kernel
theorem dX10_window_90 : decode cX10_window 90 = .ok (.iastore, 1) := by decide +kernel
theorem dX10_window_91 : decode cX10_window 91 = .ok (.aload_n 0, 1) := by decide +kernel
theorem dX10_window_92 : decode cX10_window 92 = .ok (.getfield 41, 3) := by decide +kernel
theorem dX10_window_95 : decode cX10_window 95 = .ok (.aload_n 0, 1) := by decide +kernel
theorem dX10_window_96 : decode cX10_window 96 = .ok (.getfield 7, 3) := by decide +kernel
theorem dX10_window_99 : decode cX10_window 99 = .ok (.iload 4, 2) := by decide +kernel
theorem dX1_forget_0 : decode cX1_forget 0 = .ok (.iconst 0, 1) := by decide +kernel
theorem dX1_forget_1 : decode cX1_forget 1 = .ok (.istore_n 1, 1) := by decide +kernel
theorem dX1_forget_11 : decode cX1_forget 11 = .ok (.iload_n 1, 1) := by decide +kernel
theorem dX1_forget_12 : decode cX1_forget 12 = .ok (.iconst 0, 1) := by decide +kernel
theorem dX1_forget_13 : decode cX1_forget 13 = .ok (.bastore, 1) := by decide +kernel
theorem dX1_forget_14 : decode cX1_forget 14 = .ok (.iinc 1 1, 3) := by decide +kernel
theorem dX1_forget_17 : decode cX1_forget 17 = .ok (.goto (-15), 3) := by decide +kernel
theorem dX1_forget_2 : decode cX1_forget 2 = .ok (.iload_n 1, 1) := by decide +kernel
theorem dX1_forget_20 : decode cX1_forget 20 = .ok (.return_, 1) := by decide +kernel
theorem dX1_forget_3 : decode cX1_forget 3 = .ok (.iconst 4, 1) := by decide +kernel
theorem dX1_forget_4 : decode cX1_forget 4 = .ok (.if_icmp .ge 16, 3) := by decide +kernel
theorem dX1_forget_7 : decode cX1_forget 7 = .ok (.aload_n 0, 1) := by decide +kernel
theorem dX1_forget_8 : decode cX1_forget 8 = .ok (.getfield 40, 3) := by decide +kernel
theorem dX4_becomeNew_0 : decode cX4_becomeNew 0 = .ok (.aload_n 0, 1) := by decide +kernel
theorem dX4_becomeNew_1 : decode cX4_becomeNew 1 = .ok (.iload_n 1, 1) := by decide +kernel
theorem dX4_becomeNew_10 : decode cX4_becomeNew 10 = .ok (.aload_n 0, 1) := by decide +kernel
theorem dX4_becomeNew_11 : decode cX4_becomeNew 11 = .ok (.iload_n 3, 1) := by decide +kernel
theorem dX4_becomeNew_12 : decode cX4_becomeNew 12 = .ok (.putfield 16, 3) := by decide +kernel
theorem dX4_becomeNew_15 : decode cX4_becomeNew 15 = .ok (.aload_n 0, 1) := by decide +kernel
theorem dX4_becomeNew_16 : decode cX4_becomeNew 16 = .ok (.iload 4, 2) := by decide +kernel
theorem dX4_becomeNew_18 : decode cX4_becomeNew 18 = .ok (.putfield 19, 3) := by decide +kernel
theorem dX4_becomeNew_2 : decode cX4_becomeNew 2 = .ok (.putfield 7, 3) := by decide +kernel
theorem dX4_becomeNew_21 : decode cX4_becomeNew 21 = .ok (.aload_n 0, 1) := by decide +kernel
theorem dX4_becomeNew_22 : decode cX4_becomeNew 22 = .ok (.iload 5, 2) := by decide +kernel
theorem dX4_becomeNew_24 : decode cX4_becomeNew 24 = .ok (.putfield 22, 3) := by decide +kernel
theorem dX4_becomeNew_27 : decode cX4_becomeNew 27 = .ok (.aload_n 0, 1) := by decide +kernel
theorem dX4_becomeNew_28 : decode cX4_becomeNew 28 = .ok (.iconst 0, 1) := by decide +kernel
theorem dX4_becomeNew_29 : decode cX4_becomeNew 29 = .ok (.putfield 25, 3) := by decide +kernel
theorem dX4_becomeNew_32 : decode cX4_becomeNew 32 = .ok (.iconst 0, 1) := by decide +kernel
theorem dX4_becomeNew_33 : decode cX4_becomeNew 33 = .ok (.istore 6, 2) := by decide +kernel
theorem dX4_becomeNew_35 : decode cX4_becomeNew 35 = .ok (.iload 6, 2) := by decide +kernel
theorem dX4_becomeNew_37 : decode cX4_becomeNew 37 = .ok (.iconst 4, 1) := by decide +kernel
theorem dX4_becomeNew_38 : decode cX4_becomeNew 38 = .ok (.if_icmp .ge 17, 3) := by decide +kernel
theorem dX4_becomeNew_41 : decode cX4_becomeNew 41 = .ok (.aload_n 0, 1) := by decide +kernel
theorem dX4_becomeNew_42 : decode cX4_becomeNew 42 = .ok (.getfield 29, 3) := by decide +kernel
theorem dX4_becomeNew_45 : decode cX4_becomeNew 45 = .ok (.iload 6, 2) := by decide +kernel
theorem dX4_becomeNew_47 : decode cX4_becomeNew 47 = .ok (.iconst 0, 1) := by decide +kernel
theorem dX4_becomeNew_48 : decode cX4_becomeNew 48 = .ok (.iastore, 1) := by decide +kernel
theorem dX4_becomeNew_49 : decode cX4_becomeNew 49 = .ok (.iinc 6 1, 3) := by decide +kernel
theorem dX4_becomeNew_5 : decode cX4_becomeNew 5 = .ok (.aload_n 0, 1) := by decide +kernel
theorem dX4_becomeNew_52 : decode cX4_becomeNew 52 = .ok (.goto (-17), 3) := by decide +kernel
theorem dX4_becomeNew_55 : decode cX4_becomeNew 55 = .ok (.return_, 1) := by decide +kernel
theorem dX4_becomeNew_6 : decode cX4_becomeNew 6 = .ok (.iload_n 2, 1) := by decide +kernel
theorem dX4_becomeNew_7 : decode cX4_becomeNew 7 = .ok (.putfield 13, 3) := by decide +kernel
theorem dX7_has_0 : decode cX7_has 0 = .ok (.iload_n 1, 1) := by decide +kernel
theorem dX7_has_1 : decode cX7_has 1 = .ok (.ifCond .lt 15, 3) := by decide +kernel
theorem dX7_has_16 : decode cX7_has 16 = .ok (.iconst 0, 1) := by decide +kernel
theorem dX7_has_17 : decode cX7_has 17 = .ok (.ireturn, 1) := by decide +kernel
theorem dX7_has_4 : decode cX7_has 4 = .ok (.iload_n 1, 1) := by decide +kernel
theorem dX7_has_5 : decode cX7_has 5 = .ok (.aload_n 0, 1) := by decide +kernel
theorem dX7_has_6 : decode cX7_has 6 = .ok (.getfield 17, 3) := by decide +kernel
theorem dX7_has_9 : decode cX7_has 9 = .ok (.if_icmp .ge 7, 3) := by decide +kernel
theorem dX9_feed_0 : decode cX9_feed 0 = .ok (.iload_n 1, 1) := by decide +kernel
theorem dX9_feed_1 : decode cX9_feed 1 = .ok (.iconst 0, 1) := by decide +kernel
theorem dX9_feed_10 : decode cX9_feed 10 = .ok (.bipush (-2), 2) := by decide +kernel
theorem dX9_feed_12 : decode cX9_feed 12 = .ok (.ireturn, 1) := by decide +kernel
theorem dX9_feed_13 : decode cX9_feed 13 = .ok (.aload_n 0, 1) := by decide +kernel
theorem dX9_feed_14 : decode cX9_feed 14 = .ok (.getfield 24, 3) := by decide +kernel
theorem dX9_feed_17 : decode cX9_feed 17 = .ok (.getfield 146, 3) := by decide +kernel
theorem dX9_feed_2 : decode cX9_feed 2 = .ok (.bipush 127, 2) := by decide +kernel
theorem dX9_feed_20 : decode cX9_feed 20 = .ok (.bipush 100, 2) := by decide +kernel
theorem dX9_feed_22 : decode cX9_feed 22 = .ok (.if_icmp .lt 6, 3) := by decide +kernel
theorem dX9_feed_28 : decode cX9_feed 28 = .ok (.aload_n 0, 1) := by decide +kernel
theorem dX9_feed_29 : decode cX9_feed 29 = .ok (.getfield 24, 3) := by decide +kernel
theorem dX9_feed_32 : decode cX9_feed 32 = .ok (.getfield 149, 3) := by decide +kernel
theorem dX9_feed_35 : decode cX9_feed 35 = .ok (.aload_n 0, 1) := by decide +kernel
theorem dX9_feed_36 : decode cX9_feed 36 = .ok (.getfield 24, 3) := by decide +kernel
theorem dX9_feed_39 : decode cX9_feed 39 = .ok (.getfield 146, 3) := by decide +kernel
theorem dX9_feed_4 : decode cX9_feed 4 = .ok (.invokestatic 68, 3) := by decide +kernel
theorem dX9_feed_42 : decode cX9_feed 42 = .ok (.iload_n 1, 1) := by decide +kernel
theorem dX9_feed_43 : decode cX9_feed 43 = .ok (.iastore, 1) := by decide +kernel
theorem dX9_feed_44 : decode cX9_feed 44 = .ok (.aload_n 0, 1) := by decide +kernel
theorem dX9_feed_45 : decode cX9_feed 45 = .ok (.getfield 24, 3) := by decide +kernel
theorem dX9_feed_48 : decode cX9_feed 48 = .ok (.dup, 1) := by decide +kernel
theorem dX9_feed_49 : decode cX9_feed 49 = .ok (.getfield 146, 3) := by decide +kernel
theorem dX9_feed_52 : decode cX9_feed 52 = .ok (.iconst 1, 1) := by decide +kernel
theorem dX9_feed_53 : decode cX9_feed 53 = .ok (.iadd, 1) := by decide +kernel
theorem dX9_feed_54 : decode cX9_feed 54 = .ok (.putfield 146, 3) := by decide +kernel
theorem dX9_feed_57 : decode cX9_feed 57 = .ok (.aload_n 0, 1) := by decide +kernel
theorem dX9_feed_58 : decode cX9_feed 58 = .ok (.getfield 24, 3) := by decide +kernel
theorem dX9_feed_61 : decode cX9_feed 61 = .ok (.getfield 146, 3) := by decide +kernel
theorem dX9_feed_64 : decode cX9_feed 64 = .ok (.ireturn, 1) := by decide +kernel
theorem dX9_feed_7 : decode cX9_feed 7 = .ok (.ifCond .ne 6, 3) := by decide +kernel
theorem dX9_isPlace_0 : decode cX9_isPlace 0 = .ok (.iload_n 0, 1) := by decide +kernel
theorem dX9_isPlace_1 : decode cX9_isPlace 1 = .ok (.iconst 0, 1) := by decide +kernel
theorem dX9_isPlace_10 : decode cX9_isPlace 10 = .ok (.iconst 0, 1) := by decide +kernel
theorem dX9_isPlace_11 : decode cX9_isPlace 11 = .ok (.iconst 4, 1) := by decide +kernel
theorem dX9_isPlace_12 : decode cX9_isPlace 12 = .ok (.invokestatic 68, 3) := by decide +kernel
theorem dX9_isPlace_15 : decode cX9_isPlace 15 = .ok (.ifCond .eq 7, 3) := by decide +kernel
theorem dX9_isPlace_18 : decode cX9_isPlace 18 = .ok (.iconst 1, 1) := by decide +kernel
theorem dX9_isPlace_19 : decode cX9_isPlace 19 = .ok (.goto 4, 3) := by decide +kernel
theorem dX9_isPlace_2 : decode cX9_isPlace 2 = .ok (.iconst 3, 1) := by decide +kernel
theorem dX9_isPlace_22 : decode cX9_isPlace 22 = .ok (.iconst 0, 1) := by decide +kernel
theorem dX9_isPlace_23 : decode cX9_isPlace 23 = .ok (.ireturn, 1) := by decide +kernel
theorem dX9_isPlace_3 : decode cX9_isPlace 3 = .ok (.invokestatic 68, 3) := by decide +kernel
theorem dX9_isPlace_6 : decode cX9_isPlace 6 = .ok (.ifCond .eq 16, 3) := by decide +kernel
theorem dX9_isPlace_9 : decode cX9_isPlace 9 = .ok (.iload_n 1, 1) := by decide +kernel
theorem dX9_of_0 : decode cX9_of 0 = .ok (.aload_n 0, 1) := by decide +kernel
theorem dX9_of_1 : decode cX9_of 1 = .ok (.getfield 31, 3) := by decide +kernel
theorem dX9_of_11 : decode cX9_of 11 = .ok (.iconst (-1), 1) := by decide +kernel
theorem dX9_of_12 : decode cX9_of 12 = .ok (.ireturn, 1) := by decide +kernel
theorem dX9_of_4 : decode cX9_of 4 = .ok (.iload_n 1, 1) := by decide +kernel
theorem dX9_of_5 : decode cX9_of 5 = .ok (.invokevirtual 92, 3) := by decide +kernel
theorem dX9_of_8 : decode cX9_of 8 = .ok (.ifCond .ne 5, 3) := by decide +kernel
theorem dX9_put_0 : decode cX9_put 0 = .ok (.aload_n 0, 1) := by decide +kernel
theorem dX9_put_1 : decode cX9_put 1 = .ok (.getfield 31, 3) := by decide +kernel
theorem dX9_put_11 : decode cX9_put 11 = .ok (.iconst (-1), 1) := by decide +kernel
theorem dX9_put_12 : decode cX9_put 12 = .ok (.ireturn, 1) := by decide +kernel
theorem dX9_put_4 : decode cX9_put 4 = .ok (.iload_n 1, 1) := by decide +kernel
theorem dX9_put_5 : decode cX9_put 5 = .ok (.invokevirtual 92, 3) := by decide +kernel
theorem dX9_put_8 : decode cX9_put 8 = .ok (.ifCond .ne 5, 3) := by decide +kernel
theorem dX9_row_0 : decode cX9_row 0 = .ok (.aload_n 0, 1) := by decide +kernel
theorem dX9_row_1 : decode cX9_row 1 = .ok (.getfield 31, 3) := by decide +kernel
theorem dX9_row_20 : decode cX9_row 20 = .ok (.iconst (-1), 1) := by decide +kernel
theorem dX9_row_21 : decode cX9_row 21 = .ok (.ireturn, 1) := by decide +kernel
theorem dX9_row_4 : decode cX9_row 4 = .ok (.iload_n 1, 1) := by decide +kernel
theorem dX9_row_5 : decode cX9_row 5 = .ok (.invokevirtual 92, 3) := by decide +kernel
theorem dX9_row_8 : decode cX9_row 8 = .ok (.ifCond .eq 12, 3) := by decide +kernel
theorem dX9_stand_0 : decode cX9_stand 0 = .ok (.iload_n 1, 1) := by decide +kernel
theorem dX9_stand_1 : decode cX9_stand 1 = .ok (.iload_n 2, 1) := by decide +kernel
theorem dX9_stand_10 : decode cX9_stand 10 = .ok (.ireturn, 1) := by decide +kernel
theorem dX9_stand_11 : decode cX9_stand 11 = .ok (.aload_n 0, 1) := by decide +kernel
theorem dX9_stand_12 : decode cX9_stand 12 = .ok (.getfield 31, 3) := by decide +kernel
theorem dX9_stand_15 : decode cX9_stand 15 = .ok (.iload_n 1, 1) := by decide +kernel
theorem dX9_stand_16 : decode cX9_stand 16 = .ok (.putfield 114, 3) := by decide +kernel
theorem dX9_stand_19 : decode cX9_stand 19 = .ok (.aload_n 0, 1) := by decide +kernel
theorem dX9_stand_2 : decode cX9_stand 2 = .ok (.invokestatic 72, 3) := by decide +kernel
theorem dX9_stand_20 : decode cX9_stand 20 = .ok (.getfield 31, 3) := by decide +kernel
theorem dX9_stand_23 : decode cX9_stand 23 = .ok (.iload_n 2, 1) := by decide +kernel
theorem dX9_stand_24 : decode cX9_stand 24 = .ok (.putfield 115, 3) := by decide +kernel
theorem dX9_stand_27 : decode cX9_stand 27 = .ok (.iconst 1, 1) := by decide +kernel
theorem dX9_stand_28 : decode cX9_stand 28 = .ok (.ireturn, 1) := by decide +kernel
theorem dX9_stand_5 : decode cX9_stand 5 = .ok (.ifCond .ne 6, 3) := by decide +kernel
theorem dX9_stand_8 : decode cX9_stand 8 = .ok (.bipush (-2), 2) := by decide +kernel
theorem dX9_storm_0 : decode cX9_storm 0 = .ok (.iload_n 2, 1) := by decide +kernel
theorem dX9_storm_1 : decode cX9_storm 1 = .ok (.iconst 0, 1) := by decide +kernel
theorem dX9_storm_10 : decode cX9_storm 10 = .ok (.ireturn, 1) := by decide +kernel
theorem dX9_storm_11 : decode cX9_storm 11 = .ok (.iload_n 1, 1) := by decide +kernel
theorem dX9_storm_12 : decode cX9_storm 12 = .ok (.iconst 0, 1) := by decide +kernel
theorem dX9_storm_13 : decode cX9_storm 13 = .ok (.bipush 99, 2) := by decide +kernel
theorem dX9_storm_15 : decode cX9_storm 15 = .ok (.invokestatic 68, 3) := by decide +kernel
theorem dX9_storm_18 : decode cX9_storm 18 = .ok (.ifCond .ne 6, 3) := by decide +kernel
theorem dX9_storm_2 : decode cX9_storm 2 = .ok (.iconst 3, 1) := by decide +kernel
theorem dX9_storm_21 : decode cX9_storm 21 = .ok (.bipush (-2), 2) := by decide +kernel
theorem dX9_storm_23 : decode cX9_storm 23 = .ok (.ireturn, 1) := by decide +kernel
theorem dX9_storm_24 : decode cX9_storm 24 = .ok (.aload_n 0, 1) := by decide +kernel
theorem dX9_storm_25 : decode cX9_storm 25 = .ok (.getfield 31, 3) := by decide +kernel
theorem dX9_storm_28 : decode cX9_storm 28 = .ok (.getfield 140, 3) := by decide +kernel
theorem dX9_storm_3 : decode cX9_storm 3 = .ok (.invokestatic 68, 3) := by decide +kernel
theorem dX9_storm_31 : decode cX9_storm 31 = .ok (.istore_n 3, 1) := by decide +kernel
theorem dX9_storm_32 : decode cX9_storm 32 = .ok (.aload_n 0, 1) := by decide +kernel
theorem dX9_storm_33 : decode cX9_storm 33 = .ok (.getfield 31, 3) := by decide +kernel
theorem dX9_storm_36 : decode cX9_storm 36 = .ok (.iload_n 1, 1) := by decide +kernel
theorem dX9_storm_37 : decode cX9_storm 37 = .ok (.putfield 140, 3) := by decide +kernel
theorem dX9_storm_40 : decode cX9_storm 40 = .ok (.aload_n 0, 1) := by decide +kernel
theorem dX9_storm_41 : decode cX9_storm 41 = .ok (.getfield 31, 3) := by decide +kernel
theorem dX9_storm_44 : decode cX9_storm 44 = .ok (.iload_n 2, 1) := by decide +kernel
theorem dX9_storm_45 : decode cX9_storm 45 = .ok (.putfield 143, 3) := by decide +kernel
theorem dX9_storm_48 : decode cX9_storm 48 = .ok (.iload_n 3, 1) := by decide +kernel
theorem dX9_storm_49 : decode cX9_storm 49 = .ok (.ireturn, 1) := by decide +kernel
theorem dX9_storm_6 : decode cX9_storm 6 = .ok (.ifCond .ne 5, 3) := by decide +kernel
theorem dX9_storm_9 : decode cX9_storm 9 = .ok (.iconst (-1), 1) := by decide +kernel
theorem dX9_window_0 : decode cX9_window 0 = .ok (.iload_n 1, 1) := by decide +kernel
theorem dX9_window_1 : decode cX9_window 1 = .ok (.iconst 0, 1) := by decide +kernel
theorem dX9_window_10 : decode cX9_window 10 = .ok (.iconst (-1), 1) := by decide +kernel
theorem dX9_window_100 : decode cX9_window 100 = .ok (.invokevirtual 89, 3) := by decide +kernel
theorem dX9_window_103 : decode cX9_window 103 = .ok (.iload 6, 2) := by decide +kernel
theorem dX9_window_105 : decode cX9_window 105 = .ok (.ireturn, 1) := by decide +kernel
theorem dX9_window_11 : decode cX9_window 11 = .ok (.ireturn, 1) := by decide +kernel
theorem dX9_window_12 : decode cX9_window 12 = .ok (.iload_n 2, 1) := by decide +kernel
theorem dX9_window_13 : decode cX9_window 13 = .ok (.iconst 0, 1) := by decide +kernel
theorem dX9_window_14 : decode cX9_window 14 = .ok (.bipush 9, 2) := by decide +kernel
theorem dX9_window_16 : decode cX9_window 16 = .ok (.invokestatic 68, 3) := by decide +kernel
theorem dX9_window_19 : decode cX9_window 19 = .ok (.ifCond .eq 23, 3) := by decide +kernel
theorem dX9_window_2 : decode cX9_window 2 = .ok (.bipush 6, 2) := by decide +kernel
theorem dX9_window_22 : decode cX9_window 22 = .ok (.iload_n 3, 1) := by decide +kernel
theorem dX9_window_23 : decode cX9_window 23 = .ok (.iload 4, 2) := by decide +kernel
theorem dX9_window_25 : decode cX9_window 25 = .ok (.invokestatic 72, 3) := by decide +kernel
theorem dX9_window_28 : decode cX9_window 28 = .ok (.ifCond .eq 14, 3) := by decide +kernel
theorem dX9_window_31 : decode cX9_window 31 = .ok (.iload 5, 2) := by decide +kernel
theorem dX9_window_33 : decode cX9_window 33 = .ok (.iconst 1, 1) := by decide +kernel
theorem dX9_window_34 : decode cX9_window 34 = .ok (.bipush 9, 2) := by decide +kernel
theorem dX9_window_36 : decode cX9_window 36 = .ok (.invokestatic 68, 3) := by decide +kernel
theorem dX9_window_39 : decode cX9_window 39 = .ok (.ifCond .ne 6, 3) := by decide +kernel
theorem dX9_window_4 : decode cX9_window 4 = .ok (.invokestatic 68, 3) := by decide +kernel
theorem dX9_window_42 : decode cX9_window 42 = .ok (.bipush (-2), 2) := by decide +kernel
theorem dX9_window_44 : decode cX9_window 44 = .ok (.ireturn, 1) := by decide +kernel
theorem dX9_window_45 : decode cX9_window 45 = .ok (.aload_n 0, 1) := by decide +kernel
theorem dX9_window_46 : decode cX9_window 46 = .ok (.getfield 31, 3) := by decide +kernel
theorem dX9_window_49 : decode cX9_window 49 = .ok (.getfield 76, 3) := by decide +kernel
theorem dX9_window_52 : decode cX9_window 52 = .ok (.bipush 7, 2) := by decide +kernel
theorem dX9_window_54 : decode cX9_window 54 = .ok (.if_icmp .lt 6, 3) := by decide +kernel
theorem dX9_window_60 : decode cX9_window 60 = .ok (.aload_n 0, 1) := by decide +kernel
theorem dX9_window_61 : decode cX9_window 61 = .ok (.getfield 31, 3) := by decide +kernel
theorem dX9_window_64 : decode cX9_window 64 = .ok (.dup, 1) := by decide +kernel
theorem dX9_window_65 : decode cX9_window 65 = .ok (.getfield 76, 3) := by decide +kernel
theorem dX9_window_68 : decode cX9_window 68 = .ok (.dup_x1, 1) := by decide +kernel
theorem dX9_window_69 : decode cX9_window 69 = .ok (.iconst 1, 1) := by decide +kernel
theorem dX9_window_7 : decode cX9_window 7 = .ok (.ifCond .ne 5, 3) := by decide +kernel
theorem dX9_window_70 : decode cX9_window 70 = .ok (.iadd, 1) := by decide +kernel
theorem dX9_window_71 : decode cX9_window 71 = .ok (.putfield 76, 3) := by decide +kernel
theorem dX9_window_74 : decode cX9_window 74 = .ok (.istore 6, 2) := by decide +kernel
theorem dX9_window_76 : decode cX9_window 76 = .ok (.aload_n 0, 1) := by decide +kernel
theorem dX9_window_77 : decode cX9_window 77 = .ok (.getfield 31, 3) := by decide +kernel
theorem dX9_window_80 : decode cX9_window 80 = .ok (.getfield 79, 3) := by decide +kernel
theorem dX9_window_83 : decode cX9_window 83 = .ok (.iload 6, 2) := by decide +kernel
theorem dX9_window_85 : decode cX9_window 85 = .ok (.aaload, 1) := by decide +kernel
theorem dX9_window_86 : decode cX9_window 86 = .ok (.iload_n 1, 1) := by decide +kernel
theorem dX9_window_87 : decode cX9_window 87 = .ok (.iload_n 2, 1) := by decide +kernel
theorem dX9_window_88 : decode cX9_window 88 = .ok (.iload_n 3, 1) := by decide +kernel
theorem dX9_window_89 : decode cX9_window 89 = .ok (.iload 4, 2) := by decide +kernel
theorem dX9_window_91 : decode cX9_window 91 = .ok (.iload 5, 2) := by decide +kernel
theorem dX9_window_93 : decode cX9_window 93 = .ok (.invokevirtual 83, 3) := by decide +kernel
theorem dX9_window_96 : decode cX9_window 96 = .ok (.aload_n 0, 1) := by decide +kernel
theorem dX9_window_97 : decode cX9_window 97 = .ok (.getfield 47, 3) := by decide +kernel
theorem dX9_within_0 : decode cX9_within 0 = .ok (.iload_n 0, 1) := by decide +kernel
theorem dX9_within_1 : decode cX9_within 1 = .ok (.iload_n 1, 1) := by decide +kernel
theorem dX9_within_10 : decode cX9_within 10 = .ok (.iconst 1, 1) := by decide +kernel
theorem dX9_within_11 : decode cX9_within 11 = .ok (.goto 4, 3) := by decide +kernel
theorem dX9_within_14 : decode cX9_within 14 = .ok (.iconst 0, 1) := by decide +kernel
theorem dX9_within_15 : decode cX9_within 15 = .ok (.ireturn, 1) := by decide +kernel
theorem dX9_within_2 : decode cX9_within 2 = .ok (.if_icmp .lt 12, 3) := by decide +kernel
theorem dX9_within_5 : decode cX9_within 5 = .ok (.iload_n 0, 1) := by decide +kernel
theorem dX9_within_6 : decode cX9_within 6 = .ok (.iload_n 2, 1) := by decide +kernel
theorem dX9_within_7 : decode cX9_within 7 = .ok (.if_icmp .gt 7, 3) := by decide +kernel
set_option maxHeartbeats 8000000 in
set_option maxRecDepth 100000 in
theorem zc_X9_within_0 (l : Launch) (D : va_G) (y : Nat → ClassId) (p0 : Int32) : zM l D y yX9_within (Cond.code yX9_within cX9_within 3 (some .boolean) :: zT) { frames := 0, cells := 0, slots := 0, locals := 0 } [.int p0, .int 0, .int 6] [] (zQi (S := Unit) D (fun r_ _ => r_ = (if p0 < 0 then 0 else (if 6 < p0 then 0 else 1))) (fun _ => [])) := by
  refine zent (cc := cX9_within) (maxL := 3) (ret := (some .boolean)) (by decide) (Nat.le_of_ble_eq_true rfl) ?_
  intro p e s m below meth c A H locs ls hx hb hml hr ht hown hlocks hin hA hK hE hS hW hl
  have hown : s.vm.findClass RX9 = some m.cls := hown
  have hW : zPD D A [] H := hW
  have hl : lv_has ls 3 [(0, .int p0), (1, .int 0), (2, .int 6)] := hl
  refine lv_iload_n hx hb dX9_within_0 rfl (lv_at hl 0 rfl) ?_
  refine lv_iload_n hx hb dX9_within_1 rfl (lv_at hl 1 rfl) ?_
  refine lv_icmp_lt (tgt := 14) hx hb dX9_within_2 (by decide) (fun c1_ => ?_) (fun c1_ => ?_)
  · have b2_ : (-2147483648) ≤ Int32.toInt p0 ∧ Int32.toInt p0 ≤ (-1) := (by have u0 := zbnd p0; have u1 := (zi_lt _ _).mp c1_; have u2 : (0 : Int32).toInt = 0 := (by decide); omega)
    refine lv_iconst (v := 0) hx hb dX9_within_14 (by decide) ?_
    exact zret_z (v := 0) hx hb hr hlocks hS () rfl (by show _ = _; rw [if_pos c1_]) hW (Nat.le_of_ble_eq_true rfl) (Nat.le_of_ble_eq_true rfl) dX9_within_15
  · have b3_ : 0 ≤ Int32.toInt p0 ∧ Int32.toInt p0 ≤ 2147483647 := (by have u0 := zbnd p0; have u1 := (not_congr (zi_lt _ _)).mp c1_; have u2 : (0 : Int32).toInt = 0 := (by decide); omega)
    refine lv_iload_n hx hb dX9_within_5 rfl (lv_at hl 0 rfl) ?_
    refine lv_iload_n hx hb dX9_within_6 rfl (lv_at hl 2 rfl) ?_
    refine lv_icmp_gt (tgt := 14) hx hb dX9_within_7 (by decide) (fun c4_ => ?_) (fun c4_ => ?_)
    · have b5_ : 7 ≤ Int32.toInt p0 ∧ Int32.toInt p0 ≤ 2147483647 := (by have u0 := b3_; have u1 := (zi_lt _ _).mp c4_; have u2 : (6 : Int32).toInt = 6 := (by decide); omega)
      refine lv_iconst (v := 0) hx hb dX9_within_14 (by decide) ?_
      exact zret_z (v := 0) hx hb hr hlocks hS () rfl (by show _ = _; rw [if_neg c1_, if_pos c4_]) hW (Nat.le_of_ble_eq_true rfl) (Nat.le_of_ble_eq_true rfl) dX9_within_15
    · have b6_ : 0 ≤ Int32.toInt p0 ∧ Int32.toInt p0 ≤ 6 := (by have u0 := b3_; have u1 := (not_congr (zi_lt _ _)).mp c4_; have u2 : (6 : Int32).toInt = 6 := (by decide); omega)
      refine lv_iconst (v := 1) hx hb dX9_within_10 (by decide) ?_
      refine lv_goto (tgt := 15) hx hb dX9_within_11 (by decide) ?_
      exact zret_z (v := 1) hx hb hr hlocks hS () rfl (by show _ = _; rw [if_neg c1_, if_neg c4_]) hW (Nat.le_of_ble_eq_true rfl) (Nat.le_of_ble_eq_true rfl) dX9_within_15
set_option maxHeartbeats 8000000 in
set_option maxRecDepth 100000 in
theorem zc_X9_within_1 (l : Launch) (D : va_G) (y : Nat → ClassId) (p0 : Int32) : zM l D y yX9_within (Cond.code yX9_within cX9_within 3 (some .boolean) :: zT) { frames := 0, cells := 0, slots := 0, locals := 0 } [.int p0, .int 0, .int 9] [] (zQi (S := Unit) D (fun r_ _ => r_ = (if p0 < 0 then 0 else (if 9 < p0 then 0 else 1))) (fun _ => [])) := by
  refine zent (cc := cX9_within) (maxL := 3) (ret := (some .boolean)) (by decide) (Nat.le_of_ble_eq_true rfl) ?_
  intro p e s m below meth c A H locs ls hx hb hml hr ht hown hlocks hin hA hK hE hS hW hl
  have hown : s.vm.findClass RX9 = some m.cls := hown
  have hW : zPD D A [] H := hW
  have hl : lv_has ls 3 [(0, .int p0), (1, .int 0), (2, .int 9)] := hl
  refine lv_iload_n hx hb dX9_within_0 rfl (lv_at hl 0 rfl) ?_
  refine lv_iload_n hx hb dX9_within_1 rfl (lv_at hl 1 rfl) ?_
  refine lv_icmp_lt (tgt := 14) hx hb dX9_within_2 (by decide) (fun c1_ => ?_) (fun c1_ => ?_)
  · have b2_ : (-2147483648) ≤ Int32.toInt p0 ∧ Int32.toInt p0 ≤ (-1) := (by have u0 := zbnd p0; have u1 := (zi_lt _ _).mp c1_; have u2 : (0 : Int32).toInt = 0 := (by decide); omega)
    refine lv_iconst (v := 0) hx hb dX9_within_14 (by decide) ?_
    exact zret_z (v := 0) hx hb hr hlocks hS () rfl (by show _ = _; rw [if_pos c1_]) hW (Nat.le_of_ble_eq_true rfl) (Nat.le_of_ble_eq_true rfl) dX9_within_15
  · have b3_ : 0 ≤ Int32.toInt p0 ∧ Int32.toInt p0 ≤ 2147483647 := (by have u0 := zbnd p0; have u1 := (not_congr (zi_lt _ _)).mp c1_; have u2 : (0 : Int32).toInt = 0 := (by decide); omega)
    refine lv_iload_n hx hb dX9_within_5 rfl (lv_at hl 0 rfl) ?_
    refine lv_iload_n hx hb dX9_within_6 rfl (lv_at hl 2 rfl) ?_
    refine lv_icmp_gt (tgt := 14) hx hb dX9_within_7 (by decide) (fun c4_ => ?_) (fun c4_ => ?_)
    · have b5_ : 10 ≤ Int32.toInt p0 ∧ Int32.toInt p0 ≤ 2147483647 := (by have u0 := b3_; have u1 := (zi_lt _ _).mp c4_; have u2 : (9 : Int32).toInt = 9 := (by decide); omega)
      refine lv_iconst (v := 0) hx hb dX9_within_14 (by decide) ?_
      exact zret_z (v := 0) hx hb hr hlocks hS () rfl (by show _ = _; rw [if_neg c1_, if_pos c4_]) hW (Nat.le_of_ble_eq_true rfl) (Nat.le_of_ble_eq_true rfl) dX9_within_15
    · have b6_ : 0 ≤ Int32.toInt p0 ∧ Int32.toInt p0 ≤ 9 := (by have u0 := b3_; have u1 := (not_congr (zi_lt _ _)).mp c4_; have u2 : (9 : Int32).toInt = 9 := (by decide); omega)
      refine lv_iconst (v := 1) hx hb dX9_within_10 (by decide) ?_
      refine lv_goto (tgt := 15) hx hb dX9_within_11 (by decide) ?_
      exact zret_z (v := 1) hx hb hr hlocks hS () rfl (by show _ = _; rw [if_neg c1_, if_neg c4_]) hW (Nat.le_of_ble_eq_true rfl) (Nat.le_of_ble_eq_true rfl) dX9_within_15
set_option maxHeartbeats 8000000 in
set_option maxRecDepth 100000 in
theorem zc_X9_within_2 (l : Launch) (D : va_G) (y : Nat → ClassId) (p0 : Int32) : zM l D y yX9_within (Cond.code yX9_within cX9_within 3 (some .boolean) :: zT) { frames := 0, cells := 0, slots := 0, locals := 0 } [.int p0, .int 0, .int 3] [] (zQi (S := Unit) D (fun r_ _ => r_ = (if p0 < 0 then 0 else (if 3 < p0 then 0 else 1))) (fun _ => [])) := by
  refine zent (cc := cX9_within) (maxL := 3) (ret := (some .boolean)) (by decide) (Nat.le_of_ble_eq_true rfl) ?_
  intro p e s m below meth c A H locs ls hx hb hml hr ht hown hlocks hin hA hK hE hS hW hl
  have hown : s.vm.findClass RX9 = some m.cls := hown
  have hW : zPD D A [] H := hW
  have hl : lv_has ls 3 [(0, .int p0), (1, .int 0), (2, .int 3)] := hl
  refine lv_iload_n hx hb dX9_within_0 rfl (lv_at hl 0 rfl) ?_
  refine lv_iload_n hx hb dX9_within_1 rfl (lv_at hl 1 rfl) ?_
  refine lv_icmp_lt (tgt := 14) hx hb dX9_within_2 (by decide) (fun c1_ => ?_) (fun c1_ => ?_)
  · have b2_ : (-2147483648) ≤ Int32.toInt p0 ∧ Int32.toInt p0 ≤ (-1) := (by have u0 := zbnd p0; have u1 := (zi_lt _ _).mp c1_; have u2 : (0 : Int32).toInt = 0 := (by decide); omega)
    refine lv_iconst (v := 0) hx hb dX9_within_14 (by decide) ?_
    exact zret_z (v := 0) hx hb hr hlocks hS () rfl (by show _ = _; rw [if_pos c1_]) hW (Nat.le_of_ble_eq_true rfl) (Nat.le_of_ble_eq_true rfl) dX9_within_15
  · have b3_ : 0 ≤ Int32.toInt p0 ∧ Int32.toInt p0 ≤ 2147483647 := (by have u0 := zbnd p0; have u1 := (not_congr (zi_lt _ _)).mp c1_; have u2 : (0 : Int32).toInt = 0 := (by decide); omega)
    refine lv_iload_n hx hb dX9_within_5 rfl (lv_at hl 0 rfl) ?_
    refine lv_iload_n hx hb dX9_within_6 rfl (lv_at hl 2 rfl) ?_
    refine lv_icmp_gt (tgt := 14) hx hb dX9_within_7 (by decide) (fun c4_ => ?_) (fun c4_ => ?_)
    · have b5_ : 4 ≤ Int32.toInt p0 ∧ Int32.toInt p0 ≤ 2147483647 := (by have u0 := b3_; have u1 := (zi_lt _ _).mp c4_; have u2 : (3 : Int32).toInt = 3 := (by decide); omega)
      refine lv_iconst (v := 0) hx hb dX9_within_14 (by decide) ?_
      exact zret_z (v := 0) hx hb hr hlocks hS () rfl (by show _ = _; rw [if_neg c1_, if_pos c4_]) hW (Nat.le_of_ble_eq_true rfl) (Nat.le_of_ble_eq_true rfl) dX9_within_15
    · have b6_ : 0 ≤ Int32.toInt p0 ∧ Int32.toInt p0 ≤ 3 := (by have u0 := b3_; have u1 := (not_congr (zi_lt _ _)).mp c4_; have u2 : (3 : Int32).toInt = 3 := (by decide); omega)
      refine lv_iconst (v := 1) hx hb dX9_within_10 (by decide) ?_
      refine lv_goto (tgt := 15) hx hb dX9_within_11 (by decide) ?_
      exact zret_z (v := 1) hx hb hr hlocks hS () rfl (by show _ = _; rw [if_neg c1_, if_neg c4_]) hW (Nat.le_of_ble_eq_true rfl) (Nat.le_of_ble_eq_true rfl) dX9_within_15
set_option maxHeartbeats 8000000 in
set_option maxRecDepth 100000 in
theorem zc_X9_within_3 (l : Launch) (D : va_G) (y : Nat → ClassId) (p0 : Int32) : zM l D y yX9_within (Cond.code yX9_within cX9_within 3 (some .boolean) :: zT) { frames := 0, cells := 0, slots := 0, locals := 0 } [.int p0, .int 0, .int 4] [] (zQi (S := Unit) D (fun r_ _ => r_ = (if p0 < 0 then 0 else (if 4 < p0 then 0 else 1))) (fun _ => [])) := by
  refine zent (cc := cX9_within) (maxL := 3) (ret := (some .boolean)) (by decide) (Nat.le_of_ble_eq_true rfl) ?_
  intro p e s m below meth c A H locs ls hx hb hml hr ht hown hlocks hin hA hK hE hS hW hl
  have hown : s.vm.findClass RX9 = some m.cls := hown
  have hW : zPD D A [] H := hW
  have hl : lv_has ls 3 [(0, .int p0), (1, .int 0), (2, .int 4)] := hl
  refine lv_iload_n hx hb dX9_within_0 rfl (lv_at hl 0 rfl) ?_
  refine lv_iload_n hx hb dX9_within_1 rfl (lv_at hl 1 rfl) ?_
  refine lv_icmp_lt (tgt := 14) hx hb dX9_within_2 (by decide) (fun c1_ => ?_) (fun c1_ => ?_)
  · have b2_ : (-2147483648) ≤ Int32.toInt p0 ∧ Int32.toInt p0 ≤ (-1) := (by have u0 := zbnd p0; have u1 := (zi_lt _ _).mp c1_; have u2 : (0 : Int32).toInt = 0 := (by decide); omega)
    refine lv_iconst (v := 0) hx hb dX9_within_14 (by decide) ?_
    exact zret_z (v := 0) hx hb hr hlocks hS () rfl (by show _ = _; rw [if_pos c1_]) hW (Nat.le_of_ble_eq_true rfl) (Nat.le_of_ble_eq_true rfl) dX9_within_15
  · have b3_ : 0 ≤ Int32.toInt p0 ∧ Int32.toInt p0 ≤ 2147483647 := (by have u0 := zbnd p0; have u1 := (not_congr (zi_lt _ _)).mp c1_; have u2 : (0 : Int32).toInt = 0 := (by decide); omega)
    refine lv_iload_n hx hb dX9_within_5 rfl (lv_at hl 0 rfl) ?_
    refine lv_iload_n hx hb dX9_within_6 rfl (lv_at hl 2 rfl) ?_
    refine lv_icmp_gt (tgt := 14) hx hb dX9_within_7 (by decide) (fun c4_ => ?_) (fun c4_ => ?_)
    · have b5_ : 5 ≤ Int32.toInt p0 ∧ Int32.toInt p0 ≤ 2147483647 := (by have u0 := b3_; have u1 := (zi_lt _ _).mp c4_; have u2 : (4 : Int32).toInt = 4 := (by decide); omega)
      refine lv_iconst (v := 0) hx hb dX9_within_14 (by decide) ?_
      exact zret_z (v := 0) hx hb hr hlocks hS () rfl (by show _ = _; rw [if_neg c1_, if_pos c4_]) hW (Nat.le_of_ble_eq_true rfl) (Nat.le_of_ble_eq_true rfl) dX9_within_15
    · have b6_ : 0 ≤ Int32.toInt p0 ∧ Int32.toInt p0 ≤ 4 := (by have u0 := b3_; have u1 := (not_congr (zi_lt _ _)).mp c4_; have u2 : (4 : Int32).toInt = 4 := (by decide); omega)
      refine lv_iconst (v := 1) hx hb dX9_within_10 (by decide) ?_
      refine lv_goto (tgt := 15) hx hb dX9_within_11 (by decide) ?_
      exact zret_z (v := 1) hx hb hr hlocks hS () rfl (by show _ = _; rw [if_neg c1_, if_neg c4_]) hW (Nat.le_of_ble_eq_true rfl) (Nat.le_of_ble_eq_true rfl) dX9_within_15
set_option maxHeartbeats 8000000 in
set_option maxRecDepth 100000 in
theorem zc_X9_isPlace_0 (l : Launch) (D : va_G) (y : Nat → ClassId) (p0 : Int32) (p1 : Int32) : zM l D y yX9_isPlace (Cond.code yX9_isPlace cX9_isPlace 2 (some .boolean) :: zT) { frames := 1, cells := 0, slots := 0, locals := 22 } [.int p0, .int p1] [] (zQi (S := Unit) D (fun r_ _ => r_ = (if p0 < 0 then 0 else (if 3 < p0 then 0 else (if p1 < 0 then 0 else (if 4 < p1 then 0 else 1))))) (fun _ => [])) := by
  refine zent (cc := cX9_isPlace) (maxL := 2) (ret := (some .boolean)) (by decide) (Nat.le_of_ble_eq_true rfl) ?_
  intro p e s m below meth c A H locs ls hx hb hml hr ht hown hlocks hin hA hK hE hS hW hl
  have hown : s.vm.findClass RX9 = some m.cls := hown
  have hW : zPD D A [] H := hW
  have hl : lv_has ls 2 [(0, .int p0), (1, .int p1)] := hl
  refine lv_iload_n hx hb dX9_isPlace_0 rfl (lv_at hl 0 rfl) ?_
  refine lv_iconst (v := 0) hx hb dX9_isPlace_1 (by decide) ?_
  refine lv_iconst (v := 3) hx hb dX9_isPlace_2 (by decide) ?_
  refine zgo0_i (zrunS (As := [.int p0, .int 0, .int 3]) (rest := []) ⟨hx, hb, hml, hown, ht⟩ (zc_X9_within_2 l D y p0) (va_cwS 3 ht (zgS zm_222 zm_223 zm_2 zm_224) rfl rfl rfl (by decide +kernel) ⟨(Nat.le_of_ble_eq_true rfl), (Nat.le_of_ble_eq_true rfl)⟩) hK hE hS hA hW [] (by decide) rfl rfl hl.1 rfl (Nat.le_of_ble_eq_true rfl) dX9_isPlace_3 (Nat.le_of_ble_eq_true rfl) (Nat.le_of_ble_eq_true rfl)) hS hA hW (fun r1_ u H locs hw hW hS => ?_)
  have hw : r1_ = (if p0 < 0 then 0 else (if 3 < p0 then 0 else 1)) := hw
  by_cases c2_ : p0 < 0
  · have b3_ : (-2147483648) ≤ Int32.toInt p0 ∧ Int32.toInt p0 ≤ (-1) := (by have u0 := zbnd p0; have u1 := (zi_lt _ _).mp c2_; have u2 : (0 : Int32).toInt = 0 := (by decide); omega)
    rw [if_pos c2_] at hw
    subst hw
    refine lv_if_eq (tgt := 22) hx hb dX9_isPlace_6 (by decide) (fun c4_ => ?_) (fun c4_ => absurd (by decide) c4_)
    refine lv_iconst (v := 0) hx hb dX9_isPlace_22 (by decide) ?_
    exact zret_z (v := 0) hx hb hr hlocks hS () rfl (by show _ = _; rw [if_pos c2_]) hW (Nat.le_of_ble_eq_true rfl) (Nat.le_of_ble_eq_true rfl) dX9_isPlace_23
  · have b5_ : 0 ≤ Int32.toInt p0 ∧ Int32.toInt p0 ≤ 2147483647 := (by have u0 := zbnd p0; have u1 := (not_congr (zi_lt _ _)).mp c2_; have u2 : (0 : Int32).toInt = 0 := (by decide); omega)
    rw [if_neg c2_] at hw
    by_cases c6_ : 3 < p0
    · have b7_ : 4 ≤ Int32.toInt p0 ∧ Int32.toInt p0 ≤ 2147483647 := (by have u0 := b5_; have u1 := (zi_lt _ _).mp c6_; have u2 : (3 : Int32).toInt = 3 := (by decide); omega)
      rw [if_pos c6_] at hw
      subst hw
      refine lv_if_eq (tgt := 22) hx hb dX9_isPlace_6 (by decide) (fun c8_ => ?_) (fun c8_ => absurd (by decide) c8_)
      refine lv_iconst (v := 0) hx hb dX9_isPlace_22 (by decide) ?_
      exact zret_z (v := 0) hx hb hr hlocks hS () rfl (by show _ = _; rw [if_neg c2_, if_pos c6_]) hW (Nat.le_of_ble_eq_true rfl) (Nat.le_of_ble_eq_true rfl) dX9_isPlace_23
    · have b9_ : 0 ≤ Int32.toInt p0 ∧ Int32.toInt p0 ≤ 3 := (by have u0 := b5_; have u1 := (not_congr (zi_lt _ _)).mp c6_; have u2 : (3 : Int32).toInt = 3 := (by decide); omega)
      rw [if_neg c6_] at hw
      subst hw
      refine lv_if_eq (tgt := 22) hx hb dX9_isPlace_6 (by decide) (fun c10_ => absurd c10_ (by decide)) (fun c10_ => ?_)
      refine lv_iload_n hx hb dX9_isPlace_9 rfl (lv_at hl 1 rfl) ?_
      refine lv_iconst (v := 0) hx hb dX9_isPlace_10 (by decide) ?_
      refine lv_iconst (v := 4) hx hb dX9_isPlace_11 (by decide) ?_
      refine zgo0_i (zrunS (As := [.int p1, .int 0, .int 4]) (rest := []) ⟨hx, hb, hml, hown, ht⟩ (zc_X9_within_3 l D y p1) (va_cwS 3 ht (zgS zm_222 zm_223 zm_2 zm_224) rfl rfl rfl (by decide +kernel) ⟨(Nat.le_of_ble_eq_true rfl), (Nat.le_of_ble_eq_true rfl)⟩) hK hE hS hA hW [] (by decide) rfl rfl hl.1 rfl (Nat.le_of_ble_eq_true rfl) dX9_isPlace_12 (Nat.le_of_ble_eq_true rfl) (Nat.le_of_ble_eq_true rfl)) hS hA hW (fun r11_ u H locs hw hW hS => ?_)
      have hw : r11_ = (if p1 < 0 then 0 else (if 4 < p1 then 0 else 1)) := hw
      by_cases c12_ : p1 < 0
      · have b13_ : (-2147483648) ≤ Int32.toInt p1 ∧ Int32.toInt p1 ≤ (-1) := (by have u0 := zbnd p1; have u1 := (zi_lt _ _).mp c12_; have u2 : (0 : Int32).toInt = 0 := (by decide); omega)
        rw [if_pos c12_] at hw
        subst hw
        refine lv_if_eq (tgt := 22) hx hb dX9_isPlace_15 (by decide) (fun c14_ => ?_) (fun c14_ => absurd (by decide) c14_)
        refine lv_iconst (v := 0) hx hb dX9_isPlace_22 (by decide) ?_
        exact zret_z (v := 0) hx hb hr hlocks hS () rfl (by show _ = _; rw [if_neg c2_, if_neg c6_, if_pos c12_]) hW (Nat.le_of_ble_eq_true rfl) (Nat.le_of_ble_eq_true rfl) dX9_isPlace_23
      · have b15_ : 0 ≤ Int32.toInt p1 ∧ Int32.toInt p1 ≤ 2147483647 := (by have u0 := zbnd p1; have u1 := (not_congr (zi_lt _ _)).mp c12_; have u2 : (0 : Int32).toInt = 0 := (by decide); omega)
        rw [if_neg c12_] at hw
        by_cases c16_ : 4 < p1
        · have b17_ : 5 ≤ Int32.toInt p1 ∧ Int32.toInt p1 ≤ 2147483647 := (by have u0 := b15_; have u1 := (zi_lt _ _).mp c16_; have u2 : (4 : Int32).toInt = 4 := (by decide); omega)
          rw [if_pos c16_] at hw
          subst hw
          refine lv_if_eq (tgt := 22) hx hb dX9_isPlace_15 (by decide) (fun c18_ => ?_) (fun c18_ => absurd (by decide) c18_)
          refine lv_iconst (v := 0) hx hb dX9_isPlace_22 (by decide) ?_
          exact zret_z (v := 0) hx hb hr hlocks hS () rfl (by show _ = _; rw [if_neg c2_, if_neg c6_, if_neg c12_, if_pos c16_]) hW (Nat.le_of_ble_eq_true rfl) (Nat.le_of_ble_eq_true rfl) dX9_isPlace_23
        · have b19_ : 0 ≤ Int32.toInt p1 ∧ Int32.toInt p1 ≤ 4 := (by have u0 := b15_; have u1 := (not_congr (zi_lt _ _)).mp c16_; have u2 : (4 : Int32).toInt = 4 := (by decide); omega)
          rw [if_neg c16_] at hw
          subst hw
          refine lv_if_eq (tgt := 22) hx hb dX9_isPlace_15 (by decide) (fun c20_ => absurd c20_ (by decide)) (fun c20_ => ?_)
          refine lv_iconst (v := 1) hx hb dX9_isPlace_18 (by decide) ?_
          refine lv_goto (tgt := 23) hx hb dX9_isPlace_19 (by decide) ?_
          exact zret_z (v := 1) hx hb hr hlocks hS () rfl (by show _ = _; rw [if_neg c2_, if_neg c6_, if_neg c12_, if_neg c16_]) hW (Nat.le_of_ble_eq_true rfl) (Nat.le_of_ble_eq_true rfl) dX9_isPlace_23
set_option maxHeartbeats 8000000 in
set_option maxRecDepth 100000 in
theorem zc_X9_within_4 (l : Launch) (D : va_G) (y : Nat → ClassId) (p0 : Int32) : zM l D y yX9_within (Cond.code yX9_within cX9_within 3 (some .boolean) :: zT) { frames := 0, cells := 0, slots := 0, locals := 0 } [.int p0, .int 1, .int 9] [] (zQi (S := Unit) D (fun r_ _ => r_ = (if p0 < 1 then 0 else (if 9 < p0 then 0 else 1))) (fun _ => [])) := by
  refine zent (cc := cX9_within) (maxL := 3) (ret := (some .boolean)) (by decide) (Nat.le_of_ble_eq_true rfl) ?_
  intro p e s m below meth c A H locs ls hx hb hml hr ht hown hlocks hin hA hK hE hS hW hl
  have hown : s.vm.findClass RX9 = some m.cls := hown
  have hW : zPD D A [] H := hW
  have hl : lv_has ls 3 [(0, .int p0), (1, .int 1), (2, .int 9)] := hl
  refine lv_iload_n hx hb dX9_within_0 rfl (lv_at hl 0 rfl) ?_
  refine lv_iload_n hx hb dX9_within_1 rfl (lv_at hl 1 rfl) ?_
  refine lv_icmp_lt (tgt := 14) hx hb dX9_within_2 (by decide) (fun c1_ => ?_) (fun c1_ => ?_)
  · have b2_ : (-2147483648) ≤ Int32.toInt p0 ∧ Int32.toInt p0 ≤ 0 := (by have u0 := zbnd p0; have u1 := (zi_lt _ _).mp c1_; have u2 : (1 : Int32).toInt = 1 := (by decide); omega)
    refine lv_iconst (v := 0) hx hb dX9_within_14 (by decide) ?_
    exact zret_z (v := 0) hx hb hr hlocks hS () rfl (by show _ = _; rw [if_pos c1_]) hW (Nat.le_of_ble_eq_true rfl) (Nat.le_of_ble_eq_true rfl) dX9_within_15
  · have b3_ : 1 ≤ Int32.toInt p0 ∧ Int32.toInt p0 ≤ 2147483647 := (by have u0 := zbnd p0; have u1 := (not_congr (zi_lt _ _)).mp c1_; have u2 : (1 : Int32).toInt = 1 := (by decide); omega)
    refine lv_iload_n hx hb dX9_within_5 rfl (lv_at hl 0 rfl) ?_
    refine lv_iload_n hx hb dX9_within_6 rfl (lv_at hl 2 rfl) ?_
    refine lv_icmp_gt (tgt := 14) hx hb dX9_within_7 (by decide) (fun c4_ => ?_) (fun c4_ => ?_)
    · have b5_ : 10 ≤ Int32.toInt p0 ∧ Int32.toInt p0 ≤ 2147483647 := (by have u0 := b3_; have u1 := (zi_lt _ _).mp c4_; have u2 : (9 : Int32).toInt = 9 := (by decide); omega)
      refine lv_iconst (v := 0) hx hb dX9_within_14 (by decide) ?_
      exact zret_z (v := 0) hx hb hr hlocks hS () rfl (by show _ = _; rw [if_neg c1_, if_pos c4_]) hW (Nat.le_of_ble_eq_true rfl) (Nat.le_of_ble_eq_true rfl) dX9_within_15
    · have b6_ : 1 ≤ Int32.toInt p0 ∧ Int32.toInt p0 ≤ 9 := (by have u0 := b3_; have u1 := (not_congr (zi_lt _ _)).mp c4_; have u2 : (9 : Int32).toInt = 9 := (by decide); omega)
      refine lv_iconst (v := 1) hx hb dX9_within_10 (by decide) ?_
      refine lv_goto (tgt := 15) hx hb dX9_within_11 (by decide) ?_
      exact zret_z (v := 1) hx hb hr hlocks hS () rfl (by show _ = _; rw [if_neg c1_, if_neg c4_]) hW (Nat.le_of_ble_eq_true rfl) (Nat.le_of_ble_eq_true rfl) dX9_within_15
set_option maxHeartbeats 8000000 in
set_option maxRecDepth 100000 in
theorem zc_X4_becomeNew_0 (l : Launch) (D : va_G) (y : Nat → ClassId) (a0 : Nat) (p1 : Int32) (p2 : Int32) (p3 : Int32) (p4 : Int32) (p5 : Int32) (a6 : Nat) : zM l D y yX4_becomeNew (Cond.code yX4_becomeNew cX4_becomeNew 7 none :: zT) { frames := 0, cells := 0, slots := 0, locals := 0 } [.ref a0, .int p1, .int p2, .int p3, .int p4, .int p5] [(a0, .inr (3, [.int 0, .int 0, .int 0, .int 0, .int 1, .int 0, .ref a6])), (a6, .inl (y 0, 4, .inl (fun _ => 0)))] (zQv (S := Unit) D (fun _ => True) (fun _ => [(a0, .inr (3, [.int p1, .int p2, .int p3, .int p4, .int p5, .int 0, .ref a6])), (a6, .inl (y 0, 4, .inl (fun _ => 0)))])) := by
  refine zent (cc := cX4_becomeNew) (maxL := 7) (ret := none) (by decide) (Nat.le_of_ble_eq_true rfl) ?_
  intro p e s m below meth c A H locs ls hx hb hml hr ht hown hlocks hin hA hK hE hS hW hl
  have hown : s.vm.findClass RX4 = some m.cls := hown
  have hW : zPD D A [(a0, .inr (3, [.int 0, .int 0, .int 0, .int 0, .int 1, .int 0, .ref a6])), (a6, .inl (y 0, 4, .inl (fun _ => 0)))] H := hW
  have hl : lv_has ls 7 [(0, .ref a0), (1, .int p1), (2, .int p2), (3, .int p3), (4, .int p4), (5, .int p5)] := hl
  refine lv_aload_n hx hb dX4_becomeNew_0 rfl (lv_at hl 0 rfl) ?_
  refine lv_iload_n hx hb dX4_becomeNew_1 rfl (lv_at hl 1 rfl) ?_
  refine zput (ws' := [(a0, .inr (3, [.int p1, .int 0, .int 0, .int 0, .int 1, .int 0, .ref a6])), (a6, .inl (y 0, 4, .inl (fun _ => 0)))]) hx hb ht inlX4 tyX4 tyX4_ok nmX4 hown hK hS hW 0 rfl rfl 0 (by decide) zm_98 rfl rfl rfl (Nat.le_of_ble_eq_true rfl) rfl dX4_becomeNew_2 (fun H locs hW hS => ?_)
  refine lv_aload_n hx hb dX4_becomeNew_5 rfl (lv_at hl 0 rfl) ?_
  refine lv_iload_n hx hb dX4_becomeNew_6 rfl (lv_at hl 2 rfl) ?_
  refine zput (ws' := [(a0, .inr (3, [.int p1, .int p2, .int 0, .int 0, .int 1, .int 0, .ref a6])), (a6, .inl (y 0, 4, .inl (fun _ => 0)))]) hx hb ht inlX4 tyX4 tyX4_ok nmX4 hown hK hS hW 0 rfl rfl 1 (by decide) zm_99 rfl rfl rfl (Nat.le_of_ble_eq_true rfl) rfl dX4_becomeNew_7 (fun H locs hW hS => ?_)
  refine lv_aload_n hx hb dX4_becomeNew_10 rfl (lv_at hl 0 rfl) ?_
  refine lv_iload_n hx hb dX4_becomeNew_11 rfl (lv_at hl 3 rfl) ?_
  refine zput (ws' := [(a0, .inr (3, [.int p1, .int p2, .int p3, .int 0, .int 1, .int 0, .ref a6])), (a6, .inl (y 0, 4, .inl (fun _ => 0)))]) hx hb ht inlX4 tyX4 tyX4_ok nmX4 hown hK hS hW 0 rfl rfl 2 (by decide) zm_100 rfl rfl rfl (Nat.le_of_ble_eq_true rfl) rfl dX4_becomeNew_12 (fun H locs hW hS => ?_)
  refine lv_aload_n hx hb dX4_becomeNew_15 rfl (lv_at hl 0 rfl) ?_
  refine lv_iload hx hb dX4_becomeNew_16 (lv_at hl 4 rfl) ?_
  refine zput (ws' := [(a0, .inr (3, [.int p1, .int p2, .int p3, .int p4, .int 1, .int 0, .ref a6])), (a6, .inl (y 0, 4, .inl (fun _ => 0)))]) hx hb ht inlX4 tyX4 tyX4_ok nmX4 hown hK hS hW 0 rfl rfl 3 (by decide) zm_101 rfl rfl rfl (Nat.le_of_ble_eq_true rfl) rfl dX4_becomeNew_18 (fun H locs hW hS => ?_)
  refine lv_aload_n hx hb dX4_becomeNew_21 rfl (lv_at hl 0 rfl) ?_
  refine lv_iload hx hb dX4_becomeNew_22 (lv_at hl 5 rfl) ?_
  refine zput (ws' := [(a0, .inr (3, [.int p1, .int p2, .int p3, .int p4, .int p5, .int 0, .ref a6])), (a6, .inl (y 0, 4, .inl (fun _ => 0)))]) hx hb ht inlX4 tyX4 tyX4_ok nmX4 hown hK hS hW 0 rfl rfl 4 (by decide) zm_102 rfl rfl rfl (Nat.le_of_ble_eq_true rfl) rfl dX4_becomeNew_24 (fun H locs hW hS => ?_)
  refine lv_aload_n hx hb dX4_becomeNew_27 rfl (lv_at hl 0 rfl) ?_
  refine lv_iconst (v := 0) hx hb dX4_becomeNew_28 (by decide) ?_
  refine zput (ws' := [(a0, .inr (3, [.int p1, .int p2, .int p3, .int p4, .int p5, .int 0, .ref a6])), (a6, .inl (y 0, 4, .inl (fun _ => 0)))]) hx hb ht inlX4 tyX4 tyX4_ok nmX4 hown hK hS hW 0 rfl rfl 5 (by decide) zm_103 rfl rfl rfl (Nat.le_of_ble_eq_true rfl) rfl dX4_becomeNew_29 (fun H locs hW hS => ?_)
  refine lv_iconst (v := 0) hx hb dX4_becomeNew_32 (by decide) ?_
  refine lv_istore (lv' := [(6, .int 0), (0, .ref a0), (1, .int p1), (2, .int p2), (3, .int p3), (4, .int p4), (5, .int p5)]) hx hb dX4_becomeNew_33 hl (by decide) rfl (fun ls hl => ?_)
  refine lv_iload hx hb dX4_becomeNew_35 (lv_at hl 0 rfl) ?_
  refine lv_iconst (v := 4) hx hb dX4_becomeNew_37 (by decide) ?_
  refine lv_icmp_ge (tgt := 55) hx hb dX4_becomeNew_38 (by decide) (fun c1_ => absurd c1_ (by decide)) (fun c1_ => ?_)
  refine lv_aload_n hx hb dX4_becomeNew_41 rfl (lv_at hl 1 rfl) ?_
  refine zget hx hb ht inlX4 hown hK hW 0 rfl rfl 6 (by decide) zm_104 rfl dX4_becomeNew_42 ?_
  refine lv_iload hx hb dX4_becomeNew_45 (lv_at hl 0 rfl) ?_
  refine lv_iconst (v := 0) hx hb dX4_becomeNew_47 (by decide) ?_
  refine ziast0 hx hb hK hS hW 1 rfl (by unfold vp_in; decide) (zupd0 _) dX4_becomeNew_48 (fun H locs hW hS => ?_)
  refine lv_iinc (k := 0) (v := 1) (lv' := [(6, .int 1), (0, .ref a0), (1, .int p1), (2, .int p2), (3, .int p3), (4, .int p4), (5, .int p5)]) hx hb dX4_becomeNew_49 hl rfl (by decide) (by decide) rfl (fun ls hl => ?_)
  refine lv_goto (tgt := 35) hx hb dX4_becomeNew_52 (by decide) ?_
  refine lv_iload hx hb dX4_becomeNew_35 (lv_at hl 0 rfl) ?_
  refine lv_iconst (v := 4) hx hb dX4_becomeNew_37 (by decide) ?_
  refine lv_icmp_ge (tgt := 55) hx hb dX4_becomeNew_38 (by decide) (fun c2_ => absurd c2_ (by decide)) (fun c2_ => ?_)
  refine lv_aload_n hx hb dX4_becomeNew_41 rfl (lv_at hl 1 rfl) ?_
  refine zget hx hb ht inlX4 hown hK hW 0 rfl rfl 6 (by decide) zm_104 rfl dX4_becomeNew_42 ?_
  refine lv_iload hx hb dX4_becomeNew_45 (lv_at hl 0 rfl) ?_
  refine lv_iconst (v := 0) hx hb dX4_becomeNew_47 (by decide) ?_
  refine ziast0 hx hb hK hS hW 1 rfl (by unfold vp_in; decide) (zupd0 _) dX4_becomeNew_48 (fun H locs hW hS => ?_)
  refine lv_iinc (k := 0) (v := 2) (lv' := [(6, .int 2), (0, .ref a0), (1, .int p1), (2, .int p2), (3, .int p3), (4, .int p4), (5, .int p5)]) hx hb dX4_becomeNew_49 hl rfl (by decide) (by decide) rfl (fun ls hl => ?_)
  refine lv_goto (tgt := 35) hx hb dX4_becomeNew_52 (by decide) ?_
  refine lv_iload hx hb dX4_becomeNew_35 (lv_at hl 0 rfl) ?_
  refine lv_iconst (v := 4) hx hb dX4_becomeNew_37 (by decide) ?_
  refine lv_icmp_ge (tgt := 55) hx hb dX4_becomeNew_38 (by decide) (fun c3_ => absurd c3_ (by decide)) (fun c3_ => ?_)
  refine lv_aload_n hx hb dX4_becomeNew_41 rfl (lv_at hl 1 rfl) ?_
  refine zget hx hb ht inlX4 hown hK hW 0 rfl rfl 6 (by decide) zm_104 rfl dX4_becomeNew_42 ?_
  refine lv_iload hx hb dX4_becomeNew_45 (lv_at hl 0 rfl) ?_
  refine lv_iconst (v := 0) hx hb dX4_becomeNew_47 (by decide) ?_
  refine ziast0 hx hb hK hS hW 1 rfl (by unfold vp_in; decide) (zupd0 _) dX4_becomeNew_48 (fun H locs hW hS => ?_)
  refine lv_iinc (k := 0) (v := 3) (lv' := [(6, .int 3), (0, .ref a0), (1, .int p1), (2, .int p2), (3, .int p3), (4, .int p4), (5, .int p5)]) hx hb dX4_becomeNew_49 hl rfl (by decide) (by decide) rfl (fun ls hl => ?_)
  refine lv_goto (tgt := 35) hx hb dX4_becomeNew_52 (by decide) ?_
  refine lv_iload hx hb dX4_becomeNew_35 (lv_at hl 0 rfl) ?_
  refine lv_iconst (v := 4) hx hb dX4_becomeNew_37 (by decide) ?_
  refine lv_icmp_ge (tgt := 55) hx hb dX4_becomeNew_38 (by decide) (fun c4_ => absurd c4_ (by decide)) (fun c4_ => ?_)
  refine lv_aload_n hx hb dX4_becomeNew_41 rfl (lv_at hl 1 rfl) ?_
  refine zget hx hb ht inlX4 hown hK hW 0 rfl rfl 6 (by decide) zm_104 rfl dX4_becomeNew_42 ?_
  refine lv_iload hx hb dX4_becomeNew_45 (lv_at hl 0 rfl) ?_
  refine lv_iconst (v := 0) hx hb dX4_becomeNew_47 (by decide) ?_
  refine ziast0 hx hb hK hS hW 1 rfl (by unfold vp_in; decide) (zupd0 _) dX4_becomeNew_48 (fun H locs hW hS => ?_)
  refine lv_iinc (k := 0) (v := 4) (lv' := [(6, .int 4), (0, .ref a0), (1, .int p1), (2, .int p2), (3, .int p3), (4, .int p4), (5, .int p5)]) hx hb dX4_becomeNew_49 hl rfl (by decide) (by decide) rfl (fun ls hl => ?_)
  refine lv_goto (tgt := 35) hx hb dX4_becomeNew_52 (by decide) ?_
  refine lv_iload hx hb dX4_becomeNew_35 (lv_at hl 0 rfl) ?_
  refine lv_iconst (v := 4) hx hb dX4_becomeNew_37 (by decide) ?_
  refine lv_icmp_ge (tgt := 55) hx hb dX4_becomeNew_38 (by decide) (fun c5_ => ?_) (fun c5_ => absurd (by decide) c5_)
  exact zret_v hx hb hr hlocks hS () trivial hW (Nat.le_of_ble_eq_true rfl) (Nat.le_of_ble_eq_true rfl) dX4_becomeNew_55
set_option maxHeartbeats 8000000 in
set_option maxRecDepth 100000 in
theorem zc_X1_forget_0 (l : Launch) (D : va_G) (y : Nat → ClassId) (a0 : Nat) (w1 : Value) (w2 : Value) (w3 : Value) (w4 : Value) (w5 : Value) (w6 : Value) (w7 : Value) (w8 : Value) (a9 : Nat) : zM l D y yX1_forget (Cond.code yX1_forget cX1_forget 2 none :: zT) { frames := 0, cells := 0, slots := 0, locals := 0 } [.ref a0] [(a0, .inr (1, [w1, w2, w3, w4, w5, w6, w7, w8, .ref a9])), (a9, .inl (y 2, 4, .inl (fun _ => 0)))] (zQv (S := Unit) D (fun _ => True) (fun _ => [(a0, .inr (1, [w1, w2, w3, w4, w5, w6, w7, w8, .ref a9])), (a9, .inl (y 2, 4, .inl (fun _ => 0)))])) := by
  refine zent (cc := cX1_forget) (maxL := 2) (ret := none) (by decide) (Nat.le_of_ble_eq_true rfl) ?_
  intro p e s m below meth c A H locs ls hx hb hml hr ht hown hlocks hin hA hK hE hS hW hl
  have hown : s.vm.findClass RX1 = some m.cls := hown
  have hW : zPD D A [(a0, .inr (1, [w1, w2, w3, w4, w5, w6, w7, w8, .ref a9])), (a9, .inl (y 2, 4, .inl (fun _ => 0)))] H := hW
  have hl : lv_has ls 2 [(0, .ref a0)] := hl
  refine lv_iconst (v := 0) hx hb dX1_forget_0 (by decide) ?_
  refine lv_istore_n (lv' := [(1, .int 0), (0, .ref a0)]) hx hb dX1_forget_1 rfl hl (by decide) rfl (fun ls hl => ?_)
  refine lv_iload_n hx hb dX1_forget_2 rfl (lv_at hl 0 rfl) ?_
  refine lv_iconst (v := 4) hx hb dX1_forget_3 (by decide) ?_
  refine lv_icmp_ge (tgt := 20) hx hb dX1_forget_4 (by decide) (fun c1_ => absurd c1_ (by decide)) (fun c1_ => ?_)
  refine lv_aload_n hx hb dX1_forget_7 rfl (lv_at hl 1 rfl) ?_
  refine zget hx hb ht inlX1 hown hK hW 0 rfl rfl 8 (by decide) zm_118 rfl dX1_forget_8 ?_
  refine lv_iload_n hx hb dX1_forget_11 rfl (lv_at hl 0 rfl) ?_
  refine lv_iconst (v := 0) hx hb dX1_forget_12 (by decide) ?_
  refine zzast0 hx hb hK hS hW 1 rfl (by unfold vp_in; decide) (zupdB0 _) dX1_forget_13 (fun H locs hW hS => ?_)
  refine lv_iinc (k := 0) (v := 1) (lv' := [(1, .int 1), (0, .ref a0)]) hx hb dX1_forget_14 hl rfl (by decide) (by decide) rfl (fun ls hl => ?_)
  refine lv_goto (tgt := 2) hx hb dX1_forget_17 (by decide) ?_
  refine lv_iload_n hx hb dX1_forget_2 rfl (lv_at hl 0 rfl) ?_
  refine lv_iconst (v := 4) hx hb dX1_forget_3 (by decide) ?_
  refine lv_icmp_ge (tgt := 20) hx hb dX1_forget_4 (by decide) (fun c2_ => absurd c2_ (by decide)) (fun c2_ => ?_)
  refine lv_aload_n hx hb dX1_forget_7 rfl (lv_at hl 1 rfl) ?_
  refine zget hx hb ht inlX1 hown hK hW 0 rfl rfl 8 (by decide) zm_118 rfl dX1_forget_8 ?_
  refine lv_iload_n hx hb dX1_forget_11 rfl (lv_at hl 0 rfl) ?_
  refine lv_iconst (v := 0) hx hb dX1_forget_12 (by decide) ?_
  refine zzast0 hx hb hK hS hW 1 rfl (by unfold vp_in; decide) (zupdB0 _) dX1_forget_13 (fun H locs hW hS => ?_)
  refine lv_iinc (k := 0) (v := 2) (lv' := [(1, .int 2), (0, .ref a0)]) hx hb dX1_forget_14 hl rfl (by decide) (by decide) rfl (fun ls hl => ?_)
  refine lv_goto (tgt := 2) hx hb dX1_forget_17 (by decide) ?_
  refine lv_iload_n hx hb dX1_forget_2 rfl (lv_at hl 0 rfl) ?_
  refine lv_iconst (v := 4) hx hb dX1_forget_3 (by decide) ?_
  refine lv_icmp_ge (tgt := 20) hx hb dX1_forget_4 (by decide) (fun c3_ => absurd c3_ (by decide)) (fun c3_ => ?_)
  refine lv_aload_n hx hb dX1_forget_7 rfl (lv_at hl 1 rfl) ?_
  refine zget hx hb ht inlX1 hown hK hW 0 rfl rfl 8 (by decide) zm_118 rfl dX1_forget_8 ?_
  refine lv_iload_n hx hb dX1_forget_11 rfl (lv_at hl 0 rfl) ?_
  refine lv_iconst (v := 0) hx hb dX1_forget_12 (by decide) ?_
  refine zzast0 hx hb hK hS hW 1 rfl (by unfold vp_in; decide) (zupdB0 _) dX1_forget_13 (fun H locs hW hS => ?_)
  refine lv_iinc (k := 0) (v := 3) (lv' := [(1, .int 3), (0, .ref a0)]) hx hb dX1_forget_14 hl rfl (by decide) (by decide) rfl (fun ls hl => ?_)
  refine lv_goto (tgt := 2) hx hb dX1_forget_17 (by decide) ?_
  refine lv_iload_n hx hb dX1_forget_2 rfl (lv_at hl 0 rfl) ?_
  refine lv_iconst (v := 4) hx hb dX1_forget_3 (by decide) ?_
  refine lv_icmp_ge (tgt := 20) hx hb dX1_forget_4 (by decide) (fun c4_ => absurd c4_ (by decide)) (fun c4_ => ?_)
  refine lv_aload_n hx hb dX1_forget_7 rfl (lv_at hl 1 rfl) ?_
  refine zget hx hb ht inlX1 hown hK hW 0 rfl rfl 8 (by decide) zm_118 rfl dX1_forget_8 ?_
  refine lv_iload_n hx hb dX1_forget_11 rfl (lv_at hl 0 rfl) ?_
  refine lv_iconst (v := 0) hx hb dX1_forget_12 (by decide) ?_
  refine zzast0 hx hb hK hS hW 1 rfl (by unfold vp_in; decide) (zupdB0 _) dX1_forget_13 (fun H locs hW hS => ?_)
  refine lv_iinc (k := 0) (v := 4) (lv' := [(1, .int 4), (0, .ref a0)]) hx hb dX1_forget_14 hl rfl (by decide) (by decide) rfl (fun ls hl => ?_)
  refine lv_goto (tgt := 2) hx hb dX1_forget_17 (by decide) ?_
  refine lv_iload_n hx hb dX1_forget_2 rfl (lv_at hl 0 rfl) ?_
  refine lv_iconst (v := 4) hx hb dX1_forget_3 (by decide) ?_
  refine lv_icmp_ge (tgt := 20) hx hb dX1_forget_4 (by decide) (fun c5_ => ?_) (fun c5_ => absurd (by decide) c5_)
  exact zret_v hx hb hr hlocks hS () trivial hW (Nat.le_of_ble_eq_true rfl) (Nat.le_of_ble_eq_true rfl) dX1_forget_20
set_option maxHeartbeats 8000000 in
set_option maxRecDepth 100000 in
theorem zc_X9_window_0 (l : Launch) (D : va_G) (y : Nat → ClassId) (a0 : Nat) (p1 : Int32) (p2 : Int32) (p3 : Int32) (p4 : Int32) (p5 : Int32) (w6 : Value) (w7 : Value) (w8 : Value) (a9 : Nat) (w10 : Value) (w11 : Value) (a12 : Nat) (w13 : Value) (w14 : Value) (a15 : Nat) (w16 : Value) (w17 : Value) (w18 : Value) (w19 : Value) (w20 : Value) (w21 : Value) (w22 : Value) (w23 : Value) (w24 : Value) (w25 : Value) (w26 : Value) (w27 : Value) (w28 : Value) (w29 : Value) (w30 : Value) (w31 : Value) (w32 : Value) (w33 : Value) (a34 : Nat) (a35 : Nat) (a36 : Nat) (a37 : Nat) (a38 : Nat) (a39 : Nat) (a40 : Nat) (a41 : Nat) (a42 : Nat) : zM l D y yX9_window (Cond.code yX9_window cX9_window 7 (some .int) :: zT) { frames := 2, cells := 0, slots := 0, locals := 43 } [.ref a0, .int p1, .int p2, .int p3, .int p4, .int p5] [(a0, .inr (8, [w6, w7, w8, .ref a9, w10, w11, .ref a12, w13, w14])), (a9, .inr (6, [.ref a15, .int 0, w16, w17, w18, w19, w20, w21, w22, w23, w24, w25])), (a12, .inr (1, [w26, w27, w28, w29, w30, w31, w32, w33, .ref a34])), (a15, .inl (y 4, 7, .inr (.inr (.inr (.inr (va_up (va_up (va_up (va_up (va_up (va_up (va_up (fun _ => none) 0 (some a35)) 1 (some a36)) 2 (some a37)) 3 (some a38)) 4 (some a39)) 5 (some a40)) 6 (some a41))))))), (a34, .inl (y 2, 4, .inl (fun _ => 0))), (a35, .inr (3, [.int 0, .int 0, .int 0, .int 0, .int 1, .int 0, .ref a42])), (a42, .inl (y 0, 4, .inl (fun _ => 0)))] (zQi (S := Unit) D (fun r_ _ => r_ = (if p1 < 0 then (-1) else (if 6 < p1 then (-1) else (if p2 < 0 then (-2) else (if 9 < p2 then (-2) else (if p3 < 0 then (-2) else (if 3 < p3 then (-2) else (if p4 < 0 then (-2) else (if 4 < p4 then (-2) else (if p5 < 1 then (-2) else (if 9 < p5 then (-2) else 0))))))))))) (fun _ => [])) := by
  refine zent (cc := cX9_window) (maxL := 7) (ret := (some .int)) (by decide) (Nat.le_of_ble_eq_true rfl) ?_
  intro p e s m below meth c A H locs ls hx hb hml hr ht hown hlocks hin hA hK hE hS hW hl
  have hown : s.vm.findClass RX9 = some m.cls := hown
  have hW : zPD D A [(a0, .inr (8, [w6, w7, w8, .ref a9, w10, w11, .ref a12, w13, w14])), (a9, .inr (6, [.ref a15, .int 0, w16, w17, w18, w19, w20, w21, w22, w23, w24, w25])), (a12, .inr (1, [w26, w27, w28, w29, w30, w31, w32, w33, .ref a34])), (a15, .inl (y 4, 7, .inr (.inr (.inr (.inr (va_up (va_up (va_up (va_up (va_up (va_up (va_up (fun _ => none) 0 (some a35)) 1 (some a36)) 2 (some a37)) 3 (some a38)) 4 (some a39)) 5 (some a40)) 6 (some a41))))))), (a34, .inl (y 2, 4, .inl (fun _ => 0))), (a35, .inr (3, [.int 0, .int 0, .int 0, .int 0, .int 1, .int 0, .ref a42])), (a42, .inl (y 0, 4, .inl (fun _ => 0)))] H := hW
  have hl : lv_has ls 7 [(0, .ref a0), (1, .int p1), (2, .int p2), (3, .int p3), (4, .int p4), (5, .int p5)] := hl
  refine lv_iload_n hx hb dX9_window_0 rfl (lv_at hl 1 rfl) ?_
  refine lv_iconst (v := 0) hx hb dX9_window_1 (by decide) ?_
  refine lv_bipush (v := 6) hx hb dX9_window_2 (by decide) ?_
  refine zgo0_i (zrunS (As := [.int p1, .int 0, .int 6]) (rest := []) ⟨hx, hb, hml, hown, ht⟩ (zc_X9_within_0 l D y p1) (va_cwS 3 ht (zgS zm_222 zm_223 zm_2 zm_224) rfl rfl rfl (by decide +kernel) ⟨(Nat.le_of_ble_eq_true rfl), (Nat.le_of_ble_eq_true rfl)⟩) hK hE hS hA hW [] (by decide) rfl rfl hl.1 rfl (Nat.le_of_ble_eq_true rfl) dX9_window_4 (Nat.le_of_ble_eq_true rfl) (Nat.le_of_ble_eq_true rfl)) hS hA hW (fun r1_ u H locs hw hW hS => ?_)
  have hw : r1_ = (if p1 < 0 then 0 else (if 6 < p1 then 0 else 1)) := hw
  by_cases c2_ : p1 < 0
  · have b3_ : (-2147483648) ≤ Int32.toInt p1 ∧ Int32.toInt p1 ≤ (-1) := (by have u0 := zbnd p1; have u1 := (zi_lt _ _).mp c2_; have u2 : (0 : Int32).toInt = 0 := (by decide); omega)
    rw [if_pos c2_] at hw
    subst hw
    refine lv_if_ne (tgt := 12) hx hb dX9_window_7 (by decide) (fun c4_ => absurd (by decide) c4_) (fun c4_ => ?_)
    refine lv_iconst (v := (-1)) hx hb dX9_window_10 (by decide) ?_
    exact zret_i (v := (-1)) hx hb hr hlocks hS () (by show _ = _; rw [if_pos c2_]) (hW.sub [] (by decide) rfl) (Nat.le_of_ble_eq_true rfl) (Nat.le_of_ble_eq_true rfl) dX9_window_11
  · have b5_ : 0 ≤ Int32.toInt p1 ∧ Int32.toInt p1 ≤ 2147483647 := (by have u0 := zbnd p1; have u1 := (not_congr (zi_lt _ _)).mp c2_; have u2 : (0 : Int32).toInt = 0 := (by decide); omega)
    rw [if_neg c2_] at hw
    by_cases c6_ : 6 < p1
    · have b7_ : 7 ≤ Int32.toInt p1 ∧ Int32.toInt p1 ≤ 2147483647 := (by have u0 := b5_; have u1 := (zi_lt _ _).mp c6_; have u2 : (6 : Int32).toInt = 6 := (by decide); omega)
      rw [if_pos c6_] at hw
      subst hw
      refine lv_if_ne (tgt := 12) hx hb dX9_window_7 (by decide) (fun c8_ => absurd (by decide) c8_) (fun c8_ => ?_)
      refine lv_iconst (v := (-1)) hx hb dX9_window_10 (by decide) ?_
      exact zret_i (v := (-1)) hx hb hr hlocks hS () (by show _ = _; rw [if_neg c2_, if_pos c6_]) (hW.sub [] (by decide) rfl) (Nat.le_of_ble_eq_true rfl) (Nat.le_of_ble_eq_true rfl) dX9_window_11
    · have b9_ : 0 ≤ Int32.toInt p1 ∧ Int32.toInt p1 ≤ 6 := (by have u0 := b5_; have u1 := (not_congr (zi_lt _ _)).mp c6_; have u2 : (6 : Int32).toInt = 6 := (by decide); omega)
      rw [if_neg c6_] at hw
      subst hw
      refine lv_if_ne (tgt := 12) hx hb dX9_window_7 (by decide) (fun c10_ => ?_) (fun c10_ => absurd c10_ (by decide))
      refine lv_iload_n hx hb dX9_window_12 rfl (lv_at hl 2 rfl) ?_
      refine lv_iconst (v := 0) hx hb dX9_window_13 (by decide) ?_
      refine lv_bipush (v := 9) hx hb dX9_window_14 (by decide) ?_
      refine zgo0_i (zrunS (As := [.int p2, .int 0, .int 9]) (rest := []) ⟨hx, hb, hml, hown, ht⟩ (zc_X9_within_1 l D y p2) (va_cwS 3 ht (zgS zm_222 zm_223 zm_2 zm_224) rfl rfl rfl (by decide +kernel) ⟨(Nat.le_of_ble_eq_true rfl), (Nat.le_of_ble_eq_true rfl)⟩) hK hE hS hA hW [] (by decide) rfl rfl hl.1 rfl (Nat.le_of_ble_eq_true rfl) dX9_window_16 (Nat.le_of_ble_eq_true rfl) (Nat.le_of_ble_eq_true rfl)) hS hA hW (fun r11_ u H locs hw hW hS => ?_)
      have hw : r11_ = (if p2 < 0 then 0 else (if 9 < p2 then 0 else 1)) := hw
      by_cases c12_ : p2 < 0
      · have b13_ : (-2147483648) ≤ Int32.toInt p2 ∧ Int32.toInt p2 ≤ (-1) := (by have u0 := zbnd p2; have u1 := (zi_lt _ _).mp c12_; have u2 : (0 : Int32).toInt = 0 := (by decide); omega)
        rw [if_pos c12_] at hw
        subst hw
        refine lv_if_eq (tgt := 42) hx hb dX9_window_19 (by decide) (fun c14_ => ?_) (fun c14_ => absurd (by decide) c14_)
        refine lv_bipush (v := (-2)) hx hb dX9_window_42 (by decide) ?_
        exact zret_i (v := (-2)) hx hb hr hlocks hS () (by show _ = _; rw [if_neg c2_, if_neg c6_, if_pos c12_]) (hW.sub [] (by decide) rfl) (Nat.le_of_ble_eq_true rfl) (Nat.le_of_ble_eq_true rfl) dX9_window_44
      · have b15_ : 0 ≤ Int32.toInt p2 ∧ Int32.toInt p2 ≤ 2147483647 := (by have u0 := zbnd p2; have u1 := (not_congr (zi_lt _ _)).mp c12_; have u2 : (0 : Int32).toInt = 0 := (by decide); omega)
        rw [if_neg c12_] at hw
        by_cases c16_ : 9 < p2
        · have b17_ : 10 ≤ Int32.toInt p2 ∧ Int32.toInt p2 ≤ 2147483647 := (by have u0 := b15_; have u1 := (zi_lt _ _).mp c16_; have u2 : (9 : Int32).toInt = 9 := (by decide); omega)
          rw [if_pos c16_] at hw
          subst hw
          refine lv_if_eq (tgt := 42) hx hb dX9_window_19 (by decide) (fun c18_ => ?_) (fun c18_ => absurd (by decide) c18_)
          refine lv_bipush (v := (-2)) hx hb dX9_window_42 (by decide) ?_
          exact zret_i (v := (-2)) hx hb hr hlocks hS () (by show _ = _; rw [if_neg c2_, if_neg c6_, if_neg c12_, if_pos c16_]) (hW.sub [] (by decide) rfl) (Nat.le_of_ble_eq_true rfl) (Nat.le_of_ble_eq_true rfl) dX9_window_44
        · have b19_ : 0 ≤ Int32.toInt p2 ∧ Int32.toInt p2 ≤ 9 := (by have u0 := b15_; have u1 := (not_congr (zi_lt _ _)).mp c16_; have u2 : (9 : Int32).toInt = 9 := (by decide); omega)
          rw [if_neg c16_] at hw
          subst hw
          refine lv_if_eq (tgt := 42) hx hb dX9_window_19 (by decide) (fun c20_ => absurd c20_ (by decide)) (fun c20_ => ?_)
          refine lv_iload_n hx hb dX9_window_22 rfl (lv_at hl 3 rfl) ?_
          refine lv_iload hx hb dX9_window_23 (lv_at hl 4 rfl) ?_
          refine zgo0_i (zrunS (As := [.int p3, .int p4]) (rest := []) ⟨hx, hb, hml, hown, ht⟩ (zc_X9_isPlace_0 l D y p3 p4) (va_cwS 2 ht (zgS zm_225 zm_226 zm_2 zm_227) rfl rfl rfl (by decide +kernel) ⟨(Nat.le_of_ble_eq_true rfl), (Nat.le_of_ble_eq_true rfl)⟩) hK hE hS hA hW [] (by decide) rfl rfl hl.1 rfl (Nat.le_of_ble_eq_true rfl) dX9_window_25 (Nat.le_of_ble_eq_true rfl) (Nat.le_of_ble_eq_true rfl)) hS hA hW (fun r21_ u H locs hw hW hS => ?_)
          have hw : r21_ = (if p3 < 0 then 0 else (if 3 < p3 then 0 else (if p4 < 0 then 0 else (if 4 < p4 then 0 else 1)))) := hw
          by_cases c22_ : p3 < 0
          · have b23_ : (-2147483648) ≤ Int32.toInt p3 ∧ Int32.toInt p3 ≤ (-1) := (by have u0 := zbnd p3; have u1 := (zi_lt _ _).mp c22_; have u2 : (0 : Int32).toInt = 0 := (by decide); omega)
            rw [if_pos c22_] at hw
            subst hw
            refine lv_if_eq (tgt := 42) hx hb dX9_window_28 (by decide) (fun c24_ => ?_) (fun c24_ => absurd (by decide) c24_)
            refine lv_bipush (v := (-2)) hx hb dX9_window_42 (by decide) ?_
            exact zret_i (v := (-2)) hx hb hr hlocks hS () (by show _ = _; rw [if_neg c2_, if_neg c6_, if_neg c12_, if_neg c16_, if_pos c22_]) (hW.sub [] (by decide) rfl) (Nat.le_of_ble_eq_true rfl) (Nat.le_of_ble_eq_true rfl) dX9_window_44
          · have b25_ : 0 ≤ Int32.toInt p3 ∧ Int32.toInt p3 ≤ 2147483647 := (by have u0 := zbnd p3; have u1 := (not_congr (zi_lt _ _)).mp c22_; have u2 : (0 : Int32).toInt = 0 := (by decide); omega)
            rw [if_neg c22_] at hw
            by_cases c26_ : 3 < p3
            · have b27_ : 4 ≤ Int32.toInt p3 ∧ Int32.toInt p3 ≤ 2147483647 := (by have u0 := b25_; have u1 := (zi_lt _ _).mp c26_; have u2 : (3 : Int32).toInt = 3 := (by decide); omega)
              rw [if_pos c26_] at hw
              subst hw
              refine lv_if_eq (tgt := 42) hx hb dX9_window_28 (by decide) (fun c28_ => ?_) (fun c28_ => absurd (by decide) c28_)
              refine lv_bipush (v := (-2)) hx hb dX9_window_42 (by decide) ?_
              exact zret_i (v := (-2)) hx hb hr hlocks hS () (by show _ = _; rw [if_neg c2_, if_neg c6_, if_neg c12_, if_neg c16_, if_neg c22_, if_pos c26_]) (hW.sub [] (by decide) rfl) (Nat.le_of_ble_eq_true rfl) (Nat.le_of_ble_eq_true rfl) dX9_window_44
            · have b29_ : 0 ≤ Int32.toInt p3 ∧ Int32.toInt p3 ≤ 3 := (by have u0 := b25_; have u1 := (not_congr (zi_lt _ _)).mp c26_; have u2 : (3 : Int32).toInt = 3 := (by decide); omega)
              rw [if_neg c26_] at hw
              by_cases c30_ : p4 < 0
              · have b31_ : (-2147483648) ≤ Int32.toInt p4 ∧ Int32.toInt p4 ≤ (-1) := (by have u0 := zbnd p4; have u1 := (zi_lt _ _).mp c30_; have u2 : (0 : Int32).toInt = 0 := (by decide); omega)
                rw [if_pos c30_] at hw
                subst hw
                refine lv_if_eq (tgt := 42) hx hb dX9_window_28 (by decide) (fun c32_ => ?_) (fun c32_ => absurd (by decide) c32_)
                refine lv_bipush (v := (-2)) hx hb dX9_window_42 (by decide) ?_
                exact zret_i (v := (-2)) hx hb hr hlocks hS () (by show _ = _; rw [if_neg c2_, if_neg c6_, if_neg c12_, if_neg c16_, if_neg c22_, if_neg c26_, if_pos c30_]) (hW.sub [] (by decide) rfl) (Nat.le_of_ble_eq_true rfl) (Nat.le_of_ble_eq_true rfl) dX9_window_44
              · have b33_ : 0 ≤ Int32.toInt p4 ∧ Int32.toInt p4 ≤ 2147483647 := (by have u0 := zbnd p4; have u1 := (not_congr (zi_lt _ _)).mp c30_; have u2 : (0 : Int32).toInt = 0 := (by decide); omega)
                rw [if_neg c30_] at hw
                by_cases c34_ : 4 < p4
                · have b35_ : 5 ≤ Int32.toInt p4 ∧ Int32.toInt p4 ≤ 2147483647 := (by have u0 := b33_; have u1 := (zi_lt _ _).mp c34_; have u2 : (4 : Int32).toInt = 4 := (by decide); omega)
                  rw [if_pos c34_] at hw
                  subst hw
                  refine lv_if_eq (tgt := 42) hx hb dX9_window_28 (by decide) (fun c36_ => ?_) (fun c36_ => absurd (by decide) c36_)
                  refine lv_bipush (v := (-2)) hx hb dX9_window_42 (by decide) ?_
                  exact zret_i (v := (-2)) hx hb hr hlocks hS () (by show _ = _; rw [if_neg c2_, if_neg c6_, if_neg c12_, if_neg c16_, if_neg c22_, if_neg c26_, if_neg c30_, if_pos c34_]) (hW.sub [] (by decide) rfl) (Nat.le_of_ble_eq_true rfl) (Nat.le_of_ble_eq_true rfl) dX9_window_44
                · have b37_ : 0 ≤ Int32.toInt p4 ∧ Int32.toInt p4 ≤ 4 := (by have u0 := b33_; have u1 := (not_congr (zi_lt _ _)).mp c34_; have u2 : (4 : Int32).toInt = 4 := (by decide); omega)
                  rw [if_neg c34_] at hw
                  subst hw
                  refine lv_if_eq (tgt := 42) hx hb dX9_window_28 (by decide) (fun c38_ => absurd c38_ (by decide)) (fun c38_ => ?_)
                  refine lv_iload hx hb dX9_window_31 (lv_at hl 5 rfl) ?_
                  refine lv_iconst (v := 1) hx hb dX9_window_33 (by decide) ?_
                  refine lv_bipush (v := 9) hx hb dX9_window_34 (by decide) ?_
                  refine zgo0_i (zrunS (As := [.int p5, .int 1, .int 9]) (rest := []) ⟨hx, hb, hml, hown, ht⟩ (zc_X9_within_4 l D y p5) (va_cwS 3 ht (zgS zm_222 zm_223 zm_2 zm_224) rfl rfl rfl (by decide +kernel) ⟨(Nat.le_of_ble_eq_true rfl), (Nat.le_of_ble_eq_true rfl)⟩) hK hE hS hA hW [] (by decide) rfl rfl hl.1 rfl (Nat.le_of_ble_eq_true rfl) dX9_window_36 (Nat.le_of_ble_eq_true rfl) (Nat.le_of_ble_eq_true rfl)) hS hA hW (fun r39_ u H locs hw hW hS => ?_)
                  have hw : r39_ = (if p5 < 1 then 0 else (if 9 < p5 then 0 else 1)) := hw
                  by_cases c40_ : p5 < 1
                  · have b41_ : (-2147483648) ≤ Int32.toInt p5 ∧ Int32.toInt p5 ≤ 0 := (by have u0 := zbnd p5; have u1 := (zi_lt _ _).mp c40_; have u2 : (1 : Int32).toInt = 1 := (by decide); omega)
                    rw [if_pos c40_] at hw
                    subst hw
                    refine lv_if_ne (tgt := 45) hx hb dX9_window_39 (by decide) (fun c42_ => absurd (by decide) c42_) (fun c42_ => ?_)
                    refine lv_bipush (v := (-2)) hx hb dX9_window_42 (by decide) ?_
                    exact zret_i (v := (-2)) hx hb hr hlocks hS () (by show _ = _; rw [if_neg c2_, if_neg c6_, if_neg c12_, if_neg c16_, if_neg c22_, if_neg c26_, if_neg c30_, if_neg c34_, if_pos c40_]) (hW.sub [] (by decide) rfl) (Nat.le_of_ble_eq_true rfl) (Nat.le_of_ble_eq_true rfl) dX9_window_44
                  · have b43_ : 1 ≤ Int32.toInt p5 ∧ Int32.toInt p5 ≤ 2147483647 := (by have u0 := zbnd p5; have u1 := (not_congr (zi_lt _ _)).mp c40_; have u2 : (1 : Int32).toInt = 1 := (by decide); omega)
                    rw [if_neg c40_] at hw
                    by_cases c44_ : 9 < p5
                    · have b45_ : 10 ≤ Int32.toInt p5 ∧ Int32.toInt p5 ≤ 2147483647 := (by have u0 := b43_; have u1 := (zi_lt _ _).mp c44_; have u2 : (9 : Int32).toInt = 9 := (by decide); omega)
                      rw [if_pos c44_] at hw
                      subst hw
                      refine lv_if_ne (tgt := 45) hx hb dX9_window_39 (by decide) (fun c46_ => absurd (by decide) c46_) (fun c46_ => ?_)
                      refine lv_bipush (v := (-2)) hx hb dX9_window_42 (by decide) ?_
                      exact zret_i (v := (-2)) hx hb hr hlocks hS () (by show _ = _; rw [if_neg c2_, if_neg c6_, if_neg c12_, if_neg c16_, if_neg c22_, if_neg c26_, if_neg c30_, if_neg c34_, if_neg c40_, if_pos c44_]) (hW.sub [] (by decide) rfl) (Nat.le_of_ble_eq_true rfl) (Nat.le_of_ble_eq_true rfl) dX9_window_44
                    · have b47_ : 1 ≤ Int32.toInt p5 ∧ Int32.toInt p5 ≤ 9 := (by have u0 := b43_; have u1 := (not_congr (zi_lt _ _)).mp c44_; have u2 : (9 : Int32).toInt = 9 := (by decide); omega)
                      rw [if_neg c44_] at hw
                      subst hw
                      refine lv_if_ne (tgt := 45) hx hb dX9_window_39 (by decide) (fun c48_ => ?_) (fun c48_ => absurd c48_ (by decide))
                      refine lv_aload_n hx hb dX9_window_45 rfl (lv_at hl 0 rfl) ?_
                      refine zget hx hb ht inlX9 hown hK hW 0 rfl rfl 3 (by decide) zm_23 rfl dX9_window_46 ?_
                      refine zget hx hb ht inlX7 hown hK hW 1 rfl rfl 1 (by decide) zm_220 rfl dX9_window_49 ?_
                      refine lv_bipush (v := 7) hx hb dX9_window_52 (by decide) ?_
                      refine lv_icmp_lt (tgt := 60) hx hb dX9_window_54 (by decide) (fun c49_ => ?_) (fun c49_ => absurd (by decide) c49_)
                      refine lv_aload_n hx hb dX9_window_60 rfl (lv_at hl 0 rfl) ?_
                      refine zget hx hb ht inlX9 hown hK hW 0 rfl rfl 3 (by decide) zm_23 rfl dX9_window_61 ?_
                      refine lv_dup hx hb dX9_window_64 rfl ?_
                      refine zget hx hb ht inlX7 hown hK hW 1 rfl rfl 1 (by decide) zm_220 rfl dX9_window_65 ?_
                      refine lv_dup_x1 hx hb dX9_window_68 rfl rfl ?_
                      refine lv_iconst (v := 1) hx hb dX9_window_69 (by decide) ?_
                      refine lv_iadd hx hb dX9_window_70 ?_
                      refine ztop (w := .int 1) (congrArg Value.int (by decide)) ?_
                      refine zput (ws' := [(a0, .inr (8, [w6, w7, w8, .ref a9, w10, w11, .ref a12, w13, w14])), (a9, .inr (6, [.ref a15, .int 1, w16, w17, w18, w19, w20, w21, w22, w23, w24, w25])), (a12, .inr (1, [w26, w27, w28, w29, w30, w31, w32, w33, .ref a34])), (a15, .inl (y 4, 7, .inr (.inr (.inr (.inr (va_up (va_up (va_up (va_up (va_up (va_up (va_up (fun _ => none) 0 (some a35)) 1 (some a36)) 2 (some a37)) 3 (some a38)) 4 (some a39)) 5 (some a40)) 6 (some a41))))))), (a34, .inl (y 2, 4, .inl (fun _ => 0))), (a35, .inr (3, [.int 0, .int 0, .int 0, .int 0, .int 1, .int 0, .ref a42])), (a42, .inl (y 0, 4, .inl (fun _ => 0)))]) hx hb ht inlX7 tyX7 tyX7_ok nmX7 hown hK hS hW 1 rfl rfl 1 (by decide) zm_220 rfl rfl rfl (Nat.le_of_ble_eq_true rfl) rfl dX9_window_71 (fun H locs hW hS => ?_)
                      refine lv_istore (lv' := [(6, .int 0), (0, .ref a0), (1, .int p1), (2, .int p2), (3, .int p3), (4, .int p4), (5, .int p5)]) hx hb dX9_window_74 hl (by decide) rfl (fun ls hl => ?_)
                      refine lv_aload_n hx hb dX9_window_76 rfl (lv_at hl 1 rfl) ?_
                      refine zget hx hb ht inlX9 hown hK hW 0 rfl rfl 3 (by decide) zm_23 rfl dX9_window_77 ?_
                      refine zget hx hb ht inlX7 hown hK hW 1 rfl rfl 0 (by decide) zm_221 rfl dX9_window_80 ?_
                      refine lv_iload hx hb dX9_window_83 (lv_at hl 0 rfl) ?_
                      refine zaald (v := .ref a35) hx hb hK hW 3 4 rfl rfl (by unfold vp_in; decide) rfl dX9_window_85 ?_
                      refine lv_iload_n hx hb dX9_window_86 rfl (lv_at hl 2 rfl) ?_
                      refine lv_iload_n hx hb dX9_window_87 rfl (lv_at hl 3 rfl) ?_
                      refine lv_iload_n hx hb dX9_window_88 rfl (lv_at hl 4 rfl) ?_
                      refine lv_iload hx hb dX9_window_89 (lv_at hl 5 rfl) ?_
                      refine lv_iload hx hb dX9_window_91 (lv_at hl 6 rfl) ?_
                      refine zgo_v (wr := [(a0, .inr (8, [w6, w7, w8, .ref a9, w10, w11, .ref a12, w13, w14])), (a9, .inr (6, [.ref a15, .int 1, w16, w17, w18, w19, w20, w21, w22, w23, w24, w25])), (a12, .inr (1, [w26, w27, w28, w29, w30, w31, w32, w33, .ref a34])), (a15, .inl (y 4, 7, .inr (.inr (.inr (.inr (va_up (va_up (va_up (va_up (va_up (va_up (va_up (fun _ => none) 0 (some a35)) 1 (some a36)) 2 (some a37)) 3 (some a38)) 4 (some a39)) 5 (some a40)) 6 (some a41))))))), (a34, .inl (y 2, 4, .inl (fun _ => 0)))]) (zrunV (As := [.int p1, .int p2, .int p3, .int p4, .int p5]) (rest := []) ⟨hx, hb, hml, hown, ht⟩ (zc_X4_becomeNew_0 l D y a35 p1 p2 p3 p4 p5 a42) (cwV 5 ht (zgV zm_228 zm_229 zm_230 zm_83 zm_231) rfl rfl rfl (by decide +kernel) ⟨(Nat.le_of_ble_eq_true rfl), (Nat.le_of_ble_eq_true rfl)⟩) hK hE hS hA hW [5, 6] (by decide) rfl 0 rfl rfl rfl rfl hl.1 rfl (Nat.le_of_ble_eq_true rfl) dX9_window_93 (Nat.le_of_ble_eq_true rfl) (Nat.le_of_ble_eq_true rfl)) hS hA hW [5, 6] [0, 1, 2, 3, 4] rfl rfl (by decide) (by decide) (fun u H locs hw hW hS => ?_)
                      have hW : zPD D A [(a0, .inr (8, [w6, w7, w8, .ref a9, w10, w11, .ref a12, w13, w14])), (a9, .inr (6, [.ref a15, .int 1, w16, w17, w18, w19, w20, w21, w22, w23, w24, w25])), (a12, .inr (1, [w26, w27, w28, w29, w30, w31, w32, w33, .ref a34])), (a15, .inl (y 4, 7, .inr (.inr (.inr (.inr (va_up (va_up (va_up (va_up (va_up (va_up (va_up (fun _ => none) 0 (some a35)) 1 (some a36)) 2 (some a37)) 3 (some a38)) 4 (some a39)) 5 (some a40)) 6 (some a41))))))), (a34, .inl (y 2, 4, .inl (fun _ => 0))), (a35, .inr (3, [.int p1, .int p2, .int p3, .int p4, .int p5, .int 0, .ref a42])), (a42, .inl (y 0, 4, .inl (fun _ => 0)))] H := hW
                      refine lv_aload_n hx hb dX9_window_96 rfl (lv_at hl 1 rfl) ?_
                      refine zget hx hb ht inlX9 hown hK hW 0 rfl rfl 6 (by decide) zm_29 rfl dX9_window_97 ?_
                      refine zgo_v (wr := [(a0, .inr (8, [w6, w7, w8, .ref a9, w10, w11, .ref a12, w13, w14])), (a9, .inr (6, [.ref a15, .int 1, w16, w17, w18, w19, w20, w21, w22, w23, w24, w25])), (a15, .inl (y 4, 7, .inr (.inr (.inr (.inr (va_up (va_up (va_up (va_up (va_up (va_up (va_up (fun _ => none) 0 (some a35)) 1 (some a36)) 2 (some a37)) 3 (some a38)) 4 (some a39)) 5 (some a40)) 6 (some a41))))))), (a35, .inr (3, [.int p1, .int p2, .int p3, .int p4, .int p5, .int 0, .ref a42])), (a42, .inl (y 0, 4, .inl (fun _ => 0)))]) (zrunV (As := []) (rest := []) ⟨hx, hb, hml, hown, ht⟩ (zc_X1_forget_0 l D y a12 w26 w27 w28 w29 w30 w31 w32 w33 a34) (cwV 0 ht (zgV zm_232 zm_233 zm_234 zm_28 zm_235) rfl rfl rfl (by decide +kernel) ⟨(Nat.le_of_ble_eq_true rfl), (Nat.le_of_ble_eq_true rfl)⟩) hK hE hS hA hW [2, 4] (by decide) rfl 0 rfl rfl rfl rfl hl.1 rfl (Nat.le_of_ble_eq_true rfl) dX9_window_100 (Nat.le_of_ble_eq_true rfl) (Nat.le_of_ble_eq_true rfl)) hS hA hW [2, 4] [0, 1, 3, 5, 6] rfl rfl (by decide) (by decide) (fun u H locs hw hW hS => ?_)
                      have hW : zPD D A [(a0, .inr (8, [w6, w7, w8, .ref a9, w10, w11, .ref a12, w13, w14])), (a9, .inr (6, [.ref a15, .int 1, w16, w17, w18, w19, w20, w21, w22, w23, w24, w25])), (a15, .inl (y 4, 7, .inr (.inr (.inr (.inr (va_up (va_up (va_up (va_up (va_up (va_up (va_up (fun _ => none) 0 (some a35)) 1 (some a36)) 2 (some a37)) 3 (some a38)) 4 (some a39)) 5 (some a40)) 6 (some a41))))))), (a35, .inr (3, [.int p1, .int p2, .int p3, .int p4, .int p5, .int 0, .ref a42])), (a42, .inl (y 0, 4, .inl (fun _ => 0))), (a12, .inr (1, [w26, w27, w28, w29, w30, w31, w32, w33, .ref a34])), (a34, .inl (y 2, 4, .inl (fun _ => 0)))] H := hW
                      refine lv_iload hx hb dX9_window_103 (lv_at hl 0 rfl) ?_
                      exact zret_i (v := 0) hx hb hr hlocks hS () (by show _ = _; rw [if_neg c2_, if_neg c6_, if_neg c12_, if_neg c16_, if_neg c22_, if_neg c26_, if_neg c30_, if_neg c34_, if_neg c40_, if_neg c44_]) (hW.sub [] (by decide) rfl) (Nat.le_of_ble_eq_true rfl) (Nat.le_of_ble_eq_true rfl) dX9_window_105
set_option maxHeartbeats 8000000 in
set_option maxRecDepth 100000 in
theorem zc_X10_in_0 (l : Launch) (D : va_G) (y : Nat → ClassId) (a0 : Nat) (p1 : Int32) (w2 : Value) (w3 : Value) (w4 : Value) (w5 : Value) (w6 : Value) (w7 : Value) (w8 : Value) (w9 : Value) (w10 : Value) (w11 : Value) (w12 : Value) (w13 : Value) (w14 : Value) (w15 : Value) (w16 : Value) (w17 : Value) (w18 : Value) (w19 : Value) (w20 : Value) (w21 : Value) (w22 : Value) (w23 : Value) (w24 : Value) (w25 : Value) (w26 : Value) (w27 : Value) (w28 : Value) (w29 : Value) (w30 : Value) (w31 : Value) (w32 : Value) (w33 : Value) (w34 : Value) (w35 : Value) (w36 : Value) (w37 : Value) (w38 : Value) (w39 : Value) (w40 : Value) (w41 : Value) (w42 : Value) (w43 : Value) (w44 : Value) (w45 : Value) (w46 : Value) (w47 : Value) (w48 : Value) (w49 : Value) (w50 : Value) (w51 : Value) (w52 : Value) (w53 : Value) (w54 : Value) (w55 : Value) (w56 : Value) (w57 : Value) (w58 : Value) (w59 : Value) (w60 : Value) (w61 : Value) (w62 : Value) (w63 : Value) (w64 : Value) (w65 : Value) (w66 : Value) (w67 : Value) (w68 : Value) (w69 : Value) (w70 : Value) (w71 : Value) (w72 : Value) (w73 : Value) (w74 : Value) (w75 : Value) (w76 : Value) (w77 : Value) : zM l D y yX10_in (Cond.code yX10_in cX10_in 4 (some .boolean) :: zT) { frames := 0, cells := 0, slots := 0, locals := 0 } [.ref a0, .int p1, .int 0, .int 6] [(a0, .inr (9, [w2, w3, w4, w5, w6, w7, w8, w9, w10, w11, w12, w13, w14, w15, w16, w17, w18, w19, w20, w21, w22, w23, w24, w25, w26, w27, w28, w29, w30, w31, w32, w33, w34, w35, w36, w37, w38, w39, w40, w41, w42, w43, w44, w45, w46, w47, w48, w49, w50, w51, w52, w53, w54, w55, w56, w57, w58, w59, w60, w61, w62, w63, w64, w65, w66, w67, w68, w69, w70, w71, w72, w73, w74, w75, w76, w77]))] (zQi (S := Unit) D (fun r_ _ => r_ = (if p1 < 0 then 0 else (if 6 < p1 then 0 else 1))) (fun _ => [(a0, .inr (9, [w2, w3, w4, w5, w6, w7, w8, w9, w10, w11, w12, w13, w14, w15, w16, w17, w18, w19, w20, w21, w22, w23, w24, w25, w26, w27, w28, w29, w30, w31, w32, w33, w34, w35, w36, w37, w38, w39, w40, w41, w42, w43, w44, w45, w46, w47, w48, w49, w50, w51, w52, w53, w54, w55, w56, w57, w58, w59, w60, w61, w62, w63, w64, w65, w66, w67, w68, w69, w70, w71, w72, w73, w74, w75, w76, w77]))])) := by
  refine zent (cc := cX10_in) (maxL := 4) (ret := (some .boolean)) (by decide) (Nat.le_of_ble_eq_true rfl) ?_
  intro p e s m below meth c A H locs ls hx hb hml hr ht hown hlocks hin hA hK hE hS hW hl
  have hown : s.vm.findClass RX10 = some m.cls := hown
  have hW : zPD D A [(a0, .inr (9, [w2, w3, w4, w5, w6, w7, w8, w9, w10, w11, w12, w13, w14, w15, w16, w17, w18, w19, w20, w21, w22, w23, w24, w25, w26, w27, w28, w29, w30, w31, w32, w33, w34, w35, w36, w37, w38, w39, w40, w41, w42, w43, w44, w45, w46, w47, w48, w49, w50, w51, w52, w53, w54, w55, w56, w57, w58, w59, w60, w61, w62, w63, w64, w65, w66, w67, w68, w69, w70, w71, w72, w73, w74, w75, w76, w77]))] H := hW
  have hl : lv_has ls 4 [(0, .ref a0), (1, .int p1), (2, .int 0), (3, .int 6)] := hl
  refine lv_iload_n hx hb dX10_in_0 rfl (lv_at hl 1 rfl) ?_
  refine lv_iload_n hx hb dX10_in_1 rfl (lv_at hl 2 rfl) ?_
  refine lv_icmp_lt (tgt := 14) hx hb dX10_in_2 (by decide) (fun c1_ => ?_) (fun c1_ => ?_)
  · have b2_ : (-2147483648) ≤ Int32.toInt p1 ∧ Int32.toInt p1 ≤ (-1) := (by have u0 := zbnd p1; have u1 := (zi_lt _ _).mp c1_; have u2 : (0 : Int32).toInt = 0 := (by decide); omega)
    refine lv_iconst (v := 0) hx hb dX10_in_14 (by decide) ?_
    exact zret_z (v := 0) hx hb hr hlocks hS () rfl (by show _ = _; rw [if_pos c1_]) hW (Nat.le_of_ble_eq_true rfl) (Nat.le_of_ble_eq_true rfl) dX10_in_15
  · have b3_ : 0 ≤ Int32.toInt p1 ∧ Int32.toInt p1 ≤ 2147483647 := (by have u0 := zbnd p1; have u1 := (not_congr (zi_lt _ _)).mp c1_; have u2 : (0 : Int32).toInt = 0 := (by decide); omega)
    refine lv_iload_n hx hb dX10_in_5 rfl (lv_at hl 1 rfl) ?_
    refine lv_iload_n hx hb dX10_in_6 rfl (lv_at hl 3 rfl) ?_
    refine lv_icmp_gt (tgt := 14) hx hb dX10_in_7 (by decide) (fun c4_ => ?_) (fun c4_ => ?_)
    · have b5_ : 7 ≤ Int32.toInt p1 ∧ Int32.toInt p1 ≤ 2147483647 := (by have u0 := b3_; have u1 := (zi_lt _ _).mp c4_; have u2 : (6 : Int32).toInt = 6 := (by decide); omega)
      refine lv_iconst (v := 0) hx hb dX10_in_14 (by decide) ?_
      exact zret_z (v := 0) hx hb hr hlocks hS () rfl (by show _ = _; rw [if_neg c1_, if_pos c4_]) hW (Nat.le_of_ble_eq_true rfl) (Nat.le_of_ble_eq_true rfl) dX10_in_15
    · have b6_ : 0 ≤ Int32.toInt p1 ∧ Int32.toInt p1 ≤ 6 := (by have u0 := b3_; have u1 := (not_congr (zi_lt _ _)).mp c4_; have u2 : (6 : Int32).toInt = 6 := (by decide); omega)
      refine lv_iconst (v := 1) hx hb dX10_in_10 (by decide) ?_
      refine lv_goto (tgt := 15) hx hb dX10_in_11 (by decide) ?_
      exact zret_z (v := 1) hx hb hr hlocks hS () rfl (by show _ = _; rw [if_neg c1_, if_neg c4_]) hW (Nat.le_of_ble_eq_true rfl) (Nat.le_of_ble_eq_true rfl) dX10_in_15
set_option maxHeartbeats 8000000 in
set_option maxRecDepth 100000 in
theorem zc_X10_in_1 (l : Launch) (D : va_G) (y : Nat → ClassId) (a0 : Nat) (p1 : Int32) (w2 : Value) (w3 : Value) (w4 : Value) (w5 : Value) (w6 : Value) (w7 : Value) (w8 : Value) (w9 : Value) (w10 : Value) (w11 : Value) (w12 : Value) (w13 : Value) (w14 : Value) (w15 : Value) (w16 : Value) (w17 : Value) (w18 : Value) (w19 : Value) (w20 : Value) (w21 : Value) (w22 : Value) (w23 : Value) (w24 : Value) (w25 : Value) (w26 : Value) (w27 : Value) (w28 : Value) (w29 : Value) (w30 : Value) (w31 : Value) (w32 : Value) (w33 : Value) (w34 : Value) (w35 : Value) (w36 : Value) (w37 : Value) (w38 : Value) (w39 : Value) (w40 : Value) (w41 : Value) (w42 : Value) (w43 : Value) (w44 : Value) (w45 : Value) (w46 : Value) (w47 : Value) (w48 : Value) (w49 : Value) (w50 : Value) (w51 : Value) (w52 : Value) (w53 : Value) (w54 : Value) (w55 : Value) (w56 : Value) (w57 : Value) (w58 : Value) (w59 : Value) (w60 : Value) (w61 : Value) (w62 : Value) (w63 : Value) (w64 : Value) (w65 : Value) (w66 : Value) (w67 : Value) (w68 : Value) (w69 : Value) (w70 : Value) (w71 : Value) (w72 : Value) (w73 : Value) (w74 : Value) (w75 : Value) (w76 : Value) (w77 : Value) : zM l D y yX10_in (Cond.code yX10_in cX10_in 4 (some .boolean) :: zT) { frames := 0, cells := 0, slots := 0, locals := 0 } [.ref a0, .int p1, .int 0, .int 9] [(a0, .inr (9, [w2, w3, w4, w5, w6, w7, w8, w9, w10, w11, w12, w13, w14, w15, w16, w17, w18, w19, w20, w21, w22, w23, w24, w25, w26, w27, w28, w29, w30, w31, w32, w33, w34, w35, w36, w37, w38, w39, w40, w41, w42, w43, w44, w45, w46, w47, w48, w49, w50, w51, w52, w53, w54, w55, w56, w57, w58, w59, w60, w61, w62, w63, w64, w65, w66, w67, w68, w69, w70, w71, w72, w73, w74, w75, w76, w77]))] (zQi (S := Unit) D (fun r_ _ => r_ = (if p1 < 0 then 0 else (if 9 < p1 then 0 else 1))) (fun _ => [(a0, .inr (9, [w2, w3, w4, w5, w6, w7, w8, w9, w10, w11, w12, w13, w14, w15, w16, w17, w18, w19, w20, w21, w22, w23, w24, w25, w26, w27, w28, w29, w30, w31, w32, w33, w34, w35, w36, w37, w38, w39, w40, w41, w42, w43, w44, w45, w46, w47, w48, w49, w50, w51, w52, w53, w54, w55, w56, w57, w58, w59, w60, w61, w62, w63, w64, w65, w66, w67, w68, w69, w70, w71, w72, w73, w74, w75, w76, w77]))])) := by
  refine zent (cc := cX10_in) (maxL := 4) (ret := (some .boolean)) (by decide) (Nat.le_of_ble_eq_true rfl) ?_
  intro p e s m below meth c A H locs ls hx hb hml hr ht hown hlocks hin hA hK hE hS hW hl
  have hown : s.vm.findClass RX10 = some m.cls := hown
  have hW : zPD D A [(a0, .inr (9, [w2, w3, w4, w5, w6, w7, w8, w9, w10, w11, w12, w13, w14, w15, w16, w17, w18, w19, w20, w21, w22, w23, w24, w25, w26, w27, w28, w29, w30, w31, w32, w33, w34, w35, w36, w37, w38, w39, w40, w41, w42, w43, w44, w45, w46, w47, w48, w49, w50, w51, w52, w53, w54, w55, w56, w57, w58, w59, w60, w61, w62, w63, w64, w65, w66, w67, w68, w69, w70, w71, w72, w73, w74, w75, w76, w77]))] H := hW
  have hl : lv_has ls 4 [(0, .ref a0), (1, .int p1), (2, .int 0), (3, .int 9)] := hl
  refine lv_iload_n hx hb dX10_in_0 rfl (lv_at hl 1 rfl) ?_
  refine lv_iload_n hx hb dX10_in_1 rfl (lv_at hl 2 rfl) ?_
  refine lv_icmp_lt (tgt := 14) hx hb dX10_in_2 (by decide) (fun c1_ => ?_) (fun c1_ => ?_)
  · have b2_ : (-2147483648) ≤ Int32.toInt p1 ∧ Int32.toInt p1 ≤ (-1) := (by have u0 := zbnd p1; have u1 := (zi_lt _ _).mp c1_; have u2 : (0 : Int32).toInt = 0 := (by decide); omega)
    refine lv_iconst (v := 0) hx hb dX10_in_14 (by decide) ?_
    exact zret_z (v := 0) hx hb hr hlocks hS () rfl (by show _ = _; rw [if_pos c1_]) hW (Nat.le_of_ble_eq_true rfl) (Nat.le_of_ble_eq_true rfl) dX10_in_15
  · have b3_ : 0 ≤ Int32.toInt p1 ∧ Int32.toInt p1 ≤ 2147483647 := (by have u0 := zbnd p1; have u1 := (not_congr (zi_lt _ _)).mp c1_; have u2 : (0 : Int32).toInt = 0 := (by decide); omega)
    refine lv_iload_n hx hb dX10_in_5 rfl (lv_at hl 1 rfl) ?_
    refine lv_iload_n hx hb dX10_in_6 rfl (lv_at hl 3 rfl) ?_
    refine lv_icmp_gt (tgt := 14) hx hb dX10_in_7 (by decide) (fun c4_ => ?_) (fun c4_ => ?_)
    · have b5_ : 10 ≤ Int32.toInt p1 ∧ Int32.toInt p1 ≤ 2147483647 := (by have u0 := b3_; have u1 := (zi_lt _ _).mp c4_; have u2 : (9 : Int32).toInt = 9 := (by decide); omega)
      refine lv_iconst (v := 0) hx hb dX10_in_14 (by decide) ?_
      exact zret_z (v := 0) hx hb hr hlocks hS () rfl (by show _ = _; rw [if_neg c1_, if_pos c4_]) hW (Nat.le_of_ble_eq_true rfl) (Nat.le_of_ble_eq_true rfl) dX10_in_15
    · have b6_ : 0 ≤ Int32.toInt p1 ∧ Int32.toInt p1 ≤ 9 := (by have u0 := b3_; have u1 := (not_congr (zi_lt _ _)).mp c4_; have u2 : (9 : Int32).toInt = 9 := (by decide); omega)
      refine lv_iconst (v := 1) hx hb dX10_in_10 (by decide) ?_
      refine lv_goto (tgt := 15) hx hb dX10_in_11 (by decide) ?_
      exact zret_z (v := 1) hx hb hr hlocks hS () rfl (by show _ = _; rw [if_neg c1_, if_neg c4_]) hW (Nat.le_of_ble_eq_true rfl) (Nat.le_of_ble_eq_true rfl) dX10_in_15
set_option maxHeartbeats 8000000 in
set_option maxRecDepth 100000 in
theorem zc_X10_in_2 (l : Launch) (D : va_G) (y : Nat → ClassId) (a0 : Nat) (p1 : Int32) (w2 : Value) (w3 : Value) (w4 : Value) (w5 : Value) (w6 : Value) (w7 : Value) (w8 : Value) (w9 : Value) (w10 : Value) (w11 : Value) (w12 : Value) (w13 : Value) (w14 : Value) (w15 : Value) (w16 : Value) (w17 : Value) (w18 : Value) (w19 : Value) (w20 : Value) (w21 : Value) (w22 : Value) (w23 : Value) (w24 : Value) (w25 : Value) (w26 : Value) (w27 : Value) (w28 : Value) (w29 : Value) (w30 : Value) (w31 : Value) (w32 : Value) (w33 : Value) (w34 : Value) (w35 : Value) (w36 : Value) (w37 : Value) (w38 : Value) (w39 : Value) (w40 : Value) (w41 : Value) (w42 : Value) (w43 : Value) (w44 : Value) (w45 : Value) (w46 : Value) (w47 : Value) (w48 : Value) (w49 : Value) (w50 : Value) (w51 : Value) (w52 : Value) (w53 : Value) (w54 : Value) (w55 : Value) (w56 : Value) (w57 : Value) (w58 : Value) (w59 : Value) (w60 : Value) (w61 : Value) (w62 : Value) (w63 : Value) (w64 : Value) (w65 : Value) (w66 : Value) (w67 : Value) (w68 : Value) (w69 : Value) (w70 : Value) (w71 : Value) (w72 : Value) (w73 : Value) (w74 : Value) (w75 : Value) (w76 : Value) (w77 : Value) : zM l D y yX10_in (Cond.code yX10_in cX10_in 4 (some .boolean) :: zT) { frames := 0, cells := 0, slots := 0, locals := 0 } [.ref a0, .int p1, .int 0, .int 3] [(a0, .inr (9, [w2, w3, w4, w5, w6, w7, w8, w9, w10, w11, w12, w13, w14, w15, w16, w17, w18, w19, w20, w21, w22, w23, w24, w25, w26, w27, w28, w29, w30, w31, w32, w33, w34, w35, w36, w37, w38, w39, w40, w41, w42, w43, w44, w45, w46, w47, w48, w49, w50, w51, w52, w53, w54, w55, w56, w57, w58, w59, w60, w61, w62, w63, w64, w65, w66, w67, w68, w69, w70, w71, w72, w73, w74, w75, w76, w77]))] (zQi (S := Unit) D (fun r_ _ => r_ = (if p1 < 0 then 0 else (if 3 < p1 then 0 else 1))) (fun _ => [(a0, .inr (9, [w2, w3, w4, w5, w6, w7, w8, w9, w10, w11, w12, w13, w14, w15, w16, w17, w18, w19, w20, w21, w22, w23, w24, w25, w26, w27, w28, w29, w30, w31, w32, w33, w34, w35, w36, w37, w38, w39, w40, w41, w42, w43, w44, w45, w46, w47, w48, w49, w50, w51, w52, w53, w54, w55, w56, w57, w58, w59, w60, w61, w62, w63, w64, w65, w66, w67, w68, w69, w70, w71, w72, w73, w74, w75, w76, w77]))])) := by
  refine zent (cc := cX10_in) (maxL := 4) (ret := (some .boolean)) (by decide) (Nat.le_of_ble_eq_true rfl) ?_
  intro p e s m below meth c A H locs ls hx hb hml hr ht hown hlocks hin hA hK hE hS hW hl
  have hown : s.vm.findClass RX10 = some m.cls := hown
  have hW : zPD D A [(a0, .inr (9, [w2, w3, w4, w5, w6, w7, w8, w9, w10, w11, w12, w13, w14, w15, w16, w17, w18, w19, w20, w21, w22, w23, w24, w25, w26, w27, w28, w29, w30, w31, w32, w33, w34, w35, w36, w37, w38, w39, w40, w41, w42, w43, w44, w45, w46, w47, w48, w49, w50, w51, w52, w53, w54, w55, w56, w57, w58, w59, w60, w61, w62, w63, w64, w65, w66, w67, w68, w69, w70, w71, w72, w73, w74, w75, w76, w77]))] H := hW
  have hl : lv_has ls 4 [(0, .ref a0), (1, .int p1), (2, .int 0), (3, .int 3)] := hl
  refine lv_iload_n hx hb dX10_in_0 rfl (lv_at hl 1 rfl) ?_
  refine lv_iload_n hx hb dX10_in_1 rfl (lv_at hl 2 rfl) ?_
  refine lv_icmp_lt (tgt := 14) hx hb dX10_in_2 (by decide) (fun c1_ => ?_) (fun c1_ => ?_)
  · have b2_ : (-2147483648) ≤ Int32.toInt p1 ∧ Int32.toInt p1 ≤ (-1) := (by have u0 := zbnd p1; have u1 := (zi_lt _ _).mp c1_; have u2 : (0 : Int32).toInt = 0 := (by decide); omega)
    refine lv_iconst (v := 0) hx hb dX10_in_14 (by decide) ?_
    exact zret_z (v := 0) hx hb hr hlocks hS () rfl (by show _ = _; rw [if_pos c1_]) hW (Nat.le_of_ble_eq_true rfl) (Nat.le_of_ble_eq_true rfl) dX10_in_15
  · have b3_ : 0 ≤ Int32.toInt p1 ∧ Int32.toInt p1 ≤ 2147483647 := (by have u0 := zbnd p1; have u1 := (not_congr (zi_lt _ _)).mp c1_; have u2 : (0 : Int32).toInt = 0 := (by decide); omega)
    refine lv_iload_n hx hb dX10_in_5 rfl (lv_at hl 1 rfl) ?_
    refine lv_iload_n hx hb dX10_in_6 rfl (lv_at hl 3 rfl) ?_
    refine lv_icmp_gt (tgt := 14) hx hb dX10_in_7 (by decide) (fun c4_ => ?_) (fun c4_ => ?_)
    · have b5_ : 4 ≤ Int32.toInt p1 ∧ Int32.toInt p1 ≤ 2147483647 := (by have u0 := b3_; have u1 := (zi_lt _ _).mp c4_; have u2 : (3 : Int32).toInt = 3 := (by decide); omega)
      refine lv_iconst (v := 0) hx hb dX10_in_14 (by decide) ?_
      exact zret_z (v := 0) hx hb hr hlocks hS () rfl (by show _ = _; rw [if_neg c1_, if_pos c4_]) hW (Nat.le_of_ble_eq_true rfl) (Nat.le_of_ble_eq_true rfl) dX10_in_15
    · have b6_ : 0 ≤ Int32.toInt p1 ∧ Int32.toInt p1 ≤ 3 := (by have u0 := b3_; have u1 := (not_congr (zi_lt _ _)).mp c4_; have u2 : (3 : Int32).toInt = 3 := (by decide); omega)
      refine lv_iconst (v := 1) hx hb dX10_in_10 (by decide) ?_
      refine lv_goto (tgt := 15) hx hb dX10_in_11 (by decide) ?_
      exact zret_z (v := 1) hx hb hr hlocks hS () rfl (by show _ = _; rw [if_neg c1_, if_neg c4_]) hW (Nat.le_of_ble_eq_true rfl) (Nat.le_of_ble_eq_true rfl) dX10_in_15
set_option maxHeartbeats 8000000 in
set_option maxRecDepth 100000 in
theorem zc_X10_in_3 (l : Launch) (D : va_G) (y : Nat → ClassId) (a0 : Nat) (p1 : Int32) (w2 : Value) (w3 : Value) (w4 : Value) (w5 : Value) (w6 : Value) (w7 : Value) (w8 : Value) (w9 : Value) (w10 : Value) (w11 : Value) (w12 : Value) (w13 : Value) (w14 : Value) (w15 : Value) (w16 : Value) (w17 : Value) (w18 : Value) (w19 : Value) (w20 : Value) (w21 : Value) (w22 : Value) (w23 : Value) (w24 : Value) (w25 : Value) (w26 : Value) (w27 : Value) (w28 : Value) (w29 : Value) (w30 : Value) (w31 : Value) (w32 : Value) (w33 : Value) (w34 : Value) (w35 : Value) (w36 : Value) (w37 : Value) (w38 : Value) (w39 : Value) (w40 : Value) (w41 : Value) (w42 : Value) (w43 : Value) (w44 : Value) (w45 : Value) (w46 : Value) (w47 : Value) (w48 : Value) (w49 : Value) (w50 : Value) (w51 : Value) (w52 : Value) (w53 : Value) (w54 : Value) (w55 : Value) (w56 : Value) (w57 : Value) (w58 : Value) (w59 : Value) (w60 : Value) (w61 : Value) (w62 : Value) (w63 : Value) (w64 : Value) (w65 : Value) (w66 : Value) (w67 : Value) (w68 : Value) (w69 : Value) (w70 : Value) (w71 : Value) (w72 : Value) (w73 : Value) (w74 : Value) (w75 : Value) (w76 : Value) (w77 : Value) : zM l D y yX10_in (Cond.code yX10_in cX10_in 4 (some .boolean) :: zT) { frames := 0, cells := 0, slots := 0, locals := 0 } [.ref a0, .int p1, .int 0, .int 4] [(a0, .inr (9, [w2, w3, w4, w5, w6, w7, w8, w9, w10, w11, w12, w13, w14, w15, w16, w17, w18, w19, w20, w21, w22, w23, w24, w25, w26, w27, w28, w29, w30, w31, w32, w33, w34, w35, w36, w37, w38, w39, w40, w41, w42, w43, w44, w45, w46, w47, w48, w49, w50, w51, w52, w53, w54, w55, w56, w57, w58, w59, w60, w61, w62, w63, w64, w65, w66, w67, w68, w69, w70, w71, w72, w73, w74, w75, w76, w77]))] (zQi (S := Unit) D (fun r_ _ => r_ = (if p1 < 0 then 0 else (if 4 < p1 then 0 else 1))) (fun _ => [(a0, .inr (9, [w2, w3, w4, w5, w6, w7, w8, w9, w10, w11, w12, w13, w14, w15, w16, w17, w18, w19, w20, w21, w22, w23, w24, w25, w26, w27, w28, w29, w30, w31, w32, w33, w34, w35, w36, w37, w38, w39, w40, w41, w42, w43, w44, w45, w46, w47, w48, w49, w50, w51, w52, w53, w54, w55, w56, w57, w58, w59, w60, w61, w62, w63, w64, w65, w66, w67, w68, w69, w70, w71, w72, w73, w74, w75, w76, w77]))])) := by
  refine zent (cc := cX10_in) (maxL := 4) (ret := (some .boolean)) (by decide) (Nat.le_of_ble_eq_true rfl) ?_
  intro p e s m below meth c A H locs ls hx hb hml hr ht hown hlocks hin hA hK hE hS hW hl
  have hown : s.vm.findClass RX10 = some m.cls := hown
  have hW : zPD D A [(a0, .inr (9, [w2, w3, w4, w5, w6, w7, w8, w9, w10, w11, w12, w13, w14, w15, w16, w17, w18, w19, w20, w21, w22, w23, w24, w25, w26, w27, w28, w29, w30, w31, w32, w33, w34, w35, w36, w37, w38, w39, w40, w41, w42, w43, w44, w45, w46, w47, w48, w49, w50, w51, w52, w53, w54, w55, w56, w57, w58, w59, w60, w61, w62, w63, w64, w65, w66, w67, w68, w69, w70, w71, w72, w73, w74, w75, w76, w77]))] H := hW
  have hl : lv_has ls 4 [(0, .ref a0), (1, .int p1), (2, .int 0), (3, .int 4)] := hl
  refine lv_iload_n hx hb dX10_in_0 rfl (lv_at hl 1 rfl) ?_
  refine lv_iload_n hx hb dX10_in_1 rfl (lv_at hl 2 rfl) ?_
  refine lv_icmp_lt (tgt := 14) hx hb dX10_in_2 (by decide) (fun c1_ => ?_) (fun c1_ => ?_)
  · have b2_ : (-2147483648) ≤ Int32.toInt p1 ∧ Int32.toInt p1 ≤ (-1) := (by have u0 := zbnd p1; have u1 := (zi_lt _ _).mp c1_; have u2 : (0 : Int32).toInt = 0 := (by decide); omega)
    refine lv_iconst (v := 0) hx hb dX10_in_14 (by decide) ?_
    exact zret_z (v := 0) hx hb hr hlocks hS () rfl (by show _ = _; rw [if_pos c1_]) hW (Nat.le_of_ble_eq_true rfl) (Nat.le_of_ble_eq_true rfl) dX10_in_15
  · have b3_ : 0 ≤ Int32.toInt p1 ∧ Int32.toInt p1 ≤ 2147483647 := (by have u0 := zbnd p1; have u1 := (not_congr (zi_lt _ _)).mp c1_; have u2 : (0 : Int32).toInt = 0 := (by decide); omega)
    refine lv_iload_n hx hb dX10_in_5 rfl (lv_at hl 1 rfl) ?_
    refine lv_iload_n hx hb dX10_in_6 rfl (lv_at hl 3 rfl) ?_
    refine lv_icmp_gt (tgt := 14) hx hb dX10_in_7 (by decide) (fun c4_ => ?_) (fun c4_ => ?_)
    · have b5_ : 5 ≤ Int32.toInt p1 ∧ Int32.toInt p1 ≤ 2147483647 := (by have u0 := b3_; have u1 := (zi_lt _ _).mp c4_; have u2 : (4 : Int32).toInt = 4 := (by decide); omega)
      refine lv_iconst (v := 0) hx hb dX10_in_14 (by decide) ?_
      exact zret_z (v := 0) hx hb hr hlocks hS () rfl (by show _ = _; rw [if_neg c1_, if_pos c4_]) hW (Nat.le_of_ble_eq_true rfl) (Nat.le_of_ble_eq_true rfl) dX10_in_15
    · have b6_ : 0 ≤ Int32.toInt p1 ∧ Int32.toInt p1 ≤ 4 := (by have u0 := b3_; have u1 := (not_congr (zi_lt _ _)).mp c4_; have u2 : (4 : Int32).toInt = 4 := (by decide); omega)
      refine lv_iconst (v := 1) hx hb dX10_in_10 (by decide) ?_
      refine lv_goto (tgt := 15) hx hb dX10_in_11 (by decide) ?_
      exact zret_z (v := 1) hx hb hr hlocks hS () rfl (by show _ = _; rw [if_neg c1_, if_neg c4_]) hW (Nat.le_of_ble_eq_true rfl) (Nat.le_of_ble_eq_true rfl) dX10_in_15
set_option maxHeartbeats 8000000 in
set_option maxRecDepth 100000 in
theorem zc_X10_isPlace_0 (l : Launch) (D : va_G) (y : Nat → ClassId) (a0 : Nat) (p1 : Int32) (p2 : Int32) (w3 : Value) (w4 : Value) (w5 : Value) (w6 : Value) (w7 : Value) (w8 : Value) (w9 : Value) (w10 : Value) (w11 : Value) (w12 : Value) (w13 : Value) (w14 : Value) (w15 : Value) (w16 : Value) (w17 : Value) (w18 : Value) (w19 : Value) (w20 : Value) (w21 : Value) (w22 : Value) (w23 : Value) (w24 : Value) (w25 : Value) (w26 : Value) (w27 : Value) (w28 : Value) (w29 : Value) (w30 : Value) (w31 : Value) (w32 : Value) (w33 : Value) (w34 : Value) (w35 : Value) (w36 : Value) (w37 : Value) (w38 : Value) (w39 : Value) (w40 : Value) (w41 : Value) (w42 : Value) (w43 : Value) (w44 : Value) (w45 : Value) (w46 : Value) (w47 : Value) (w48 : Value) (w49 : Value) (w50 : Value) (w51 : Value) (w52 : Value) (w53 : Value) (w54 : Value) (w55 : Value) (w56 : Value) (w57 : Value) (w58 : Value) (w59 : Value) (w60 : Value) (w61 : Value) (w62 : Value) (w63 : Value) (w64 : Value) (w65 : Value) (w66 : Value) (w67 : Value) (w68 : Value) (w69 : Value) (w70 : Value) (w71 : Value) (w72 : Value) (w73 : Value) (w74 : Value) (w75 : Value) (w76 : Value) (w77 : Value) (w78 : Value) : zM l D y yX10_isPlace (Cond.code yX10_isPlace cX10_isPlace 3 (some .boolean) :: zT) { frames := 1, cells := 0, slots := 0, locals := 23 } [.ref a0, .int p1, .int p2] [(a0, .inr (9, [w3, w4, w5, w6, w7, w8, w9, w10, w11, w12, w13, w14, w15, w16, w17, w18, w19, w20, w21, w22, w23, w24, w25, w26, w27, w28, w29, w30, w31, w32, w33, w34, w35, w36, w37, w38, w39, w40, w41, w42, w43, w44, w45, w46, w47, w48, w49, w50, w51, w52, w53, w54, w55, w56, w57, w58, w59, w60, w61, w62, w63, w64, w65, w66, w67, w68, w69, w70, w71, w72, w73, w74, w75, w76, w77, w78]))] (zQi (S := Unit) D (fun r_ _ => r_ = (if p1 < 0 then 0 else (if 3 < p1 then 0 else (if p2 < 0 then 0 else (if 4 < p2 then 0 else 1))))) (fun _ => [(a0, .inr (9, [w3, w4, w5, w6, w7, w8, w9, w10, w11, w12, w13, w14, w15, w16, w17, w18, w19, w20, w21, w22, w23, w24, w25, w26, w27, w28, w29, w30, w31, w32, w33, w34, w35, w36, w37, w38, w39, w40, w41, w42, w43, w44, w45, w46, w47, w48, w49, w50, w51, w52, w53, w54, w55, w56, w57, w58, w59, w60, w61, w62, w63, w64, w65, w66, w67, w68, w69, w70, w71, w72, w73, w74, w75, w76, w77, w78]))])) := by
  refine zent (cc := cX10_isPlace) (maxL := 3) (ret := (some .boolean)) (by decide) (Nat.le_of_ble_eq_true rfl) ?_
  intro p e s m below meth c A H locs ls hx hb hml hr ht hown hlocks hin hA hK hE hS hW hl
  have hown : s.vm.findClass RX10 = some m.cls := hown
  have hW : zPD D A [(a0, .inr (9, [w3, w4, w5, w6, w7, w8, w9, w10, w11, w12, w13, w14, w15, w16, w17, w18, w19, w20, w21, w22, w23, w24, w25, w26, w27, w28, w29, w30, w31, w32, w33, w34, w35, w36, w37, w38, w39, w40, w41, w42, w43, w44, w45, w46, w47, w48, w49, w50, w51, w52, w53, w54, w55, w56, w57, w58, w59, w60, w61, w62, w63, w64, w65, w66, w67, w68, w69, w70, w71, w72, w73, w74, w75, w76, w77, w78]))] H := hW
  have hl : lv_has ls 3 [(0, .ref a0), (1, .int p1), (2, .int p2)] := hl
  refine lv_aload_n hx hb dX10_isPlace_0 rfl (lv_at hl 0 rfl) ?_
  refine lv_iload_n hx hb dX10_isPlace_1 rfl (lv_at hl 1 rfl) ?_
  refine lv_iconst (v := 0) hx hb dX10_isPlace_2 (by decide) ?_
  refine lv_iconst (v := 3) hx hb dX10_isPlace_3 (by decide) ?_
  refine zgo_i (wr := []) (zrunV (As := [.int p1, .int 0, .int 3]) (rest := []) ⟨hx, hb, hml, hown, ht⟩ (zc_X10_in_2 l D y a0 p1 w3 w4 w5 w6 w7 w8 w9 w10 w11 w12 w13 w14 w15 w16 w17 w18 w19 w20 w21 w22 w23 w24 w25 w26 w27 w28 w29 w30 w31 w32 w33 w34 w35 w36 w37 w38 w39 w40 w41 w42 w43 w44 w45 w46 w47 w48 w49 w50 w51 w52 w53 w54 w55 w56 w57 w58 w59 w60 w61 w62 w63 w64 w65 w66 w67 w68 w69 w70 w71 w72 w73 w74 w75 w76 w77 w78) (cwV 3 ht (zgV zm_240 zm_241 zm_242 zm_5 zm_243) rfl rfl rfl (by decide +kernel) ⟨(Nat.le_of_ble_eq_true rfl), (Nat.le_of_ble_eq_true rfl)⟩) hK hE hS hA hW [0] (by decide) rfl 0 rfl rfl rfl rfl hl.1 rfl (Nat.le_of_ble_eq_true rfl) dX10_isPlace_4 (Nat.le_of_ble_eq_true rfl) (Nat.le_of_ble_eq_true rfl)) hS hA hW [0] [] rfl rfl (by decide) (by decide) (fun r1_ u H locs hw hW hS => ?_)
  have hW : zPD D A [(a0, .inr (9, [w3, w4, w5, w6, w7, w8, w9, w10, w11, w12, w13, w14, w15, w16, w17, w18, w19, w20, w21, w22, w23, w24, w25, w26, w27, w28, w29, w30, w31, w32, w33, w34, w35, w36, w37, w38, w39, w40, w41, w42, w43, w44, w45, w46, w47, w48, w49, w50, w51, w52, w53, w54, w55, w56, w57, w58, w59, w60, w61, w62, w63, w64, w65, w66, w67, w68, w69, w70, w71, w72, w73, w74, w75, w76, w77, w78]))] H := hW
  have hw : r1_ = (if p1 < 0 then 0 else (if 3 < p1 then 0 else 1)) := hw
  by_cases c2_ : p1 < 0
  · have b3_ : (-2147483648) ≤ Int32.toInt p1 ∧ Int32.toInt p1 ≤ (-1) := (by have u0 := zbnd p1; have u1 := (zi_lt _ _).mp c2_; have u2 : (0 : Int32).toInt = 0 := (by decide); omega)
    rw [if_pos c2_] at hw
    subst hw
    refine lv_if_eq (tgt := 24) hx hb dX10_isPlace_7 (by decide) (fun c4_ => ?_) (fun c4_ => absurd (by decide) c4_)
    refine lv_iconst (v := 0) hx hb dX10_isPlace_24 (by decide) ?_
    exact zret_z (v := 0) hx hb hr hlocks hS () rfl (by show _ = _; rw [if_pos c2_]) hW (Nat.le_of_ble_eq_true rfl) (Nat.le_of_ble_eq_true rfl) dX10_isPlace_25
  · have b5_ : 0 ≤ Int32.toInt p1 ∧ Int32.toInt p1 ≤ 2147483647 := (by have u0 := zbnd p1; have u1 := (not_congr (zi_lt _ _)).mp c2_; have u2 : (0 : Int32).toInt = 0 := (by decide); omega)
    rw [if_neg c2_] at hw
    by_cases c6_ : 3 < p1
    · have b7_ : 4 ≤ Int32.toInt p1 ∧ Int32.toInt p1 ≤ 2147483647 := (by have u0 := b5_; have u1 := (zi_lt _ _).mp c6_; have u2 : (3 : Int32).toInt = 3 := (by decide); omega)
      rw [if_pos c6_] at hw
      subst hw
      refine lv_if_eq (tgt := 24) hx hb dX10_isPlace_7 (by decide) (fun c8_ => ?_) (fun c8_ => absurd (by decide) c8_)
      refine lv_iconst (v := 0) hx hb dX10_isPlace_24 (by decide) ?_
      exact zret_z (v := 0) hx hb hr hlocks hS () rfl (by show _ = _; rw [if_neg c2_, if_pos c6_]) hW (Nat.le_of_ble_eq_true rfl) (Nat.le_of_ble_eq_true rfl) dX10_isPlace_25
    · have b9_ : 0 ≤ Int32.toInt p1 ∧ Int32.toInt p1 ≤ 3 := (by have u0 := b5_; have u1 := (not_congr (zi_lt _ _)).mp c6_; have u2 : (3 : Int32).toInt = 3 := (by decide); omega)
      rw [if_neg c6_] at hw
      subst hw
      refine lv_if_eq (tgt := 24) hx hb dX10_isPlace_7 (by decide) (fun c10_ => absurd c10_ (by decide)) (fun c10_ => ?_)
      refine lv_aload_n hx hb dX10_isPlace_10 rfl (lv_at hl 0 rfl) ?_
      refine lv_iload_n hx hb dX10_isPlace_11 rfl (lv_at hl 2 rfl) ?_
      refine lv_iconst (v := 0) hx hb dX10_isPlace_12 (by decide) ?_
      refine lv_iconst (v := 4) hx hb dX10_isPlace_13 (by decide) ?_
      refine zgo_i (wr := []) (zrunV (As := [.int p2, .int 0, .int 4]) (rest := []) ⟨hx, hb, hml, hown, ht⟩ (zc_X10_in_3 l D y a0 p2 w3 w4 w5 w6 w7 w8 w9 w10 w11 w12 w13 w14 w15 w16 w17 w18 w19 w20 w21 w22 w23 w24 w25 w26 w27 w28 w29 w30 w31 w32 w33 w34 w35 w36 w37 w38 w39 w40 w41 w42 w43 w44 w45 w46 w47 w48 w49 w50 w51 w52 w53 w54 w55 w56 w57 w58 w59 w60 w61 w62 w63 w64 w65 w66 w67 w68 w69 w70 w71 w72 w73 w74 w75 w76 w77 w78) (cwV 3 ht (zgV zm_240 zm_241 zm_242 zm_5 zm_243) rfl rfl rfl (by decide +kernel) ⟨(Nat.le_of_ble_eq_true rfl), (Nat.le_of_ble_eq_true rfl)⟩) hK hE hS hA hW [0] (by decide) rfl 0 rfl rfl rfl rfl hl.1 rfl (Nat.le_of_ble_eq_true rfl) dX10_isPlace_14 (Nat.le_of_ble_eq_true rfl) (Nat.le_of_ble_eq_true rfl)) hS hA hW [0] [] rfl rfl (by decide) (by decide) (fun r11_ u H locs hw hW hS => ?_)
      have hW : zPD D A [(a0, .inr (9, [w3, w4, w5, w6, w7, w8, w9, w10, w11, w12, w13, w14, w15, w16, w17, w18, w19, w20, w21, w22, w23, w24, w25, w26, w27, w28, w29, w30, w31, w32, w33, w34, w35, w36, w37, w38, w39, w40, w41, w42, w43, w44, w45, w46, w47, w48, w49, w50, w51, w52, w53, w54, w55, w56, w57, w58, w59, w60, w61, w62, w63, w64, w65, w66, w67, w68, w69, w70, w71, w72, w73, w74, w75, w76, w77, w78]))] H := hW
      have hw : r11_ = (if p2 < 0 then 0 else (if 4 < p2 then 0 else 1)) := hw
      by_cases c12_ : p2 < 0
      · have b13_ : (-2147483648) ≤ Int32.toInt p2 ∧ Int32.toInt p2 ≤ (-1) := (by have u0 := zbnd p2; have u1 := (zi_lt _ _).mp c12_; have u2 : (0 : Int32).toInt = 0 := (by decide); omega)
        rw [if_pos c12_] at hw
        subst hw
        refine lv_if_eq (tgt := 24) hx hb dX10_isPlace_17 (by decide) (fun c14_ => ?_) (fun c14_ => absurd (by decide) c14_)
        refine lv_iconst (v := 0) hx hb dX10_isPlace_24 (by decide) ?_
        exact zret_z (v := 0) hx hb hr hlocks hS () rfl (by show _ = _; rw [if_neg c2_, if_neg c6_, if_pos c12_]) hW (Nat.le_of_ble_eq_true rfl) (Nat.le_of_ble_eq_true rfl) dX10_isPlace_25
      · have b15_ : 0 ≤ Int32.toInt p2 ∧ Int32.toInt p2 ≤ 2147483647 := (by have u0 := zbnd p2; have u1 := (not_congr (zi_lt _ _)).mp c12_; have u2 : (0 : Int32).toInt = 0 := (by decide); omega)
        rw [if_neg c12_] at hw
        by_cases c16_ : 4 < p2
        · have b17_ : 5 ≤ Int32.toInt p2 ∧ Int32.toInt p2 ≤ 2147483647 := (by have u0 := b15_; have u1 := (zi_lt _ _).mp c16_; have u2 : (4 : Int32).toInt = 4 := (by decide); omega)
          rw [if_pos c16_] at hw
          subst hw
          refine lv_if_eq (tgt := 24) hx hb dX10_isPlace_17 (by decide) (fun c18_ => ?_) (fun c18_ => absurd (by decide) c18_)
          refine lv_iconst (v := 0) hx hb dX10_isPlace_24 (by decide) ?_
          exact zret_z (v := 0) hx hb hr hlocks hS () rfl (by show _ = _; rw [if_neg c2_, if_neg c6_, if_neg c12_, if_pos c16_]) hW (Nat.le_of_ble_eq_true rfl) (Nat.le_of_ble_eq_true rfl) dX10_isPlace_25
        · have b19_ : 0 ≤ Int32.toInt p2 ∧ Int32.toInt p2 ≤ 4 := (by have u0 := b15_; have u1 := (not_congr (zi_lt _ _)).mp c16_; have u2 : (4 : Int32).toInt = 4 := (by decide); omega)
          rw [if_neg c16_] at hw
          subst hw
          refine lv_if_eq (tgt := 24) hx hb dX10_isPlace_17 (by decide) (fun c20_ => absurd c20_ (by decide)) (fun c20_ => ?_)
          refine lv_iconst (v := 1) hx hb dX10_isPlace_20 (by decide) ?_
          refine lv_goto (tgt := 25) hx hb dX10_isPlace_21 (by decide) ?_
          exact zret_z (v := 1) hx hb hr hlocks hS () rfl (by show _ = _; rw [if_neg c2_, if_neg c6_, if_neg c12_, if_neg c16_]) hW (Nat.le_of_ble_eq_true rfl) (Nat.le_of_ble_eq_true rfl) dX10_isPlace_25
set_option maxHeartbeats 8000000 in
set_option maxRecDepth 100000 in
theorem zc_X10_in_4 (l : Launch) (D : va_G) (y : Nat → ClassId) (a0 : Nat) (p1 : Int32) (w2 : Value) (w3 : Value) (w4 : Value) (w5 : Value) (w6 : Value) (w7 : Value) (w8 : Value) (w9 : Value) (w10 : Value) (w11 : Value) (w12 : Value) (w13 : Value) (w14 : Value) (w15 : Value) (w16 : Value) (w17 : Value) (w18 : Value) (w19 : Value) (w20 : Value) (w21 : Value) (w22 : Value) (w23 : Value) (w24 : Value) (w25 : Value) (w26 : Value) (w27 : Value) (w28 : Value) (w29 : Value) (w30 : Value) (w31 : Value) (w32 : Value) (w33 : Value) (w34 : Value) (w35 : Value) (w36 : Value) (w37 : Value) (w38 : Value) (w39 : Value) (w40 : Value) (w41 : Value) (w42 : Value) (w43 : Value) (w44 : Value) (w45 : Value) (w46 : Value) (w47 : Value) (w48 : Value) (w49 : Value) (w50 : Value) (w51 : Value) (w52 : Value) (w53 : Value) (w54 : Value) (w55 : Value) (w56 : Value) (w57 : Value) (w58 : Value) (w59 : Value) (w60 : Value) (w61 : Value) (w62 : Value) (w63 : Value) (w64 : Value) (w65 : Value) (w66 : Value) (w67 : Value) (w68 : Value) (w69 : Value) (w70 : Value) (w71 : Value) (w72 : Value) (w73 : Value) (w74 : Value) (w75 : Value) (w76 : Value) (w77 : Value) : zM l D y yX10_in (Cond.code yX10_in cX10_in 4 (some .boolean) :: zT) { frames := 0, cells := 0, slots := 0, locals := 0 } [.ref a0, .int p1, .int 1, .int 9] [(a0, .inr (9, [w2, w3, w4, w5, w6, w7, w8, w9, w10, w11, w12, w13, w14, w15, w16, w17, w18, w19, w20, w21, w22, w23, w24, w25, w26, w27, w28, w29, w30, w31, w32, w33, w34, w35, w36, w37, w38, w39, w40, w41, w42, w43, w44, w45, w46, w47, w48, w49, w50, w51, w52, w53, w54, w55, w56, w57, w58, w59, w60, w61, w62, w63, w64, w65, w66, w67, w68, w69, w70, w71, w72, w73, w74, w75, w76, w77]))] (zQi (S := Unit) D (fun r_ _ => r_ = (if p1 < 1 then 0 else (if 9 < p1 then 0 else 1))) (fun _ => [(a0, .inr (9, [w2, w3, w4, w5, w6, w7, w8, w9, w10, w11, w12, w13, w14, w15, w16, w17, w18, w19, w20, w21, w22, w23, w24, w25, w26, w27, w28, w29, w30, w31, w32, w33, w34, w35, w36, w37, w38, w39, w40, w41, w42, w43, w44, w45, w46, w47, w48, w49, w50, w51, w52, w53, w54, w55, w56, w57, w58, w59, w60, w61, w62, w63, w64, w65, w66, w67, w68, w69, w70, w71, w72, w73, w74, w75, w76, w77]))])) := by
  refine zent (cc := cX10_in) (maxL := 4) (ret := (some .boolean)) (by decide) (Nat.le_of_ble_eq_true rfl) ?_
  intro p e s m below meth c A H locs ls hx hb hml hr ht hown hlocks hin hA hK hE hS hW hl
  have hown : s.vm.findClass RX10 = some m.cls := hown
  have hW : zPD D A [(a0, .inr (9, [w2, w3, w4, w5, w6, w7, w8, w9, w10, w11, w12, w13, w14, w15, w16, w17, w18, w19, w20, w21, w22, w23, w24, w25, w26, w27, w28, w29, w30, w31, w32, w33, w34, w35, w36, w37, w38, w39, w40, w41, w42, w43, w44, w45, w46, w47, w48, w49, w50, w51, w52, w53, w54, w55, w56, w57, w58, w59, w60, w61, w62, w63, w64, w65, w66, w67, w68, w69, w70, w71, w72, w73, w74, w75, w76, w77]))] H := hW
  have hl : lv_has ls 4 [(0, .ref a0), (1, .int p1), (2, .int 1), (3, .int 9)] := hl
  refine lv_iload_n hx hb dX10_in_0 rfl (lv_at hl 1 rfl) ?_
  refine lv_iload_n hx hb dX10_in_1 rfl (lv_at hl 2 rfl) ?_
  refine lv_icmp_lt (tgt := 14) hx hb dX10_in_2 (by decide) (fun c1_ => ?_) (fun c1_ => ?_)
  · have b2_ : (-2147483648) ≤ Int32.toInt p1 ∧ Int32.toInt p1 ≤ 0 := (by have u0 := zbnd p1; have u1 := (zi_lt _ _).mp c1_; have u2 : (1 : Int32).toInt = 1 := (by decide); omega)
    refine lv_iconst (v := 0) hx hb dX10_in_14 (by decide) ?_
    exact zret_z (v := 0) hx hb hr hlocks hS () rfl (by show _ = _; rw [if_pos c1_]) hW (Nat.le_of_ble_eq_true rfl) (Nat.le_of_ble_eq_true rfl) dX10_in_15
  · have b3_ : 1 ≤ Int32.toInt p1 ∧ Int32.toInt p1 ≤ 2147483647 := (by have u0 := zbnd p1; have u1 := (not_congr (zi_lt _ _)).mp c1_; have u2 : (1 : Int32).toInt = 1 := (by decide); omega)
    refine lv_iload_n hx hb dX10_in_5 rfl (lv_at hl 1 rfl) ?_
    refine lv_iload_n hx hb dX10_in_6 rfl (lv_at hl 3 rfl) ?_
    refine lv_icmp_gt (tgt := 14) hx hb dX10_in_7 (by decide) (fun c4_ => ?_) (fun c4_ => ?_)
    · have b5_ : 10 ≤ Int32.toInt p1 ∧ Int32.toInt p1 ≤ 2147483647 := (by have u0 := b3_; have u1 := (zi_lt _ _).mp c4_; have u2 : (9 : Int32).toInt = 9 := (by decide); omega)
      refine lv_iconst (v := 0) hx hb dX10_in_14 (by decide) ?_
      exact zret_z (v := 0) hx hb hr hlocks hS () rfl (by show _ = _; rw [if_neg c1_, if_pos c4_]) hW (Nat.le_of_ble_eq_true rfl) (Nat.le_of_ble_eq_true rfl) dX10_in_15
    · have b6_ : 1 ≤ Int32.toInt p1 ∧ Int32.toInt p1 ≤ 9 := (by have u0 := b3_; have u1 := (not_congr (zi_lt _ _)).mp c4_; have u2 : (9 : Int32).toInt = 9 := (by decide); omega)
      refine lv_iconst (v := 1) hx hb dX10_in_10 (by decide) ?_
      refine lv_goto (tgt := 15) hx hb dX10_in_11 (by decide) ?_
      exact zret_z (v := 1) hx hb hr hlocks hS () rfl (by show _ = _; rw [if_neg c1_, if_neg c4_]) hW (Nat.le_of_ble_eq_true rfl) (Nat.le_of_ble_eq_true rfl) dX10_in_15
set_option maxHeartbeats 8000000 in
set_option maxRecDepth 100000 in
theorem zc_X10_window_0 (l : Launch) (D : va_G) (y : Nat → ClassId) (a0 : Nat) (p1 : Int32) (p2 : Int32) (p3 : Int32) (p4 : Int32) (p5 : Int32) (w6 : Value) (w7 : Value) (w8 : Value) (w9 : Value) (w10 : Value) (w11 : Value) (a12 : Nat) (a13 : Nat) (a14 : Nat) (a15 : Nat) (a16 : Nat) (a17 : Nat) (a18 : Nat) (w19 : Value) (w20 : Value) (w21 : Value) (w22 : Value) (w23 : Value) (w24 : Value) (w25 : Value) (w26 : Value) (w27 : Value) (w28 : Value) (w29 : Value) (w30 : Value) (w31 : Value) (w32 : Value) (w33 : Value) (w34 : Value) (w35 : Value) (w36 : Value) (w37 : Value) (w38 : Value) (w39 : Value) (w40 : Value) (w41 : Value) (w42 : Value) (w43 : Value) (w44 : Value) (w45 : Value) (w46 : Value) (w47 : Value) (w48 : Value) (w49 : Value) (w50 : Value) (w51 : Value) (w52 : Value) (w53 : Value) (w54 : Value) (w55 : Value) (w56 : Value) (w57 : Value) (w58 : Value) (w59 : Value) (w60 : Value) (w61 : Value) (w62 : Value) (w63 : Value) (w64 : Value) (w65 : Value) (w66 : Value) (w67 : Value) (w68 : Value) (w69 : Value) (w70 : Value) (w71 : Value) (w72 : Value) (w73 : Value) (w74 : Value) (w75 : Value) (w76 : Value) (w77 : Value) (w78 : Value) (w79 : Value) (w80 : Value) : zM l D y yX10_window (Cond.code yX10_window cX10_window 7 (some .int) :: zT) { frames := 2, cells := 0, slots := 0, locals := 45 } [.ref a0, .int p1, .int p2, .int p3, .int p4, .int p5] [(a0, .inr (9, [.int 0, w6, w7, w8, w9, w10, w11, .ref a12, .ref a13, .ref a14, .ref a15, .ref a16, .ref a17, .ref a18, w19, w20, w21, w22, w23, w24, w25, w26, w27, w28, w29, w30, w31, w32, w33, w34, w35, w36, w37, w38, w39, w40, w41, w42, w43, w44, w45, w46, w47, w48, w49, w50, w51, w52, w53, w54, w55, w56, w57, w58, w59, w60, w61, w62, w63, w64, w65, w66, w67, w68, w69, w70, w71, w72, w73, w74, w75, w76, w77, w78, w79, w80])), (a12, .inl (y 0, 7, .inl (fun _ => 0))), (a13, .inl (y 0, 7, .inl (fun _ => 0))), (a14, .inl (y 0, 7, .inl (fun _ => 0))), (a15, .inl (y 0, 7, .inl (fun _ => 0))), (a16, .inl (y 0, 7, .inl (fun _ => 0))), (a17, .inl (y 0, 28, .inl (fun _ => 0))), (a18, .inl (y 2, 7, .inl (fun _ => 0)))] (zQi (S := Unit) D (fun r_ _ => r_ = (if p1 < 0 then (-1) else (if 6 < p1 then (-1) else (if p2 < 0 then (-2) else (if 9 < p2 then (-2) else (if p3 < 0 then (-2) else (if 3 < p3 then (-2) else (if p4 < 0 then (-2) else (if 4 < p4 then (-2) else (if p5 < 1 then (-2) else (if 9 < p5 then (-2) else 0))))))))))) (fun _ => [])) := by
  refine zent (cc := cX10_window) (maxL := 7) (ret := (some .int)) (by decide) (Nat.le_of_ble_eq_true rfl) ?_
  intro p e s m below meth c A H locs ls hx hb hml hr ht hown hlocks hin hA hK hE hS hW hl
  have hown : s.vm.findClass RX10 = some m.cls := hown
  have hW : zPD D A [(a0, .inr (9, [.int 0, w6, w7, w8, w9, w10, w11, .ref a12, .ref a13, .ref a14, .ref a15, .ref a16, .ref a17, .ref a18, w19, w20, w21, w22, w23, w24, w25, w26, w27, w28, w29, w30, w31, w32, w33, w34, w35, w36, w37, w38, w39, w40, w41, w42, w43, w44, w45, w46, w47, w48, w49, w50, w51, w52, w53, w54, w55, w56, w57, w58, w59, w60, w61, w62, w63, w64, w65, w66, w67, w68, w69, w70, w71, w72, w73, w74, w75, w76, w77, w78, w79, w80])), (a12, .inl (y 0, 7, .inl (fun _ => 0))), (a13, .inl (y 0, 7, .inl (fun _ => 0))), (a14, .inl (y 0, 7, .inl (fun _ => 0))), (a15, .inl (y 0, 7, .inl (fun _ => 0))), (a16, .inl (y 0, 7, .inl (fun _ => 0))), (a17, .inl (y 0, 28, .inl (fun _ => 0))), (a18, .inl (y 2, 7, .inl (fun _ => 0)))] H := hW
  have hl : lv_has ls 7 [(0, .ref a0), (1, .int p1), (2, .int p2), (3, .int p3), (4, .int p4), (5, .int p5)] := hl
  refine lv_aload_n hx hb dX10_window_0 rfl (lv_at hl 0 rfl) ?_
  refine lv_iload_n hx hb dX10_window_1 rfl (lv_at hl 1 rfl) ?_
  refine lv_iconst (v := 0) hx hb dX10_window_2 (by decide) ?_
  refine lv_bipush (v := 6) hx hb dX10_window_3 (by decide) ?_
  refine zgo_i (wr := [(a12, .inl (y 0, 7, .inl (fun _ => 0))), (a13, .inl (y 0, 7, .inl (fun _ => 0))), (a14, .inl (y 0, 7, .inl (fun _ => 0))), (a15, .inl (y 0, 7, .inl (fun _ => 0))), (a16, .inl (y 0, 7, .inl (fun _ => 0))), (a17, .inl (y 0, 28, .inl (fun _ => 0))), (a18, .inl (y 2, 7, .inl (fun _ => 0)))]) (zrunV (As := [.int p1, .int 0, .int 6]) (rest := []) ⟨hx, hb, hml, hown, ht⟩ (zc_X10_in_0 l D y a0 p1 (.int 0) w6 w7 w8 w9 w10 w11 (.ref a12) (.ref a13) (.ref a14) (.ref a15) (.ref a16) (.ref a17) (.ref a18) w19 w20 w21 w22 w23 w24 w25 w26 w27 w28 w29 w30 w31 w32 w33 w34 w35 w36 w37 w38 w39 w40 w41 w42 w43 w44 w45 w46 w47 w48 w49 w50 w51 w52 w53 w54 w55 w56 w57 w58 w59 w60 w61 w62 w63 w64 w65 w66 w67 w68 w69 w70 w71 w72 w73 w74 w75 w76 w77 w78 w79 w80) (cwV 3 ht (zgV zm_240 zm_241 zm_242 zm_5 zm_243) rfl rfl rfl (by decide +kernel) ⟨(Nat.le_of_ble_eq_true rfl), (Nat.le_of_ble_eq_true rfl)⟩) hK hE hS hA hW [0] (by decide) rfl 0 rfl rfl rfl rfl hl.1 rfl (Nat.le_of_ble_eq_true rfl) dX10_window_5 (Nat.le_of_ble_eq_true rfl) (Nat.le_of_ble_eq_true rfl)) hS hA hW [0] [1, 2, 3, 4, 5, 6, 7] rfl rfl (by decide) (by decide) (fun r1_ u H locs hw hW hS => ?_)
  have hW : zPD D A [(a12, .inl (y 0, 7, .inl (fun _ => 0))), (a13, .inl (y 0, 7, .inl (fun _ => 0))), (a14, .inl (y 0, 7, .inl (fun _ => 0))), (a15, .inl (y 0, 7, .inl (fun _ => 0))), (a16, .inl (y 0, 7, .inl (fun _ => 0))), (a17, .inl (y 0, 28, .inl (fun _ => 0))), (a18, .inl (y 2, 7, .inl (fun _ => 0))), (a0, .inr (9, [.int 0, w6, w7, w8, w9, w10, w11, .ref a12, .ref a13, .ref a14, .ref a15, .ref a16, .ref a17, .ref a18, w19, w20, w21, w22, w23, w24, w25, w26, w27, w28, w29, w30, w31, w32, w33, w34, w35, w36, w37, w38, w39, w40, w41, w42, w43, w44, w45, w46, w47, w48, w49, w50, w51, w52, w53, w54, w55, w56, w57, w58, w59, w60, w61, w62, w63, w64, w65, w66, w67, w68, w69, w70, w71, w72, w73, w74, w75, w76, w77, w78, w79, w80]))] H := hW
  have hw : r1_ = (if p1 < 0 then 0 else (if 6 < p1 then 0 else 1)) := hw
  by_cases c2_ : p1 < 0
  · have b3_ : (-2147483648) ≤ Int32.toInt p1 ∧ Int32.toInt p1 ≤ (-1) := (by have u0 := zbnd p1; have u1 := (zi_lt _ _).mp c2_; have u2 : (0 : Int32).toInt = 0 := (by decide); omega)
    rw [if_pos c2_] at hw
    subst hw
    refine lv_if_ne (tgt := 13) hx hb dX10_window_8 (by decide) (fun c4_ => absurd (by decide) c4_) (fun c4_ => ?_)
    refine lv_iconst (v := (-1)) hx hb dX10_window_11 (by decide) ?_
    exact zret_i (v := (-1)) hx hb hr hlocks hS () (by show _ = _; rw [if_pos c2_]) (hW.sub [] (by decide) rfl) (Nat.le_of_ble_eq_true rfl) (Nat.le_of_ble_eq_true rfl) dX10_window_12
  · have b5_ : 0 ≤ Int32.toInt p1 ∧ Int32.toInt p1 ≤ 2147483647 := (by have u0 := zbnd p1; have u1 := (not_congr (zi_lt _ _)).mp c2_; have u2 : (0 : Int32).toInt = 0 := (by decide); omega)
    rw [if_neg c2_] at hw
    by_cases c6_ : 6 < p1
    · have b7_ : 7 ≤ Int32.toInt p1 ∧ Int32.toInt p1 ≤ 2147483647 := (by have u0 := b5_; have u1 := (zi_lt _ _).mp c6_; have u2 : (6 : Int32).toInt = 6 := (by decide); omega)
      rw [if_pos c6_] at hw
      subst hw
      refine lv_if_ne (tgt := 13) hx hb dX10_window_8 (by decide) (fun c8_ => absurd (by decide) c8_) (fun c8_ => ?_)
      refine lv_iconst (v := (-1)) hx hb dX10_window_11 (by decide) ?_
      exact zret_i (v := (-1)) hx hb hr hlocks hS () (by show _ = _; rw [if_neg c2_, if_pos c6_]) (hW.sub [] (by decide) rfl) (Nat.le_of_ble_eq_true rfl) (Nat.le_of_ble_eq_true rfl) dX10_window_12
    · have b9_ : 0 ≤ Int32.toInt p1 ∧ Int32.toInt p1 ≤ 6 := (by have u0 := b5_; have u1 := (not_congr (zi_lt _ _)).mp c6_; have u2 : (6 : Int32).toInt = 6 := (by decide); omega)
      rw [if_neg c6_] at hw
      subst hw
      refine lv_if_ne (tgt := 13) hx hb dX10_window_8 (by decide) (fun c10_ => ?_) (fun c10_ => absurd c10_ (by decide))
      refine lv_aload_n hx hb dX10_window_13 rfl (lv_at hl 0 rfl) ?_
      refine lv_iload_n hx hb dX10_window_14 rfl (lv_at hl 2 rfl) ?_
      refine lv_iconst (v := 0) hx hb dX10_window_15 (by decide) ?_
      refine lv_bipush (v := 9) hx hb dX10_window_16 (by decide) ?_
      refine zgo_i (wr := [(a12, .inl (y 0, 7, .inl (fun _ => 0))), (a13, .inl (y 0, 7, .inl (fun _ => 0))), (a14, .inl (y 0, 7, .inl (fun _ => 0))), (a15, .inl (y 0, 7, .inl (fun _ => 0))), (a16, .inl (y 0, 7, .inl (fun _ => 0))), (a17, .inl (y 0, 28, .inl (fun _ => 0))), (a18, .inl (y 2, 7, .inl (fun _ => 0)))]) (zrunV (As := [.int p2, .int 0, .int 9]) (rest := []) ⟨hx, hb, hml, hown, ht⟩ (zc_X10_in_1 l D y a0 p2 (.int 0) w6 w7 w8 w9 w10 w11 (.ref a12) (.ref a13) (.ref a14) (.ref a15) (.ref a16) (.ref a17) (.ref a18) w19 w20 w21 w22 w23 w24 w25 w26 w27 w28 w29 w30 w31 w32 w33 w34 w35 w36 w37 w38 w39 w40 w41 w42 w43 w44 w45 w46 w47 w48 w49 w50 w51 w52 w53 w54 w55 w56 w57 w58 w59 w60 w61 w62 w63 w64 w65 w66 w67 w68 w69 w70 w71 w72 w73 w74 w75 w76 w77 w78 w79 w80) (cwV 3 ht (zgV zm_240 zm_241 zm_242 zm_5 zm_243) rfl rfl rfl (by decide +kernel) ⟨(Nat.le_of_ble_eq_true rfl), (Nat.le_of_ble_eq_true rfl)⟩) hK hE hS hA hW [7] (by decide) rfl 0 rfl rfl rfl rfl hl.1 rfl (Nat.le_of_ble_eq_true rfl) dX10_window_18 (Nat.le_of_ble_eq_true rfl) (Nat.le_of_ble_eq_true rfl)) hS hA hW [7] [0, 1, 2, 3, 4, 5, 6] rfl rfl (by decide) (by decide) (fun r11_ u H locs hw hW hS => ?_)
      have hW : zPD D A [(a12, .inl (y 0, 7, .inl (fun _ => 0))), (a13, .inl (y 0, 7, .inl (fun _ => 0))), (a14, .inl (y 0, 7, .inl (fun _ => 0))), (a15, .inl (y 0, 7, .inl (fun _ => 0))), (a16, .inl (y 0, 7, .inl (fun _ => 0))), (a17, .inl (y 0, 28, .inl (fun _ => 0))), (a18, .inl (y 2, 7, .inl (fun _ => 0))), (a0, .inr (9, [.int 0, w6, w7, w8, w9, w10, w11, .ref a12, .ref a13, .ref a14, .ref a15, .ref a16, .ref a17, .ref a18, w19, w20, w21, w22, w23, w24, w25, w26, w27, w28, w29, w30, w31, w32, w33, w34, w35, w36, w37, w38, w39, w40, w41, w42, w43, w44, w45, w46, w47, w48, w49, w50, w51, w52, w53, w54, w55, w56, w57, w58, w59, w60, w61, w62, w63, w64, w65, w66, w67, w68, w69, w70, w71, w72, w73, w74, w75, w76, w77, w78, w79, w80]))] H := hW
      have hw : r11_ = (if p2 < 0 then 0 else (if 9 < p2 then 0 else 1)) := hw
      by_cases c12_ : p2 < 0
      · have b13_ : (-2147483648) ≤ Int32.toInt p2 ∧ Int32.toInt p2 ≤ (-1) := (by have u0 := zbnd p2; have u1 := (zi_lt _ _).mp c12_; have u2 : (0 : Int32).toInt = 0 := (by decide); omega)
        rw [if_pos c12_] at hw
        subst hw
        refine lv_if_eq (tgt := 46) hx hb dX10_window_21 (by decide) (fun c14_ => ?_) (fun c14_ => absurd (by decide) c14_)
        refine lv_bipush (v := (-2)) hx hb dX10_window_46 (by decide) ?_
        exact zret_i (v := (-2)) hx hb hr hlocks hS () (by show _ = _; rw [if_neg c2_, if_neg c6_, if_pos c12_]) (hW.sub [] (by decide) rfl) (Nat.le_of_ble_eq_true rfl) (Nat.le_of_ble_eq_true rfl) dX10_window_48
      · have b15_ : 0 ≤ Int32.toInt p2 ∧ Int32.toInt p2 ≤ 2147483647 := (by have u0 := zbnd p2; have u1 := (not_congr (zi_lt _ _)).mp c12_; have u2 : (0 : Int32).toInt = 0 := (by decide); omega)
        rw [if_neg c12_] at hw
        by_cases c16_ : 9 < p2
        · have b17_ : 10 ≤ Int32.toInt p2 ∧ Int32.toInt p2 ≤ 2147483647 := (by have u0 := b15_; have u1 := (zi_lt _ _).mp c16_; have u2 : (9 : Int32).toInt = 9 := (by decide); omega)
          rw [if_pos c16_] at hw
          subst hw
          refine lv_if_eq (tgt := 46) hx hb dX10_window_21 (by decide) (fun c18_ => ?_) (fun c18_ => absurd (by decide) c18_)
          refine lv_bipush (v := (-2)) hx hb dX10_window_46 (by decide) ?_
          exact zret_i (v := (-2)) hx hb hr hlocks hS () (by show _ = _; rw [if_neg c2_, if_neg c6_, if_neg c12_, if_pos c16_]) (hW.sub [] (by decide) rfl) (Nat.le_of_ble_eq_true rfl) (Nat.le_of_ble_eq_true rfl) dX10_window_48
        · have b19_ : 0 ≤ Int32.toInt p2 ∧ Int32.toInt p2 ≤ 9 := (by have u0 := b15_; have u1 := (not_congr (zi_lt _ _)).mp c16_; have u2 : (9 : Int32).toInt = 9 := (by decide); omega)
          rw [if_neg c16_] at hw
          subst hw
          refine lv_if_eq (tgt := 46) hx hb dX10_window_21 (by decide) (fun c20_ => absurd c20_ (by decide)) (fun c20_ => ?_)
          refine lv_aload_n hx hb dX10_window_24 rfl (lv_at hl 0 rfl) ?_
          refine lv_iload_n hx hb dX10_window_25 rfl (lv_at hl 3 rfl) ?_
          refine lv_iload hx hb dX10_window_26 (lv_at hl 4 rfl) ?_
          refine zgo_i (wr := [(a12, .inl (y 0, 7, .inl (fun _ => 0))), (a13, .inl (y 0, 7, .inl (fun _ => 0))), (a14, .inl (y 0, 7, .inl (fun _ => 0))), (a15, .inl (y 0, 7, .inl (fun _ => 0))), (a16, .inl (y 0, 7, .inl (fun _ => 0))), (a17, .inl (y 0, 28, .inl (fun _ => 0))), (a18, .inl (y 2, 7, .inl (fun _ => 0)))]) (zrunV (As := [.int p3, .int p4]) (rest := []) ⟨hx, hb, hml, hown, ht⟩ (zc_X10_isPlace_0 l D y a0 p3 p4 (.int 0) w6 w7 w8 w9 w10 w11 (.ref a12) (.ref a13) (.ref a14) (.ref a15) (.ref a16) (.ref a17) (.ref a18) w19 w20 w21 w22 w23 w24 w25 w26 w27 w28 w29 w30 w31 w32 w33 w34 w35 w36 w37 w38 w39 w40 w41 w42 w43 w44 w45 w46 w47 w48 w49 w50 w51 w52 w53 w54 w55 w56 w57 w58 w59 w60 w61 w62 w63 w64 w65 w66 w67 w68 w69 w70 w71 w72 w73 w74 w75 w76 w77 w78 w79 w80) (cwV 2 ht (zgV zm_244 zm_245 zm_246 zm_5 zm_247) rfl rfl rfl (by decide +kernel) ⟨(Nat.le_of_ble_eq_true rfl), (Nat.le_of_ble_eq_true rfl)⟩) hK hE hS hA hW [7] (by decide) rfl 0 rfl rfl rfl rfl hl.1 rfl (Nat.le_of_ble_eq_true rfl) dX10_window_28 (Nat.le_of_ble_eq_true rfl) (Nat.le_of_ble_eq_true rfl)) hS hA hW [7] [0, 1, 2, 3, 4, 5, 6] rfl rfl (by decide) (by decide) (fun r21_ u H locs hw hW hS => ?_)
          have hW : zPD D A [(a12, .inl (y 0, 7, .inl (fun _ => 0))), (a13, .inl (y 0, 7, .inl (fun _ => 0))), (a14, .inl (y 0, 7, .inl (fun _ => 0))), (a15, .inl (y 0, 7, .inl (fun _ => 0))), (a16, .inl (y 0, 7, .inl (fun _ => 0))), (a17, .inl (y 0, 28, .inl (fun _ => 0))), (a18, .inl (y 2, 7, .inl (fun _ => 0))), (a0, .inr (9, [.int 0, w6, w7, w8, w9, w10, w11, .ref a12, .ref a13, .ref a14, .ref a15, .ref a16, .ref a17, .ref a18, w19, w20, w21, w22, w23, w24, w25, w26, w27, w28, w29, w30, w31, w32, w33, w34, w35, w36, w37, w38, w39, w40, w41, w42, w43, w44, w45, w46, w47, w48, w49, w50, w51, w52, w53, w54, w55, w56, w57, w58, w59, w60, w61, w62, w63, w64, w65, w66, w67, w68, w69, w70, w71, w72, w73, w74, w75, w76, w77, w78, w79, w80]))] H := hW
          have hw : r21_ = (if p3 < 0 then 0 else (if 3 < p3 then 0 else (if p4 < 0 then 0 else (if 4 < p4 then 0 else 1)))) := hw
          by_cases c22_ : p3 < 0
          · have b23_ : (-2147483648) ≤ Int32.toInt p3 ∧ Int32.toInt p3 ≤ (-1) := (by have u0 := zbnd p3; have u1 := (zi_lt _ _).mp c22_; have u2 : (0 : Int32).toInt = 0 := (by decide); omega)
            rw [if_pos c22_] at hw
            subst hw
            refine lv_if_eq (tgt := 46) hx hb dX10_window_31 (by decide) (fun c24_ => ?_) (fun c24_ => absurd (by decide) c24_)
            refine lv_bipush (v := (-2)) hx hb dX10_window_46 (by decide) ?_
            exact zret_i (v := (-2)) hx hb hr hlocks hS () (by show _ = _; rw [if_neg c2_, if_neg c6_, if_neg c12_, if_neg c16_, if_pos c22_]) (hW.sub [] (by decide) rfl) (Nat.le_of_ble_eq_true rfl) (Nat.le_of_ble_eq_true rfl) dX10_window_48
          · have b25_ : 0 ≤ Int32.toInt p3 ∧ Int32.toInt p3 ≤ 2147483647 := (by have u0 := zbnd p3; have u1 := (not_congr (zi_lt _ _)).mp c22_; have u2 : (0 : Int32).toInt = 0 := (by decide); omega)
            rw [if_neg c22_] at hw
            by_cases c26_ : 3 < p3
            · have b27_ : 4 ≤ Int32.toInt p3 ∧ Int32.toInt p3 ≤ 2147483647 := (by have u0 := b25_; have u1 := (zi_lt _ _).mp c26_; have u2 : (3 : Int32).toInt = 3 := (by decide); omega)
              rw [if_pos c26_] at hw
              subst hw
              refine lv_if_eq (tgt := 46) hx hb dX10_window_31 (by decide) (fun c28_ => ?_) (fun c28_ => absurd (by decide) c28_)
              refine lv_bipush (v := (-2)) hx hb dX10_window_46 (by decide) ?_
              exact zret_i (v := (-2)) hx hb hr hlocks hS () (by show _ = _; rw [if_neg c2_, if_neg c6_, if_neg c12_, if_neg c16_, if_neg c22_, if_pos c26_]) (hW.sub [] (by decide) rfl) (Nat.le_of_ble_eq_true rfl) (Nat.le_of_ble_eq_true rfl) dX10_window_48
            · have b29_ : 0 ≤ Int32.toInt p3 ∧ Int32.toInt p3 ≤ 3 := (by have u0 := b25_; have u1 := (not_congr (zi_lt _ _)).mp c26_; have u2 : (3 : Int32).toInt = 3 := (by decide); omega)
              rw [if_neg c26_] at hw
              by_cases c30_ : p4 < 0
              · have b31_ : (-2147483648) ≤ Int32.toInt p4 ∧ Int32.toInt p4 ≤ (-1) := (by have u0 := zbnd p4; have u1 := (zi_lt _ _).mp c30_; have u2 : (0 : Int32).toInt = 0 := (by decide); omega)
                rw [if_pos c30_] at hw
                subst hw
                refine lv_if_eq (tgt := 46) hx hb dX10_window_31 (by decide) (fun c32_ => ?_) (fun c32_ => absurd (by decide) c32_)
                refine lv_bipush (v := (-2)) hx hb dX10_window_46 (by decide) ?_
                exact zret_i (v := (-2)) hx hb hr hlocks hS () (by show _ = _; rw [if_neg c2_, if_neg c6_, if_neg c12_, if_neg c16_, if_neg c22_, if_neg c26_, if_pos c30_]) (hW.sub [] (by decide) rfl) (Nat.le_of_ble_eq_true rfl) (Nat.le_of_ble_eq_true rfl) dX10_window_48
              · have b33_ : 0 ≤ Int32.toInt p4 ∧ Int32.toInt p4 ≤ 2147483647 := (by have u0 := zbnd p4; have u1 := (not_congr (zi_lt _ _)).mp c30_; have u2 : (0 : Int32).toInt = 0 := (by decide); omega)
                rw [if_neg c30_] at hw
                by_cases c34_ : 4 < p4
                · have b35_ : 5 ≤ Int32.toInt p4 ∧ Int32.toInt p4 ≤ 2147483647 := (by have u0 := b33_; have u1 := (zi_lt _ _).mp c34_; have u2 : (4 : Int32).toInt = 4 := (by decide); omega)
                  rw [if_pos c34_] at hw
                  subst hw
                  refine lv_if_eq (tgt := 46) hx hb dX10_window_31 (by decide) (fun c36_ => ?_) (fun c36_ => absurd (by decide) c36_)
                  refine lv_bipush (v := (-2)) hx hb dX10_window_46 (by decide) ?_
                  exact zret_i (v := (-2)) hx hb hr hlocks hS () (by show _ = _; rw [if_neg c2_, if_neg c6_, if_neg c12_, if_neg c16_, if_neg c22_, if_neg c26_, if_neg c30_, if_pos c34_]) (hW.sub [] (by decide) rfl) (Nat.le_of_ble_eq_true rfl) (Nat.le_of_ble_eq_true rfl) dX10_window_48
                · have b37_ : 0 ≤ Int32.toInt p4 ∧ Int32.toInt p4 ≤ 4 := (by have u0 := b33_; have u1 := (not_congr (zi_lt _ _)).mp c34_; have u2 : (4 : Int32).toInt = 4 := (by decide); omega)
                  rw [if_neg c34_] at hw
                  subst hw
                  refine lv_if_eq (tgt := 46) hx hb dX10_window_31 (by decide) (fun c38_ => absurd c38_ (by decide)) (fun c38_ => ?_)
                  refine lv_aload_n hx hb dX10_window_34 rfl (lv_at hl 0 rfl) ?_
                  refine lv_iload hx hb dX10_window_35 (lv_at hl 5 rfl) ?_
                  refine lv_iconst (v := 1) hx hb dX10_window_37 (by decide) ?_
                  refine lv_bipush (v := 9) hx hb dX10_window_38 (by decide) ?_
                  refine zgo_i (wr := [(a12, .inl (y 0, 7, .inl (fun _ => 0))), (a13, .inl (y 0, 7, .inl (fun _ => 0))), (a14, .inl (y 0, 7, .inl (fun _ => 0))), (a15, .inl (y 0, 7, .inl (fun _ => 0))), (a16, .inl (y 0, 7, .inl (fun _ => 0))), (a17, .inl (y 0, 28, .inl (fun _ => 0))), (a18, .inl (y 2, 7, .inl (fun _ => 0)))]) (zrunV (As := [.int p5, .int 1, .int 9]) (rest := []) ⟨hx, hb, hml, hown, ht⟩ (zc_X10_in_4 l D y a0 p5 (.int 0) w6 w7 w8 w9 w10 w11 (.ref a12) (.ref a13) (.ref a14) (.ref a15) (.ref a16) (.ref a17) (.ref a18) w19 w20 w21 w22 w23 w24 w25 w26 w27 w28 w29 w30 w31 w32 w33 w34 w35 w36 w37 w38 w39 w40 w41 w42 w43 w44 w45 w46 w47 w48 w49 w50 w51 w52 w53 w54 w55 w56 w57 w58 w59 w60 w61 w62 w63 w64 w65 w66 w67 w68 w69 w70 w71 w72 w73 w74 w75 w76 w77 w78 w79 w80) (cwV 3 ht (zgV zm_240 zm_241 zm_242 zm_5 zm_243) rfl rfl rfl (by decide +kernel) ⟨(Nat.le_of_ble_eq_true rfl), (Nat.le_of_ble_eq_true rfl)⟩) hK hE hS hA hW [7] (by decide) rfl 0 rfl rfl rfl rfl hl.1 rfl (Nat.le_of_ble_eq_true rfl) dX10_window_40 (Nat.le_of_ble_eq_true rfl) (Nat.le_of_ble_eq_true rfl)) hS hA hW [7] [0, 1, 2, 3, 4, 5, 6] rfl rfl (by decide) (by decide) (fun r39_ u H locs hw hW hS => ?_)
                  have hW : zPD D A [(a12, .inl (y 0, 7, .inl (fun _ => 0))), (a13, .inl (y 0, 7, .inl (fun _ => 0))), (a14, .inl (y 0, 7, .inl (fun _ => 0))), (a15, .inl (y 0, 7, .inl (fun _ => 0))), (a16, .inl (y 0, 7, .inl (fun _ => 0))), (a17, .inl (y 0, 28, .inl (fun _ => 0))), (a18, .inl (y 2, 7, .inl (fun _ => 0))), (a0, .inr (9, [.int 0, w6, w7, w8, w9, w10, w11, .ref a12, .ref a13, .ref a14, .ref a15, .ref a16, .ref a17, .ref a18, w19, w20, w21, w22, w23, w24, w25, w26, w27, w28, w29, w30, w31, w32, w33, w34, w35, w36, w37, w38, w39, w40, w41, w42, w43, w44, w45, w46, w47, w48, w49, w50, w51, w52, w53, w54, w55, w56, w57, w58, w59, w60, w61, w62, w63, w64, w65, w66, w67, w68, w69, w70, w71, w72, w73, w74, w75, w76, w77, w78, w79, w80]))] H := hW
                  have hw : r39_ = (if p5 < 1 then 0 else (if 9 < p5 then 0 else 1)) := hw
                  by_cases c40_ : p5 < 1
                  · have b41_ : (-2147483648) ≤ Int32.toInt p5 ∧ Int32.toInt p5 ≤ 0 := (by have u0 := zbnd p5; have u1 := (zi_lt _ _).mp c40_; have u2 : (1 : Int32).toInt = 1 := (by decide); omega)
                    rw [if_pos c40_] at hw
                    subst hw
                    refine lv_if_ne (tgt := 49) hx hb dX10_window_43 (by decide) (fun c42_ => absurd (by decide) c42_) (fun c42_ => ?_)
                    refine lv_bipush (v := (-2)) hx hb dX10_window_46 (by decide) ?_
                    exact zret_i (v := (-2)) hx hb hr hlocks hS () (by show _ = _; rw [if_neg c2_, if_neg c6_, if_neg c12_, if_neg c16_, if_neg c22_, if_neg c26_, if_neg c30_, if_neg c34_, if_pos c40_]) (hW.sub [] (by decide) rfl) (Nat.le_of_ble_eq_true rfl) (Nat.le_of_ble_eq_true rfl) dX10_window_48
                  · have b43_ : 1 ≤ Int32.toInt p5 ∧ Int32.toInt p5 ≤ 2147483647 := (by have u0 := zbnd p5; have u1 := (not_congr (zi_lt _ _)).mp c40_; have u2 : (1 : Int32).toInt = 1 := (by decide); omega)
                    rw [if_neg c40_] at hw
                    by_cases c44_ : 9 < p5
                    · have b45_ : 10 ≤ Int32.toInt p5 ∧ Int32.toInt p5 ≤ 2147483647 := (by have u0 := b43_; have u1 := (zi_lt _ _).mp c44_; have u2 : (9 : Int32).toInt = 9 := (by decide); omega)
                      rw [if_pos c44_] at hw
                      subst hw
                      refine lv_if_ne (tgt := 49) hx hb dX10_window_43 (by decide) (fun c46_ => absurd (by decide) c46_) (fun c46_ => ?_)
                      refine lv_bipush (v := (-2)) hx hb dX10_window_46 (by decide) ?_
                      exact zret_i (v := (-2)) hx hb hr hlocks hS () (by show _ = _; rw [if_neg c2_, if_neg c6_, if_neg c12_, if_neg c16_, if_neg c22_, if_neg c26_, if_neg c30_, if_neg c34_, if_neg c40_, if_pos c44_]) (hW.sub [] (by decide) rfl) (Nat.le_of_ble_eq_true rfl) (Nat.le_of_ble_eq_true rfl) dX10_window_48
                    · have b47_ : 1 ≤ Int32.toInt p5 ∧ Int32.toInt p5 ≤ 9 := (by have u0 := b43_; have u1 := (not_congr (zi_lt _ _)).mp c44_; have u2 : (9 : Int32).toInt = 9 := (by decide); omega)
                      rw [if_neg c44_] at hw
                      subst hw
                      refine lv_if_ne (tgt := 49) hx hb dX10_window_43 (by decide) (fun c48_ => ?_) (fun c48_ => absurd c48_ (by decide))
                      refine lv_aload_n hx hb dX10_window_49 rfl (lv_at hl 0 rfl) ?_
                      refine zget hx hb ht inlX10 hown hK hW 7 rfl rfl 0 (by decide) zm_140 rfl dX10_window_50 ?_
                      refine lv_bipush (v := 7) hx hb dX10_window_53 (by decide) ?_
                      refine lv_icmp_ne (tgt := 61) hx hb dX10_window_55 (by decide) (fun c49_ => ?_) (fun c49_ => absurd c49_ (by decide))
                      refine lv_aload_n hx hb dX10_window_61 rfl (lv_at hl 0 rfl) ?_
                      refine zget hx hb ht inlX10 hown hK hW 7 rfl rfl 7 (by decide) zm_147 rfl dX10_window_62 ?_
                      refine lv_aload_n hx hb dX10_window_65 rfl (lv_at hl 0 rfl) ?_
                      refine zget hx hb ht inlX10 hown hK hW 7 rfl rfl 0 (by decide) zm_140 rfl dX10_window_66 ?_
                      refine lv_iload_n hx hb dX10_window_69 rfl (lv_at hl 1 rfl) ?_
                      refine ziast (ws' := [(a12, .inl (y 0, 7, .inl (upd (fun _ => 0) 0 p1))), (a13, .inl (y 0, 7, .inl (fun _ => 0))), (a14, .inl (y 0, 7, .inl (fun _ => 0))), (a15, .inl (y 0, 7, .inl (fun _ => 0))), (a16, .inl (y 0, 7, .inl (fun _ => 0))), (a17, .inl (y 0, 28, .inl (fun _ => 0))), (a18, .inl (y 2, 7, .inl (fun _ => 0))), (a0, .inr (9, [.int 0, w6, w7, w8, w9, w10, w11, .ref a12, .ref a13, .ref a14, .ref a15, .ref a16, .ref a17, .ref a18, w19, w20, w21, w22, w23, w24, w25, w26, w27, w28, w29, w30, w31, w32, w33, w34, w35, w36, w37, w38, w39, w40, w41, w42, w43, w44, w45, w46, w47, w48, w49, w50, w51, w52, w53, w54, w55, w56, w57, w58, w59, w60, w61, w62, w63, w64, w65, w66, w67, w68, w69, w70, w71, w72, w73, w74, w75, w76, w77, w78, w79, w80]))]) hx hb hK hS hW 0 rfl (by unfold vp_in; decide) rfl rfl dX10_window_70 (fun H locs hW hS => ?_)
                      refine lv_aload_n hx hb dX10_window_71 rfl (lv_at hl 0 rfl) ?_
                      refine zget hx hb ht inlX10 hown hK hW 7 rfl rfl 8 (by decide) zm_148 rfl dX10_window_72 ?_
                      refine lv_aload_n hx hb dX10_window_75 rfl (lv_at hl 0 rfl) ?_
                      refine zget hx hb ht inlX10 hown hK hW 7 rfl rfl 0 (by decide) zm_140 rfl dX10_window_76 ?_
                      refine lv_iload_n hx hb dX10_window_79 rfl (lv_at hl 2 rfl) ?_
                      refine ziast (ws' := [(a12, .inl (y 0, 7, .inl (upd (fun _ => 0) 0 p1))), (a13, .inl (y 0, 7, .inl (upd (fun _ => 0) 0 p2))), (a14, .inl (y 0, 7, .inl (fun _ => 0))), (a15, .inl (y 0, 7, .inl (fun _ => 0))), (a16, .inl (y 0, 7, .inl (fun _ => 0))), (a17, .inl (y 0, 28, .inl (fun _ => 0))), (a18, .inl (y 2, 7, .inl (fun _ => 0))), (a0, .inr (9, [.int 0, w6, w7, w8, w9, w10, w11, .ref a12, .ref a13, .ref a14, .ref a15, .ref a16, .ref a17, .ref a18, w19, w20, w21, w22, w23, w24, w25, w26, w27, w28, w29, w30, w31, w32, w33, w34, w35, w36, w37, w38, w39, w40, w41, w42, w43, w44, w45, w46, w47, w48, w49, w50, w51, w52, w53, w54, w55, w56, w57, w58, w59, w60, w61, w62, w63, w64, w65, w66, w67, w68, w69, w70, w71, w72, w73, w74, w75, w76, w77, w78, w79, w80]))]) hx hb hK hS hW 1 rfl (by unfold vp_in; decide) rfl rfl dX10_window_80 (fun H locs hW hS => ?_)
                      refine lv_aload_n hx hb dX10_window_81 rfl (lv_at hl 0 rfl) ?_
                      refine zget hx hb ht inlX10 hown hK hW 7 rfl rfl 9 (by decide) zm_149 rfl dX10_window_82 ?_
                      refine lv_aload_n hx hb dX10_window_85 rfl (lv_at hl 0 rfl) ?_
                      refine zget hx hb ht inlX10 hown hK hW 7 rfl rfl 0 (by decide) zm_140 rfl dX10_window_86 ?_
                      refine lv_iload_n hx hb dX10_window_89 rfl (lv_at hl 3 rfl) ?_
                      refine ziast (ws' := [(a12, .inl (y 0, 7, .inl (upd (fun _ => 0) 0 p1))), (a13, .inl (y 0, 7, .inl (upd (fun _ => 0) 0 p2))), (a14, .inl (y 0, 7, .inl (upd (fun _ => 0) 0 p3))), (a15, .inl (y 0, 7, .inl (fun _ => 0))), (a16, .inl (y 0, 7, .inl (fun _ => 0))), (a17, .inl (y 0, 28, .inl (fun _ => 0))), (a18, .inl (y 2, 7, .inl (fun _ => 0))), (a0, .inr (9, [.int 0, w6, w7, w8, w9, w10, w11, .ref a12, .ref a13, .ref a14, .ref a15, .ref a16, .ref a17, .ref a18, w19, w20, w21, w22, w23, w24, w25, w26, w27, w28, w29, w30, w31, w32, w33, w34, w35, w36, w37, w38, w39, w40, w41, w42, w43, w44, w45, w46, w47, w48, w49, w50, w51, w52, w53, w54, w55, w56, w57, w58, w59, w60, w61, w62, w63, w64, w65, w66, w67, w68, w69, w70, w71, w72, w73, w74, w75, w76, w77, w78, w79, w80]))]) hx hb hK hS hW 2 rfl (by unfold vp_in; decide) rfl rfl dX10_window_90 (fun H locs hW hS => ?_)
                      refine lv_aload_n hx hb dX10_window_91 rfl (lv_at hl 0 rfl) ?_
                      refine zget hx hb ht inlX10 hown hK hW 7 rfl rfl 10 (by decide) zm_150 rfl dX10_window_92 ?_
                      refine lv_aload_n hx hb dX10_window_95 rfl (lv_at hl 0 rfl) ?_
                      refine zget hx hb ht inlX10 hown hK hW 7 rfl rfl 0 (by decide) zm_140 rfl dX10_window_96 ?_
                      refine lv_iload hx hb dX10_window_99 (lv_at hl 4 rfl) ?_
                      refine ziast (ws' := [(a12, .inl (y 0, 7, .inl (upd (fun _ => 0) 0 p1))), (a13, .inl (y 0, 7, .inl (upd (fun _ => 0) 0 p2))), (a14, .inl (y 0, 7, .inl (upd (fun _ => 0) 0 p3))), (a15, .inl (y 0, 7, .inl (upd (fun _ => 0) 0 p4))), (a16, .inl (y 0, 7, .inl (fun _ => 0))), (a17, .inl (y 0, 28, .inl (fun _ => 0))), (a18, .inl (y 2, 7, .inl (fun _ => 0))), (a0, .inr (9, [.int 0, w6, w7, w8, w9, w10, w11, .ref a12, .ref a13, .ref a14, .ref a15, .ref a16, .ref a17, .ref a18, w19, w20, w21, w22, w23, w24, w25, w26, w27, w28, w29, w30, w31, w32, w33, w34, w35, w36, w37, w38, w39, w40, w41, w42, w43, w44, w45, w46, w47, w48, w49, w50, w51, w52, w53, w54, w55, w56, w57, w58, w59, w60, w61, w62, w63, w64, w65, w66, w67, w68, w69, w70, w71, w72, w73, w74, w75, w76, w77, w78, w79, w80]))]) hx hb hK hS hW 3 rfl (by unfold vp_in; decide) rfl rfl dX10_window_101 (fun H locs hW hS => ?_)
                      refine lv_aload_n hx hb dX10_window_102 rfl (lv_at hl 0 rfl) ?_
                      refine zget hx hb ht inlX10 hown hK hW 7 rfl rfl 11 (by decide) zm_151 rfl dX10_window_103 ?_
                      refine lv_aload_n hx hb dX10_window_106 rfl (lv_at hl 0 rfl) ?_
                      refine zget hx hb ht inlX10 hown hK hW 7 rfl rfl 0 (by decide) zm_140 rfl dX10_window_107 ?_
                      refine lv_iload hx hb dX10_window_110 (lv_at hl 5 rfl) ?_
                      refine ziast (ws' := [(a12, .inl (y 0, 7, .inl (upd (fun _ => 0) 0 p1))), (a13, .inl (y 0, 7, .inl (upd (fun _ => 0) 0 p2))), (a14, .inl (y 0, 7, .inl (upd (fun _ => 0) 0 p3))), (a15, .inl (y 0, 7, .inl (upd (fun _ => 0) 0 p4))), (a16, .inl (y 0, 7, .inl (upd (fun _ => 0) 0 p5))), (a17, .inl (y 0, 28, .inl (fun _ => 0))), (a18, .inl (y 2, 7, .inl (fun _ => 0))), (a0, .inr (9, [.int 0, w6, w7, w8, w9, w10, w11, .ref a12, .ref a13, .ref a14, .ref a15, .ref a16, .ref a17, .ref a18, w19, w20, w21, w22, w23, w24, w25, w26, w27, w28, w29, w30, w31, w32, w33, w34, w35, w36, w37, w38, w39, w40, w41, w42, w43, w44, w45, w46, w47, w48, w49, w50, w51, w52, w53, w54, w55, w56, w57, w58, w59, w60, w61, w62, w63, w64, w65, w66, w67, w68, w69, w70, w71, w72, w73, w74, w75, w76, w77, w78, w79, w80]))]) hx hb hK hS hW 4 rfl (by unfold vp_in; decide) rfl rfl dX10_window_112 (fun H locs hW hS => ?_)
                      refine lv_aload_n hx hb dX10_window_113 rfl (lv_at hl 0 rfl) ?_
                      refine zget hx hb ht inlX10 hown hK hW 7 rfl rfl 13 (by decide) zm_153 rfl dX10_window_114 ?_
                      refine lv_aload_n hx hb dX10_window_117 rfl (lv_at hl 0 rfl) ?_
                      refine zget hx hb ht inlX10 hown hK hW 7 rfl rfl 0 (by decide) zm_140 rfl dX10_window_118 ?_
                      refine lv_iconst (v := 0) hx hb dX10_window_121 (by decide) ?_
                      refine zzast0 hx hb hK hS hW 6 rfl (by unfold vp_in; decide) (zupdB0 _) dX10_window_122 (fun H locs hW hS => ?_)
                      refine lv_iconst (v := 0) hx hb dX10_window_123 (by decide) ?_
                      refine lv_istore (lv' := [(6, .int 0), (0, .ref a0), (1, .int p1), (2, .int p2), (3, .int p3), (4, .int p4), (5, .int p5)]) hx hb dX10_window_124 hl (by decide) rfl (fun ls hl => ?_)
                      refine lv_iload hx hb dX10_window_126 (lv_at hl 0 rfl) ?_
                      refine lv_iconst (v := 4) hx hb dX10_window_128 (by decide) ?_
                      refine lv_icmp_ge (tgt := 153) hx hb dX10_window_129 (by decide) (fun c50_ => absurd c50_ (by decide)) (fun c50_ => ?_)
                      refine lv_aload_n hx hb dX10_window_132 rfl (lv_at hl 1 rfl) ?_
                      refine zget hx hb ht inlX10 hown hK hW 7 rfl rfl 12 (by decide) zm_152 rfl dX10_window_133 ?_
                      refine lv_iconst (v := 4) hx hb dX10_window_136 (by decide) ?_
                      refine lv_aload_n hx hb dX10_window_137 rfl (lv_at hl 1 rfl) ?_
                      refine zget hx hb ht inlX10 hown hK hW 7 rfl rfl 0 (by decide) zm_140 rfl dX10_window_138 ?_
                      refine lv_imul hx hb dX10_window_141 ?_
                      refine ztop (w := .int 0) (congrArg Value.int (by decide)) ?_
                      refine lv_iload hx hb dX10_window_142 (lv_at hl 0 rfl) ?_
                      refine lv_iadd hx hb dX10_window_144 ?_
                      refine ztop (w := .int 0) (congrArg Value.int (by decide)) ?_
                      refine lv_iconst (v := 0) hx hb dX10_window_145 (by decide) ?_
                      refine ziast0 hx hb hK hS hW 5 rfl (by unfold vp_in; decide) (zupd0 _) dX10_window_146 (fun H locs hW hS => ?_)
                      refine lv_iinc (k := 0) (v := 1) (lv' := [(6, .int 1), (0, .ref a0), (1, .int p1), (2, .int p2), (3, .int p3), (4, .int p4), (5, .int p5)]) hx hb dX10_window_147 hl rfl (by decide) (by decide) rfl (fun ls hl => ?_)
                      refine lv_goto (tgt := 126) hx hb dX10_window_150 (by decide) ?_
                      refine lv_iload hx hb dX10_window_126 (lv_at hl 0 rfl) ?_
                      refine lv_iconst (v := 4) hx hb dX10_window_128 (by decide) ?_
                      refine lv_icmp_ge (tgt := 153) hx hb dX10_window_129 (by decide) (fun c51_ => absurd c51_ (by decide)) (fun c51_ => ?_)
                      refine lv_aload_n hx hb dX10_window_132 rfl (lv_at hl 1 rfl) ?_
                      refine zget hx hb ht inlX10 hown hK hW 7 rfl rfl 12 (by decide) zm_152 rfl dX10_window_133 ?_
                      refine lv_iconst (v := 4) hx hb dX10_window_136 (by decide) ?_
                      refine lv_aload_n hx hb dX10_window_137 rfl (lv_at hl 1 rfl) ?_
                      refine zget hx hb ht inlX10 hown hK hW 7 rfl rfl 0 (by decide) zm_140 rfl dX10_window_138 ?_
                      refine lv_imul hx hb dX10_window_141 ?_
                      refine ztop (w := .int 0) (congrArg Value.int (by decide)) ?_
                      refine lv_iload hx hb dX10_window_142 (lv_at hl 0 rfl) ?_
                      refine lv_iadd hx hb dX10_window_144 ?_
                      refine ztop (w := .int 1) (congrArg Value.int (by decide)) ?_
                      refine lv_iconst (v := 0) hx hb dX10_window_145 (by decide) ?_
                      refine ziast0 hx hb hK hS hW 5 rfl (by unfold vp_in; decide) (zupd0 _) dX10_window_146 (fun H locs hW hS => ?_)
                      refine lv_iinc (k := 0) (v := 2) (lv' := [(6, .int 2), (0, .ref a0), (1, .int p1), (2, .int p2), (3, .int p3), (4, .int p4), (5, .int p5)]) hx hb dX10_window_147 hl rfl (by decide) (by decide) rfl (fun ls hl => ?_)
                      refine lv_goto (tgt := 126) hx hb dX10_window_150 (by decide) ?_
                      refine lv_iload hx hb dX10_window_126 (lv_at hl 0 rfl) ?_
                      refine lv_iconst (v := 4) hx hb dX10_window_128 (by decide) ?_
                      refine lv_icmp_ge (tgt := 153) hx hb dX10_window_129 (by decide) (fun c52_ => absurd c52_ (by decide)) (fun c52_ => ?_)
                      refine lv_aload_n hx hb dX10_window_132 rfl (lv_at hl 1 rfl) ?_
                      refine zget hx hb ht inlX10 hown hK hW 7 rfl rfl 12 (by decide) zm_152 rfl dX10_window_133 ?_
                      refine lv_iconst (v := 4) hx hb dX10_window_136 (by decide) ?_
                      refine lv_aload_n hx hb dX10_window_137 rfl (lv_at hl 1 rfl) ?_
                      refine zget hx hb ht inlX10 hown hK hW 7 rfl rfl 0 (by decide) zm_140 rfl dX10_window_138 ?_
                      refine lv_imul hx hb dX10_window_141 ?_
                      refine ztop (w := .int 0) (congrArg Value.int (by decide)) ?_
                      refine lv_iload hx hb dX10_window_142 (lv_at hl 0 rfl) ?_
                      refine lv_iadd hx hb dX10_window_144 ?_
                      refine ztop (w := .int 2) (congrArg Value.int (by decide)) ?_
                      refine lv_iconst (v := 0) hx hb dX10_window_145 (by decide) ?_
                      refine ziast0 hx hb hK hS hW 5 rfl (by unfold vp_in; decide) (zupd0 _) dX10_window_146 (fun H locs hW hS => ?_)
                      refine lv_iinc (k := 0) (v := 3) (lv' := [(6, .int 3), (0, .ref a0), (1, .int p1), (2, .int p2), (3, .int p3), (4, .int p4), (5, .int p5)]) hx hb dX10_window_147 hl rfl (by decide) (by decide) rfl (fun ls hl => ?_)
                      refine lv_goto (tgt := 126) hx hb dX10_window_150 (by decide) ?_
                      refine lv_iload hx hb dX10_window_126 (lv_at hl 0 rfl) ?_
                      refine lv_iconst (v := 4) hx hb dX10_window_128 (by decide) ?_
                      refine lv_icmp_ge (tgt := 153) hx hb dX10_window_129 (by decide) (fun c53_ => absurd c53_ (by decide)) (fun c53_ => ?_)
                      refine lv_aload_n hx hb dX10_window_132 rfl (lv_at hl 1 rfl) ?_
                      refine zget hx hb ht inlX10 hown hK hW 7 rfl rfl 12 (by decide) zm_152 rfl dX10_window_133 ?_
                      refine lv_iconst (v := 4) hx hb dX10_window_136 (by decide) ?_
                      refine lv_aload_n hx hb dX10_window_137 rfl (lv_at hl 1 rfl) ?_
                      refine zget hx hb ht inlX10 hown hK hW 7 rfl rfl 0 (by decide) zm_140 rfl dX10_window_138 ?_
                      refine lv_imul hx hb dX10_window_141 ?_
                      refine ztop (w := .int 0) (congrArg Value.int (by decide)) ?_
                      refine lv_iload hx hb dX10_window_142 (lv_at hl 0 rfl) ?_
                      refine lv_iadd hx hb dX10_window_144 ?_
                      refine ztop (w := .int 3) (congrArg Value.int (by decide)) ?_
                      refine lv_iconst (v := 0) hx hb dX10_window_145 (by decide) ?_
                      refine ziast0 hx hb hK hS hW 5 rfl (by unfold vp_in; decide) (zupd0 _) dX10_window_146 (fun H locs hW hS => ?_)
                      refine lv_iinc (k := 0) (v := 4) (lv' := [(6, .int 4), (0, .ref a0), (1, .int p1), (2, .int p2), (3, .int p3), (4, .int p4), (5, .int p5)]) hx hb dX10_window_147 hl rfl (by decide) (by decide) rfl (fun ls hl => ?_)
                      refine lv_goto (tgt := 126) hx hb dX10_window_150 (by decide) ?_
                      refine lv_iload hx hb dX10_window_126 (lv_at hl 0 rfl) ?_
                      refine lv_iconst (v := 4) hx hb dX10_window_128 (by decide) ?_
                      refine lv_icmp_ge (tgt := 153) hx hb dX10_window_129 (by decide) (fun c54_ => ?_) (fun c54_ => absurd (by decide) c54_)
                      refine lv_aload_n hx hb dX10_window_153 rfl (lv_at hl 1 rfl) ?_
                      refine lv_dup hx hb dX10_window_154 rfl ?_
                      refine zget hx hb ht inlX10 hown hK hW 7 rfl rfl 0 (by decide) zm_140 rfl dX10_window_155 ?_
                      refine lv_iconst (v := 1) hx hb dX10_window_158 (by decide) ?_
                      refine lv_iadd hx hb dX10_window_159 ?_
                      refine ztop (w := .int 1) (congrArg Value.int (by decide)) ?_
                      refine zput (ws' := [(a12, .inl (y 0, 7, .inl (upd (fun _ => 0) 0 p1))), (a13, .inl (y 0, 7, .inl (upd (fun _ => 0) 0 p2))), (a14, .inl (y 0, 7, .inl (upd (fun _ => 0) 0 p3))), (a15, .inl (y 0, 7, .inl (upd (fun _ => 0) 0 p4))), (a16, .inl (y 0, 7, .inl (upd (fun _ => 0) 0 p5))), (a17, .inl (y 0, 28, .inl (fun _ => 0))), (a18, .inl (y 2, 7, .inl (fun _ => 0))), (a0, .inr (9, [.int 1, w6, w7, w8, w9, w10, w11, .ref a12, .ref a13, .ref a14, .ref a15, .ref a16, .ref a17, .ref a18, w19, w20, w21, w22, w23, w24, w25, w26, w27, w28, w29, w30, w31, w32, w33, w34, w35, w36, w37, w38, w39, w40, w41, w42, w43, w44, w45, w46, w47, w48, w49, w50, w51, w52, w53, w54, w55, w56, w57, w58, w59, w60, w61, w62, w63, w64, w65, w66, w67, w68, w69, w70, w71, w72, w73, w74, w75, w76, w77, w78, w79, w80]))]) hx hb ht inlX10 tyX10 tyX10_ok nmX10 hown hK hS hW 7 rfl rfl 0 (by decide) zm_140 rfl rfl rfl (Nat.le_of_ble_eq_true rfl) rfl dX10_window_160 (fun H locs hW hS => ?_)
                      refine lv_aload_n hx hb dX10_window_163 rfl (lv_at hl 1 rfl) ?_
                      refine zget hx hb ht inlX10 hown hK hW 7 rfl rfl 0 (by decide) zm_140 rfl dX10_window_164 ?_
                      refine lv_iconst (v := 1) hx hb dX10_window_167 (by decide) ?_
                      refine lv_isub hx hb dX10_window_168 ?_
                      refine ztop (w := .int 0) (congrArg Value.int (by decide)) ?_
                      exact zret_i (v := 0) hx hb hr hlocks hS () (by show _ = _; rw [if_neg c2_, if_neg c6_, if_neg c12_, if_neg c16_, if_neg c22_, if_neg c26_, if_neg c30_, if_neg c34_, if_neg c40_, if_neg c44_]) (hW.sub [] (by decide) rfl) (Nat.le_of_ble_eq_true rfl) (Nat.le_of_ble_eq_true rfl) dX10_window_169
set_option maxHeartbeats 8000000 in
set_option maxRecDepth 100000 in
theorem zc_X7_has_0 (l : Launch) (D : va_G) (y : Nat → ClassId) (a0 : Nat) (p1 : Int32) (w2 : Value) (w3 : Value) (w4 : Value) (w5 : Value) (w6 : Value) (w7 : Value) (w8 : Value) (w9 : Value) (w10 : Value) (w11 : Value) (w12 : Value) : zM l D y yX7_has (Cond.code yX7_has cX7_has 2 (some .boolean) :: zT) { frames := 0, cells := 0, slots := 0, locals := 0 } [.ref a0, .int p1] [(a0, .inr (6, [w2, .int 0, w3, w4, w5, w6, w7, w8, w9, w10, w11, w12]))] (zQi (S := Unit) D (fun r_ _ => r_ = 0) (fun _ => [(a0, .inr (6, [w2, .int 0, w3, w4, w5, w6, w7, w8, w9, w10, w11, w12]))])) := by
  refine zent (cc := cX7_has) (maxL := 2) (ret := (some .boolean)) (by decide) (Nat.le_of_ble_eq_true rfl) ?_
  intro p e s m below meth c A H locs ls hx hb hml hr ht hown hlocks hin hA hK hE hS hW hl
  have hown : s.vm.findClass RX7 = some m.cls := hown
  have hW : zPD D A [(a0, .inr (6, [w2, .int 0, w3, w4, w5, w6, w7, w8, w9, w10, w11, w12]))] H := hW
  have hl : lv_has ls 2 [(0, .ref a0), (1, .int p1)] := hl
  refine lv_iload_n hx hb dX7_has_0 rfl (lv_at hl 1 rfl) ?_
  refine lv_if_lt (tgt := 16) hx hb dX7_has_1 (by decide) (fun c1_ => ?_) (fun c1_ => ?_)
  · have b2_ : (-2147483648) ≤ Int32.toInt p1 ∧ Int32.toInt p1 ≤ (-1) := (by have u0 := zbnd p1; have u1 := (zi_lt _ _).mp c1_; have u2 : (0 : Int32).toInt = 0 := (by decide); omega)
    refine lv_iconst (v := 0) hx hb dX7_has_16 (by decide) ?_
    exact zret_z (v := 0) hx hb hr hlocks hS () rfl rfl hW (Nat.le_of_ble_eq_true rfl) (Nat.le_of_ble_eq_true rfl) dX7_has_17
  · have b3_ : 0 ≤ Int32.toInt p1 ∧ Int32.toInt p1 ≤ 2147483647 := (by have u0 := zbnd p1; have u1 := (not_congr (zi_lt _ _)).mp c1_; have u2 : (0 : Int32).toInt = 0 := (by decide); omega)
    refine lv_iload_n hx hb dX7_has_4 rfl (lv_at hl 1 rfl) ?_
    refine lv_aload_n hx hb dX7_has_5 rfl (lv_at hl 0 rfl) ?_
    refine zget hx hb ht inlX7 hown hK hW 0 rfl rfl 1 (by decide) zm_67 rfl dX7_has_6 ?_
    refine lv_icmp_ge (tgt := 16) hx hb dX7_has_9 (by decide) (fun c4_ => ?_) (fun c4_ => absurd (by have z0 := b3_; have e0 : (0 : Int32).toInt = 0 := (by decide); rw [zi_le]; omega) c4_)
    refine lv_iconst (v := 0) hx hb dX7_has_16 (by decide) ?_
    exact zret_z (v := 0) hx hb hr hlocks hS () rfl rfl hW (Nat.le_of_ble_eq_true rfl) (Nat.le_of_ble_eq_true rfl) dX7_has_17
set_option maxHeartbeats 8000000 in
set_option maxRecDepth 100000 in
theorem zc_X9_of_0 (l : Launch) (D : va_G) (y : Nat → ClassId) (a0 : Nat) (p1 : Int32) (p2 : Int32) (w3 : Value) (w4 : Value) (w5 : Value) (a6 : Nat) (w7 : Value) (w8 : Value) (w9 : Value) (w10 : Value) (w11 : Value) (w12 : Value) (w13 : Value) (w14 : Value) (w15 : Value) (w16 : Value) (w17 : Value) (w18 : Value) (w19 : Value) (w20 : Value) (w21 : Value) (w22 : Value) : zM l D y yX9_of (Cond.code yX9_of cX9_of 4 (some .int) :: zT) { frames := 1, cells := 0, slots := 0, locals := 21 } [.ref a0, .int p1, .int p2] [(a0, .inr (8, [w3, w4, w5, .ref a6, w7, w8, w9, w10, w11])), (a6, .inr (6, [w12, .int 0, w13, w14, w15, w16, w17, w18, w19, w20, w21, w22]))] (zQi (S := Unit) D (fun r_ _ => r_ = (-1)) (fun _ => [])) := by
  refine zent (cc := cX9_of) (maxL := 4) (ret := (some .int)) (by decide) (Nat.le_of_ble_eq_true rfl) ?_
  intro p e s m below meth c A H locs ls hx hb hml hr ht hown hlocks hin hA hK hE hS hW hl
  have hown : s.vm.findClass RX9 = some m.cls := hown
  have hW : zPD D A [(a0, .inr (8, [w3, w4, w5, .ref a6, w7, w8, w9, w10, w11])), (a6, .inr (6, [w12, .int 0, w13, w14, w15, w16, w17, w18, w19, w20, w21, w22]))] H := hW
  have hl : lv_has ls 4 [(0, .ref a0), (1, .int p1), (2, .int p2)] := hl
  refine lv_aload_n hx hb dX9_of_0 rfl (lv_at hl 0 rfl) ?_
  refine zget hx hb ht inlX9 hown hK hW 0 rfl rfl 3 (by decide) zm_23 rfl dX9_of_1 ?_
  refine lv_iload_n hx hb dX9_of_4 rfl (lv_at hl 1 rfl) ?_
  refine zgo_i (wr := [(a0, .inr (8, [w3, w4, w5, .ref a6, w7, w8, w9, w10, w11]))]) (zrunV (As := [.int p1]) (rest := []) ⟨hx, hb, hml, hown, ht⟩ (zc_X7_has_0 l D y a6 p1 w12 w13 w14 w15 w16 w17 w18 w19 w20 w21 w22) (cwV 1 ht (zgV zm_263 zm_264 zm_265 zm_22 zm_266) rfl rfl rfl (by decide +kernel) ⟨(Nat.le_of_ble_eq_true rfl), (Nat.le_of_ble_eq_true rfl)⟩) hK hE hS hA hW [1] (by decide) rfl 0 rfl rfl rfl rfl hl.1 rfl (Nat.le_of_ble_eq_true rfl) dX9_of_5 (Nat.le_of_ble_eq_true rfl) (Nat.le_of_ble_eq_true rfl)) hS hA hW [1] [0] rfl rfl (by decide) (by decide) (fun r1_ u H locs hw hW hS => ?_)
  have hW : zPD D A [(a0, .inr (8, [w3, w4, w5, .ref a6, w7, w8, w9, w10, w11])), (a6, .inr (6, [w12, .int 0, w13, w14, w15, w16, w17, w18, w19, w20, w21, w22]))] H := hW
  have hw : r1_ = 0 := hw
  subst hw
  refine lv_if_ne (tgt := 13) hx hb dX9_of_8 (by decide) (fun c2_ => absurd (by decide) c2_) (fun c2_ => ?_)
  refine lv_iconst (v := (-1)) hx hb dX9_of_11 (by decide) ?_
  exact zret_i (v := (-1)) hx hb hr hlocks hS () rfl (hW.sub [] (by decide) rfl) (Nat.le_of_ble_eq_true rfl) (Nat.le_of_ble_eq_true rfl) dX9_of_12
set_option maxHeartbeats 8000000 in
set_option maxRecDepth 100000 in
theorem zc_X10_in_5 (l : Launch) (D : va_G) (y : Nat → ClassId) (a0 : Nat) (p1 : Int32) (w2 : Value) (w3 : Value) (w4 : Value) (w5 : Value) (w6 : Value) (w7 : Value) (w8 : Value) (w9 : Value) (w10 : Value) (w11 : Value) (w12 : Value) (w13 : Value) (w14 : Value) (w15 : Value) (w16 : Value) (w17 : Value) (w18 : Value) (w19 : Value) (w20 : Value) (w21 : Value) (w22 : Value) (w23 : Value) (w24 : Value) (w25 : Value) (w26 : Value) (w27 : Value) (w28 : Value) (w29 : Value) (w30 : Value) (w31 : Value) (w32 : Value) (w33 : Value) (w34 : Value) (w35 : Value) (w36 : Value) (w37 : Value) (w38 : Value) (w39 : Value) (w40 : Value) (w41 : Value) (w42 : Value) (w43 : Value) (w44 : Value) (w45 : Value) (w46 : Value) (w47 : Value) (w48 : Value) (w49 : Value) (w50 : Value) (w51 : Value) (w52 : Value) (w53 : Value) (w54 : Value) (w55 : Value) (w56 : Value) (w57 : Value) (w58 : Value) (w59 : Value) (w60 : Value) (w61 : Value) (w62 : Value) (w63 : Value) (w64 : Value) (w65 : Value) (w66 : Value) (w67 : Value) (w68 : Value) (w69 : Value) (w70 : Value) (w71 : Value) (w72 : Value) (w73 : Value) (w74 : Value) (w75 : Value) (w76 : Value) (w77 : Value) : zM l D y yX10_in (Cond.code yX10_in cX10_in 4 (some .boolean) :: zT) { frames := 0, cells := 0, slots := 0, locals := 0 } [.ref a0, .int p1, .int 0, .int (-1)] [(a0, .inr (9, [w2, w3, w4, w5, w6, w7, w8, w9, w10, w11, w12, w13, w14, w15, w16, w17, w18, w19, w20, w21, w22, w23, w24, w25, w26, w27, w28, w29, w30, w31, w32, w33, w34, w35, w36, w37, w38, w39, w40, w41, w42, w43, w44, w45, w46, w47, w48, w49, w50, w51, w52, w53, w54, w55, w56, w57, w58, w59, w60, w61, w62, w63, w64, w65, w66, w67, w68, w69, w70, w71, w72, w73, w74, w75, w76, w77]))] (zQi (S := Unit) D (fun r_ _ => r_ = 0) (fun _ => [(a0, .inr (9, [w2, w3, w4, w5, w6, w7, w8, w9, w10, w11, w12, w13, w14, w15, w16, w17, w18, w19, w20, w21, w22, w23, w24, w25, w26, w27, w28, w29, w30, w31, w32, w33, w34, w35, w36, w37, w38, w39, w40, w41, w42, w43, w44, w45, w46, w47, w48, w49, w50, w51, w52, w53, w54, w55, w56, w57, w58, w59, w60, w61, w62, w63, w64, w65, w66, w67, w68, w69, w70, w71, w72, w73, w74, w75, w76, w77]))])) := by
  refine zent (cc := cX10_in) (maxL := 4) (ret := (some .boolean)) (by decide) (Nat.le_of_ble_eq_true rfl) ?_
  intro p e s m below meth c A H locs ls hx hb hml hr ht hown hlocks hin hA hK hE hS hW hl
  have hown : s.vm.findClass RX10 = some m.cls := hown
  have hW : zPD D A [(a0, .inr (9, [w2, w3, w4, w5, w6, w7, w8, w9, w10, w11, w12, w13, w14, w15, w16, w17, w18, w19, w20, w21, w22, w23, w24, w25, w26, w27, w28, w29, w30, w31, w32, w33, w34, w35, w36, w37, w38, w39, w40, w41, w42, w43, w44, w45, w46, w47, w48, w49, w50, w51, w52, w53, w54, w55, w56, w57, w58, w59, w60, w61, w62, w63, w64, w65, w66, w67, w68, w69, w70, w71, w72, w73, w74, w75, w76, w77]))] H := hW
  have hl : lv_has ls 4 [(0, .ref a0), (1, .int p1), (2, .int 0), (3, .int (-1))] := hl
  refine lv_iload_n hx hb dX10_in_0 rfl (lv_at hl 1 rfl) ?_
  refine lv_iload_n hx hb dX10_in_1 rfl (lv_at hl 2 rfl) ?_
  refine lv_icmp_lt (tgt := 14) hx hb dX10_in_2 (by decide) (fun c1_ => ?_) (fun c1_ => ?_)
  · have b2_ : (-2147483648) ≤ Int32.toInt p1 ∧ Int32.toInt p1 ≤ (-1) := (by have u0 := zbnd p1; have u1 := (zi_lt _ _).mp c1_; have u2 : (0 : Int32).toInt = 0 := (by decide); omega)
    refine lv_iconst (v := 0) hx hb dX10_in_14 (by decide) ?_
    exact zret_z (v := 0) hx hb hr hlocks hS () rfl rfl hW (Nat.le_of_ble_eq_true rfl) (Nat.le_of_ble_eq_true rfl) dX10_in_15
  · have b3_ : 0 ≤ Int32.toInt p1 ∧ Int32.toInt p1 ≤ 2147483647 := (by have u0 := zbnd p1; have u1 := (not_congr (zi_lt _ _)).mp c1_; have u2 : (0 : Int32).toInt = 0 := (by decide); omega)
    refine lv_iload_n hx hb dX10_in_5 rfl (lv_at hl 1 rfl) ?_
    refine lv_iload_n hx hb dX10_in_6 rfl (lv_at hl 3 rfl) ?_
    refine lv_icmp_gt (tgt := 14) hx hb dX10_in_7 (by decide) (fun c4_ => ?_) (fun c4_ => absurd (by have z0 := b3_; have e0 : ((-1) : Int32).toInt = -1 := (by decide); rw [zi_lt]; omega) c4_)
    refine lv_iconst (v := 0) hx hb dX10_in_14 (by decide) ?_
    exact zret_z (v := 0) hx hb hr hlocks hS () rfl rfl hW (Nat.le_of_ble_eq_true rfl) (Nat.le_of_ble_eq_true rfl) dX10_in_15
set_option maxHeartbeats 8000000 in
set_option maxRecDepth 100000 in
theorem zc_X10_isWindow_0 (l : Launch) (D : va_G) (y : Nat → ClassId) (a0 : Nat) (p1 : Int32) (w2 : Value) (w3 : Value) (w4 : Value) (w5 : Value) (w6 : Value) (w7 : Value) (w8 : Value) (w9 : Value) (w10 : Value) (w11 : Value) (w12 : Value) (w13 : Value) (w14 : Value) (w15 : Value) (w16 : Value) (w17 : Value) (w18 : Value) (w19 : Value) (w20 : Value) (w21 : Value) (w22 : Value) (w23 : Value) (w24 : Value) (w25 : Value) (w26 : Value) (w27 : Value) (w28 : Value) (w29 : Value) (w30 : Value) (w31 : Value) (w32 : Value) (w33 : Value) (w34 : Value) (w35 : Value) (w36 : Value) (w37 : Value) (w38 : Value) (w39 : Value) (w40 : Value) (w41 : Value) (w42 : Value) (w43 : Value) (w44 : Value) (w45 : Value) (w46 : Value) (w47 : Value) (w48 : Value) (w49 : Value) (w50 : Value) (w51 : Value) (w52 : Value) (w53 : Value) (w54 : Value) (w55 : Value) (w56 : Value) (w57 : Value) (w58 : Value) (w59 : Value) (w60 : Value) (w61 : Value) (w62 : Value) (w63 : Value) (w64 : Value) (w65 : Value) (w66 : Value) (w67 : Value) (w68 : Value) (w69 : Value) (w70 : Value) (w71 : Value) (w72 : Value) (w73 : Value) (w74 : Value) (w75 : Value) (w76 : Value) : zM l D y yX10_isWindow (Cond.code yX10_isWindow cX10_isWindow 2 (some .boolean) :: zT) { frames := 1, cells := 0, slots := 0, locals := 23 } [.ref a0, .int p1] [(a0, .inr (9, [.int 0, w2, w3, w4, w5, w6, w7, w8, w9, w10, w11, w12, w13, w14, w15, w16, w17, w18, w19, w20, w21, w22, w23, w24, w25, w26, w27, w28, w29, w30, w31, w32, w33, w34, w35, w36, w37, w38, w39, w40, w41, w42, w43, w44, w45, w46, w47, w48, w49, w50, w51, w52, w53, w54, w55, w56, w57, w58, w59, w60, w61, w62, w63, w64, w65, w66, w67, w68, w69, w70, w71, w72, w73, w74, w75, w76]))] (zQi (S := Unit) D (fun r_ _ => r_ = 0) (fun _ => [(a0, .inr (9, [.int 0, w2, w3, w4, w5, w6, w7, w8, w9, w10, w11, w12, w13, w14, w15, w16, w17, w18, w19, w20, w21, w22, w23, w24, w25, w26, w27, w28, w29, w30, w31, w32, w33, w34, w35, w36, w37, w38, w39, w40, w41, w42, w43, w44, w45, w46, w47, w48, w49, w50, w51, w52, w53, w54, w55, w56, w57, w58, w59, w60, w61, w62, w63, w64, w65, w66, w67, w68, w69, w70, w71, w72, w73, w74, w75, w76]))])) := by
  refine zent (cc := cX10_isWindow) (maxL := 2) (ret := (some .boolean)) (by decide) (Nat.le_of_ble_eq_true rfl) ?_
  intro p e s m below meth c A H locs ls hx hb hml hr ht hown hlocks hin hA hK hE hS hW hl
  have hown : s.vm.findClass RX10 = some m.cls := hown
  have hW : zPD D A [(a0, .inr (9, [.int 0, w2, w3, w4, w5, w6, w7, w8, w9, w10, w11, w12, w13, w14, w15, w16, w17, w18, w19, w20, w21, w22, w23, w24, w25, w26, w27, w28, w29, w30, w31, w32, w33, w34, w35, w36, w37, w38, w39, w40, w41, w42, w43, w44, w45, w46, w47, w48, w49, w50, w51, w52, w53, w54, w55, w56, w57, w58, w59, w60, w61, w62, w63, w64, w65, w66, w67, w68, w69, w70, w71, w72, w73, w74, w75, w76]))] H := hW
  have hl : lv_has ls 2 [(0, .ref a0), (1, .int p1)] := hl
  refine lv_aload_n hx hb dX10_isWindow_0 rfl (lv_at hl 0 rfl) ?_
  refine lv_iload_n hx hb dX10_isWindow_1 rfl (lv_at hl 1 rfl) ?_
  refine lv_iconst (v := 0) hx hb dX10_isWindow_2 (by decide) ?_
  refine lv_aload_n hx hb dX10_isWindow_3 rfl (lv_at hl 0 rfl) ?_
  refine zget hx hb ht inlX10 hown hK hW 0 rfl rfl 0 (by decide) zm_140 rfl dX10_isWindow_4 ?_
  refine lv_iconst (v := 1) hx hb dX10_isWindow_7 (by decide) ?_
  refine lv_isub hx hb dX10_isWindow_8 ?_
  refine ztop (w := .int (-1)) (congrArg Value.int (by decide)) ?_
  refine zgo_i (wr := []) (zrunV (As := [.int p1, .int 0, .int (-1)]) (rest := []) ⟨hx, hb, hml, hown, ht⟩ (zc_X10_in_5 l D y a0 p1 (.int 0) w2 w3 w4 w5 w6 w7 w8 w9 w10 w11 w12 w13 w14 w15 w16 w17 w18 w19 w20 w21 w22 w23 w24 w25 w26 w27 w28 w29 w30 w31 w32 w33 w34 w35 w36 w37 w38 w39 w40 w41 w42 w43 w44 w45 w46 w47 w48 w49 w50 w51 w52 w53 w54 w55 w56 w57 w58 w59 w60 w61 w62 w63 w64 w65 w66 w67 w68 w69 w70 w71 w72 w73 w74 w75 w76) (cwV 3 ht (zgV zm_240 zm_241 zm_242 zm_5 zm_243) rfl rfl rfl (by decide +kernel) ⟨(Nat.le_of_ble_eq_true rfl), (Nat.le_of_ble_eq_true rfl)⟩) hK hE hS hA hW [0] (by decide) rfl 0 rfl rfl rfl rfl hl.1 rfl (Nat.le_of_ble_eq_true rfl) dX10_isWindow_9 (Nat.le_of_ble_eq_true rfl) (Nat.le_of_ble_eq_true rfl)) hS hA hW [0] [] rfl rfl (by decide) (by decide) (fun r1_ u H locs hw hW hS => ?_)
  have hW : zPD D A [(a0, .inr (9, [.int 0, w2, w3, w4, w5, w6, w7, w8, w9, w10, w11, w12, w13, w14, w15, w16, w17, w18, w19, w20, w21, w22, w23, w24, w25, w26, w27, w28, w29, w30, w31, w32, w33, w34, w35, w36, w37, w38, w39, w40, w41, w42, w43, w44, w45, w46, w47, w48, w49, w50, w51, w52, w53, w54, w55, w56, w57, w58, w59, w60, w61, w62, w63, w64, w65, w66, w67, w68, w69, w70, w71, w72, w73, w74, w75, w76]))] H := hW
  have hw : r1_ = 0 := hw
  subst hw
  exact zret_z (v := 0) hx hb hr hlocks hS () rfl rfl hW (Nat.le_of_ble_eq_true rfl) (Nat.le_of_ble_eq_true rfl) dX10_isWindow_12
set_option maxHeartbeats 8000000 in
set_option maxRecDepth 100000 in
theorem zc_X10_of_0 (l : Launch) (D : va_G) (y : Nat → ClassId) (a0 : Nat) (p1 : Int32) (p2 : Int32) (w3 : Value) (w4 : Value) (w5 : Value) (w6 : Value) (w7 : Value) (w8 : Value) (w9 : Value) (w10 : Value) (w11 : Value) (w12 : Value) (w13 : Value) (w14 : Value) (w15 : Value) (w16 : Value) (w17 : Value) (w18 : Value) (w19 : Value) (w20 : Value) (w21 : Value) (w22 : Value) (w23 : Value) (w24 : Value) (w25 : Value) (w26 : Value) (w27 : Value) (w28 : Value) (w29 : Value) (w30 : Value) (w31 : Value) (w32 : Value) (w33 : Value) (w34 : Value) (w35 : Value) (w36 : Value) (w37 : Value) (w38 : Value) (w39 : Value) (w40 : Value) (w41 : Value) (w42 : Value) (w43 : Value) (w44 : Value) (w45 : Value) (w46 : Value) (w47 : Value) (w48 : Value) (w49 : Value) (w50 : Value) (w51 : Value) (w52 : Value) (w53 : Value) (w54 : Value) (w55 : Value) (w56 : Value) (w57 : Value) (w58 : Value) (w59 : Value) (w60 : Value) (w61 : Value) (w62 : Value) (w63 : Value) (w64 : Value) (w65 : Value) (w66 : Value) (w67 : Value) (w68 : Value) (w69 : Value) (w70 : Value) (w71 : Value) (w72 : Value) (w73 : Value) (w74 : Value) (w75 : Value) (w76 : Value) (w77 : Value) : zM l D y yX10_of (Cond.code yX10_of cX10_of 3 (some .int) :: zT) { frames := 2, cells := 0, slots := 0, locals := 44 } [.ref a0, .int p1, .int p2] [(a0, .inr (9, [.int 0, w3, w4, w5, w6, w7, w8, w9, w10, w11, w12, w13, w14, w15, w16, w17, w18, w19, w20, w21, w22, w23, w24, w25, w26, w27, w28, w29, w30, w31, w32, w33, w34, w35, w36, w37, w38, w39, w40, w41, w42, w43, w44, w45, w46, w47, w48, w49, w50, w51, w52, w53, w54, w55, w56, w57, w58, w59, w60, w61, w62, w63, w64, w65, w66, w67, w68, w69, w70, w71, w72, w73, w74, w75, w76, w77]))] (zQi (S := Unit) D (fun r_ _ => r_ = (-1)) (fun _ => [])) := by
  refine zent (cc := cX10_of) (maxL := 3) (ret := (some .int)) (by decide) (Nat.le_of_ble_eq_true rfl) ?_
  intro p e s m below meth c A H locs ls hx hb hml hr ht hown hlocks hin hA hK hE hS hW hl
  have hown : s.vm.findClass RX10 = some m.cls := hown
  have hW : zPD D A [(a0, .inr (9, [.int 0, w3, w4, w5, w6, w7, w8, w9, w10, w11, w12, w13, w14, w15, w16, w17, w18, w19, w20, w21, w22, w23, w24, w25, w26, w27, w28, w29, w30, w31, w32, w33, w34, w35, w36, w37, w38, w39, w40, w41, w42, w43, w44, w45, w46, w47, w48, w49, w50, w51, w52, w53, w54, w55, w56, w57, w58, w59, w60, w61, w62, w63, w64, w65, w66, w67, w68, w69, w70, w71, w72, w73, w74, w75, w76, w77]))] H := hW
  have hl : lv_has ls 3 [(0, .ref a0), (1, .int p1), (2, .int p2)] := hl
  refine lv_aload_n hx hb dX10_of_0 rfl (lv_at hl 0 rfl) ?_
  refine lv_iload_n hx hb dX10_of_1 rfl (lv_at hl 1 rfl) ?_
  refine zgo_i (wr := []) (zrunV (As := [.int p1]) (rest := []) ⟨hx, hb, hml, hown, ht⟩ (zc_X10_isWindow_0 l D y a0 p1 w3 w4 w5 w6 w7 w8 w9 w10 w11 w12 w13 w14 w15 w16 w17 w18 w19 w20 w21 w22 w23 w24 w25 w26 w27 w28 w29 w30 w31 w32 w33 w34 w35 w36 w37 w38 w39 w40 w41 w42 w43 w44 w45 w46 w47 w48 w49 w50 w51 w52 w53 w54 w55 w56 w57 w58 w59 w60 w61 w62 w63 w64 w65 w66 w67 w68 w69 w70 w71 w72 w73 w74 w75 w76 w77) (cwV 1 ht (zgV zm_353 zm_354 zm_355 zm_5 zm_356) rfl rfl rfl (by decide +kernel) ⟨(Nat.le_of_ble_eq_true rfl), (Nat.le_of_ble_eq_true rfl)⟩) hK hE hS hA hW [0] (by decide) rfl 0 rfl rfl rfl rfl hl.1 rfl (Nat.le_of_ble_eq_true rfl) dX10_of_2 (Nat.le_of_ble_eq_true rfl) (Nat.le_of_ble_eq_true rfl)) hS hA hW [0] [] rfl rfl (by decide) (by decide) (fun r1_ u H locs hw hW hS => ?_)
  have hW : zPD D A [(a0, .inr (9, [.int 0, w3, w4, w5, w6, w7, w8, w9, w10, w11, w12, w13, w14, w15, w16, w17, w18, w19, w20, w21, w22, w23, w24, w25, w26, w27, w28, w29, w30, w31, w32, w33, w34, w35, w36, w37, w38, w39, w40, w41, w42, w43, w44, w45, w46, w47, w48, w49, w50, w51, w52, w53, w54, w55, w56, w57, w58, w59, w60, w61, w62, w63, w64, w65, w66, w67, w68, w69, w70, w71, w72, w73, w74, w75, w76, w77]))] H := hW
  have hw : r1_ = 0 := hw
  subst hw
  refine lv_if_ne (tgt := 10) hx hb dX10_of_5 (by decide) (fun c2_ => absurd (by decide) c2_) (fun c2_ => ?_)
  refine lv_iconst (v := (-1)) hx hb dX10_of_8 (by decide) ?_
  exact zret_i (v := (-1)) hx hb hr hlocks hS () rfl (hW.sub [] (by decide) rfl) (Nat.le_of_ble_eq_true rfl) (Nat.le_of_ble_eq_true rfl) dX10_of_9
set_option maxHeartbeats 8000000 in
set_option maxRecDepth 100000 in
theorem zc_X9_put_0 (l : Launch) (D : va_G) (y : Nat → ClassId) (a0 : Nat) (p1 : Int32) (w2 : Value) (w3 : Value) (w4 : Value) (a5 : Nat) (w6 : Value) (w7 : Value) (w8 : Value) (w9 : Value) (w10 : Value) (w11 : Value) (w12 : Value) (w13 : Value) (w14 : Value) (w15 : Value) (w16 : Value) (w17 : Value) (w18 : Value) (w19 : Value) (w20 : Value) (w21 : Value) : zM l D y yX9_put (Cond.code yX9_put cX9_put 5 (some .int) :: zT) { frames := 1, cells := 0, slots := 0, locals := 21 } [.ref a0, .int p1, .int 0] [(a0, .inr (8, [w2, w3, w4, .ref a5, w6, w7, w8, w9, w10])), (a5, .inr (6, [w11, .int 0, w12, w13, w14, w15, w16, w17, w18, w19, w20, w21]))] (zQi (S := Unit) D (fun r_ _ => r_ = (-1)) (fun _ => [])) := by
  refine zent (cc := cX9_put) (maxL := 5) (ret := (some .int)) (by decide) (Nat.le_of_ble_eq_true rfl) ?_
  intro p e s m below meth c A H locs ls hx hb hml hr ht hown hlocks hin hA hK hE hS hW hl
  have hown : s.vm.findClass RX9 = some m.cls := hown
  have hW : zPD D A [(a0, .inr (8, [w2, w3, w4, .ref a5, w6, w7, w8, w9, w10])), (a5, .inr (6, [w11, .int 0, w12, w13, w14, w15, w16, w17, w18, w19, w20, w21]))] H := hW
  have hl : lv_has ls 5 [(0, .ref a0), (1, .int p1), (2, .int 0)] := hl
  refine lv_aload_n hx hb dX9_put_0 rfl (lv_at hl 0 rfl) ?_
  refine zget hx hb ht inlX9 hown hK hW 0 rfl rfl 3 (by decide) zm_23 rfl dX9_put_1 ?_
  refine lv_iload_n hx hb dX9_put_4 rfl (lv_at hl 1 rfl) ?_
  refine zgo_i (wr := [(a0, .inr (8, [w2, w3, w4, .ref a5, w6, w7, w8, w9, w10]))]) (zrunV (As := [.int p1]) (rest := []) ⟨hx, hb, hml, hown, ht⟩ (zc_X7_has_0 l D y a5 p1 w11 w12 w13 w14 w15 w16 w17 w18 w19 w20 w21) (cwV 1 ht (zgV zm_263 zm_264 zm_265 zm_22 zm_266) rfl rfl rfl (by decide +kernel) ⟨(Nat.le_of_ble_eq_true rfl), (Nat.le_of_ble_eq_true rfl)⟩) hK hE hS hA hW [1] (by decide) rfl 0 rfl rfl rfl rfl hl.1 rfl (Nat.le_of_ble_eq_true rfl) dX9_put_5 (Nat.le_of_ble_eq_true rfl) (Nat.le_of_ble_eq_true rfl)) hS hA hW [1] [0] rfl rfl (by decide) (by decide) (fun r1_ u H locs hw hW hS => ?_)
  have hW : zPD D A [(a0, .inr (8, [w2, w3, w4, .ref a5, w6, w7, w8, w9, w10])), (a5, .inr (6, [w11, .int 0, w12, w13, w14, w15, w16, w17, w18, w19, w20, w21]))] H := hW
  have hw : r1_ = 0 := hw
  subst hw
  refine lv_if_ne (tgt := 13) hx hb dX9_put_8 (by decide) (fun c2_ => absurd (by decide) c2_) (fun c2_ => ?_)
  refine lv_iconst (v := (-1)) hx hb dX9_put_11 (by decide) ?_
  exact zret_i (v := (-1)) hx hb hr hlocks hS () rfl (hW.sub [] (by decide) rfl) (Nat.le_of_ble_eq_true rfl) (Nat.le_of_ble_eq_true rfl) dX9_put_12
set_option maxHeartbeats 8000000 in
set_option maxRecDepth 100000 in
theorem zc_X10_put_0 (l : Launch) (D : va_G) (y : Nat → ClassId) (a0 : Nat) (p1 : Int32) (w2 : Value) (w3 : Value) (w4 : Value) (w5 : Value) (w6 : Value) (w7 : Value) (w8 : Value) (w9 : Value) (w10 : Value) (w11 : Value) (w12 : Value) (w13 : Value) (w14 : Value) (w15 : Value) (w16 : Value) (w17 : Value) (w18 : Value) (w19 : Value) (w20 : Value) (w21 : Value) (w22 : Value) (w23 : Value) (w24 : Value) (w25 : Value) (w26 : Value) (w27 : Value) (w28 : Value) (w29 : Value) (w30 : Value) (w31 : Value) (w32 : Value) (w33 : Value) (w34 : Value) (w35 : Value) (w36 : Value) (w37 : Value) (w38 : Value) (w39 : Value) (w40 : Value) (w41 : Value) (w42 : Value) (w43 : Value) (w44 : Value) (w45 : Value) (w46 : Value) (w47 : Value) (w48 : Value) (w49 : Value) (w50 : Value) (w51 : Value) (w52 : Value) (w53 : Value) (w54 : Value) (w55 : Value) (w56 : Value) (w57 : Value) (w58 : Value) (w59 : Value) (w60 : Value) (w61 : Value) (w62 : Value) (w63 : Value) (w64 : Value) (w65 : Value) (w66 : Value) (w67 : Value) (w68 : Value) (w69 : Value) (w70 : Value) (w71 : Value) (w72 : Value) (w73 : Value) (w74 : Value) (w75 : Value) (w76 : Value) : zM l D y yX10_put (Cond.code yX10_put cX10_put 4 (some .int) :: zT) { frames := 2, cells := 0, slots := 0, locals := 44 } [.ref a0, .int p1, .int 0] [(a0, .inr (9, [.int 0, w2, w3, w4, w5, w6, w7, w8, w9, w10, w11, w12, w13, w14, w15, w16, w17, w18, w19, w20, w21, w22, w23, w24, w25, w26, w27, w28, w29, w30, w31, w32, w33, w34, w35, w36, w37, w38, w39, w40, w41, w42, w43, w44, w45, w46, w47, w48, w49, w50, w51, w52, w53, w54, w55, w56, w57, w58, w59, w60, w61, w62, w63, w64, w65, w66, w67, w68, w69, w70, w71, w72, w73, w74, w75, w76]))] (zQi (S := Unit) D (fun r_ _ => r_ = (-1)) (fun _ => [])) := by
  refine zent (cc := cX10_put) (maxL := 4) (ret := (some .int)) (by decide) (Nat.le_of_ble_eq_true rfl) ?_
  intro p e s m below meth c A H locs ls hx hb hml hr ht hown hlocks hin hA hK hE hS hW hl
  have hown : s.vm.findClass RX10 = some m.cls := hown
  have hW : zPD D A [(a0, .inr (9, [.int 0, w2, w3, w4, w5, w6, w7, w8, w9, w10, w11, w12, w13, w14, w15, w16, w17, w18, w19, w20, w21, w22, w23, w24, w25, w26, w27, w28, w29, w30, w31, w32, w33, w34, w35, w36, w37, w38, w39, w40, w41, w42, w43, w44, w45, w46, w47, w48, w49, w50, w51, w52, w53, w54, w55, w56, w57, w58, w59, w60, w61, w62, w63, w64, w65, w66, w67, w68, w69, w70, w71, w72, w73, w74, w75, w76]))] H := hW
  have hl : lv_has ls 4 [(0, .ref a0), (1, .int p1), (2, .int 0)] := hl
  refine lv_aload_n hx hb dX10_put_0 rfl (lv_at hl 0 rfl) ?_
  refine lv_iload_n hx hb dX10_put_1 rfl (lv_at hl 1 rfl) ?_
  refine zgo_i (wr := []) (zrunV (As := [.int p1]) (rest := []) ⟨hx, hb, hml, hown, ht⟩ (zc_X10_isWindow_0 l D y a0 p1 w2 w3 w4 w5 w6 w7 w8 w9 w10 w11 w12 w13 w14 w15 w16 w17 w18 w19 w20 w21 w22 w23 w24 w25 w26 w27 w28 w29 w30 w31 w32 w33 w34 w35 w36 w37 w38 w39 w40 w41 w42 w43 w44 w45 w46 w47 w48 w49 w50 w51 w52 w53 w54 w55 w56 w57 w58 w59 w60 w61 w62 w63 w64 w65 w66 w67 w68 w69 w70 w71 w72 w73 w74 w75 w76) (cwV 1 ht (zgV zm_353 zm_354 zm_355 zm_5 zm_356) rfl rfl rfl (by decide +kernel) ⟨(Nat.le_of_ble_eq_true rfl), (Nat.le_of_ble_eq_true rfl)⟩) hK hE hS hA hW [0] (by decide) rfl 0 rfl rfl rfl rfl hl.1 rfl (Nat.le_of_ble_eq_true rfl) dX10_put_2 (Nat.le_of_ble_eq_true rfl) (Nat.le_of_ble_eq_true rfl)) hS hA hW [0] [] rfl rfl (by decide) (by decide) (fun r1_ u H locs hw hW hS => ?_)
  have hW : zPD D A [(a0, .inr (9, [.int 0, w2, w3, w4, w5, w6, w7, w8, w9, w10, w11, w12, w13, w14, w15, w16, w17, w18, w19, w20, w21, w22, w23, w24, w25, w26, w27, w28, w29, w30, w31, w32, w33, w34, w35, w36, w37, w38, w39, w40, w41, w42, w43, w44, w45, w46, w47, w48, w49, w50, w51, w52, w53, w54, w55, w56, w57, w58, w59, w60, w61, w62, w63, w64, w65, w66, w67, w68, w69, w70, w71, w72, w73, w74, w75, w76]))] H := hW
  have hw : r1_ = 0 := hw
  subst hw
  refine lv_if_ne (tgt := 10) hx hb dX10_put_5 (by decide) (fun c2_ => absurd (by decide) c2_) (fun c2_ => ?_)
  refine lv_iconst (v := (-1)) hx hb dX10_put_8 (by decide) ?_
  exact zret_i (v := (-1)) hx hb hr hlocks hS () rfl (hW.sub [] (by decide) rfl) (Nat.le_of_ble_eq_true rfl) (Nat.le_of_ble_eq_true rfl) dX10_put_9
set_option maxHeartbeats 8000000 in
set_option maxRecDepth 100000 in
theorem zc_X9_put_1 (l : Launch) (D : va_G) (y : Nat → ClassId) (a0 : Nat) (p1 : Int32) (w2 : Value) (w3 : Value) (w4 : Value) (a5 : Nat) (w6 : Value) (w7 : Value) (w8 : Value) (w9 : Value) (w10 : Value) (w11 : Value) (w12 : Value) (w13 : Value) (w14 : Value) (w15 : Value) (w16 : Value) (w17 : Value) (w18 : Value) (w19 : Value) (w20 : Value) (w21 : Value) : zM l D y yX9_put (Cond.code yX9_put cX9_put 5 (some .int) :: zT) { frames := 1, cells := 0, slots := 0, locals := 21 } [.ref a0, .int p1, .int 1] [(a0, .inr (8, [w2, w3, w4, .ref a5, w6, w7, w8, w9, w10])), (a5, .inr (6, [w11, .int 0, w12, w13, w14, w15, w16, w17, w18, w19, w20, w21]))] (zQi (S := Unit) D (fun r_ _ => r_ = (-1)) (fun _ => [])) := by
  refine zent (cc := cX9_put) (maxL := 5) (ret := (some .int)) (by decide) (Nat.le_of_ble_eq_true rfl) ?_
  intro p e s m below meth c A H locs ls hx hb hml hr ht hown hlocks hin hA hK hE hS hW hl
  have hown : s.vm.findClass RX9 = some m.cls := hown
  have hW : zPD D A [(a0, .inr (8, [w2, w3, w4, .ref a5, w6, w7, w8, w9, w10])), (a5, .inr (6, [w11, .int 0, w12, w13, w14, w15, w16, w17, w18, w19, w20, w21]))] H := hW
  have hl : lv_has ls 5 [(0, .ref a0), (1, .int p1), (2, .int 1)] := hl
  refine lv_aload_n hx hb dX9_put_0 rfl (lv_at hl 0 rfl) ?_
  refine zget hx hb ht inlX9 hown hK hW 0 rfl rfl 3 (by decide) zm_23 rfl dX9_put_1 ?_
  refine lv_iload_n hx hb dX9_put_4 rfl (lv_at hl 1 rfl) ?_
  refine zgo_i (wr := [(a0, .inr (8, [w2, w3, w4, .ref a5, w6, w7, w8, w9, w10]))]) (zrunV (As := [.int p1]) (rest := []) ⟨hx, hb, hml, hown, ht⟩ (zc_X7_has_0 l D y a5 p1 w11 w12 w13 w14 w15 w16 w17 w18 w19 w20 w21) (cwV 1 ht (zgV zm_263 zm_264 zm_265 zm_22 zm_266) rfl rfl rfl (by decide +kernel) ⟨(Nat.le_of_ble_eq_true rfl), (Nat.le_of_ble_eq_true rfl)⟩) hK hE hS hA hW [1] (by decide) rfl 0 rfl rfl rfl rfl hl.1 rfl (Nat.le_of_ble_eq_true rfl) dX9_put_5 (Nat.le_of_ble_eq_true rfl) (Nat.le_of_ble_eq_true rfl)) hS hA hW [1] [0] rfl rfl (by decide) (by decide) (fun r1_ u H locs hw hW hS => ?_)
  have hW : zPD D A [(a0, .inr (8, [w2, w3, w4, .ref a5, w6, w7, w8, w9, w10])), (a5, .inr (6, [w11, .int 0, w12, w13, w14, w15, w16, w17, w18, w19, w20, w21]))] H := hW
  have hw : r1_ = 0 := hw
  subst hw
  refine lv_if_ne (tgt := 13) hx hb dX9_put_8 (by decide) (fun c2_ => absurd (by decide) c2_) (fun c2_ => ?_)
  refine lv_iconst (v := (-1)) hx hb dX9_put_11 (by decide) ?_
  exact zret_i (v := (-1)) hx hb hr hlocks hS () rfl (hW.sub [] (by decide) rfl) (Nat.le_of_ble_eq_true rfl) (Nat.le_of_ble_eq_true rfl) dX9_put_12
set_option maxHeartbeats 8000000 in
set_option maxRecDepth 100000 in
theorem zc_X10_put_1 (l : Launch) (D : va_G) (y : Nat → ClassId) (a0 : Nat) (p1 : Int32) (w2 : Value) (w3 : Value) (w4 : Value) (w5 : Value) (w6 : Value) (w7 : Value) (w8 : Value) (w9 : Value) (w10 : Value) (w11 : Value) (w12 : Value) (w13 : Value) (w14 : Value) (w15 : Value) (w16 : Value) (w17 : Value) (w18 : Value) (w19 : Value) (w20 : Value) (w21 : Value) (w22 : Value) (w23 : Value) (w24 : Value) (w25 : Value) (w26 : Value) (w27 : Value) (w28 : Value) (w29 : Value) (w30 : Value) (w31 : Value) (w32 : Value) (w33 : Value) (w34 : Value) (w35 : Value) (w36 : Value) (w37 : Value) (w38 : Value) (w39 : Value) (w40 : Value) (w41 : Value) (w42 : Value) (w43 : Value) (w44 : Value) (w45 : Value) (w46 : Value) (w47 : Value) (w48 : Value) (w49 : Value) (w50 : Value) (w51 : Value) (w52 : Value) (w53 : Value) (w54 : Value) (w55 : Value) (w56 : Value) (w57 : Value) (w58 : Value) (w59 : Value) (w60 : Value) (w61 : Value) (w62 : Value) (w63 : Value) (w64 : Value) (w65 : Value) (w66 : Value) (w67 : Value) (w68 : Value) (w69 : Value) (w70 : Value) (w71 : Value) (w72 : Value) (w73 : Value) (w74 : Value) (w75 : Value) (w76 : Value) : zM l D y yX10_put (Cond.code yX10_put cX10_put 4 (some .int) :: zT) { frames := 2, cells := 0, slots := 0, locals := 44 } [.ref a0, .int p1, .int 1] [(a0, .inr (9, [.int 0, w2, w3, w4, w5, w6, w7, w8, w9, w10, w11, w12, w13, w14, w15, w16, w17, w18, w19, w20, w21, w22, w23, w24, w25, w26, w27, w28, w29, w30, w31, w32, w33, w34, w35, w36, w37, w38, w39, w40, w41, w42, w43, w44, w45, w46, w47, w48, w49, w50, w51, w52, w53, w54, w55, w56, w57, w58, w59, w60, w61, w62, w63, w64, w65, w66, w67, w68, w69, w70, w71, w72, w73, w74, w75, w76]))] (zQi (S := Unit) D (fun r_ _ => r_ = (-1)) (fun _ => [])) := by
  refine zent (cc := cX10_put) (maxL := 4) (ret := (some .int)) (by decide) (Nat.le_of_ble_eq_true rfl) ?_
  intro p e s m below meth c A H locs ls hx hb hml hr ht hown hlocks hin hA hK hE hS hW hl
  have hown : s.vm.findClass RX10 = some m.cls := hown
  have hW : zPD D A [(a0, .inr (9, [.int 0, w2, w3, w4, w5, w6, w7, w8, w9, w10, w11, w12, w13, w14, w15, w16, w17, w18, w19, w20, w21, w22, w23, w24, w25, w26, w27, w28, w29, w30, w31, w32, w33, w34, w35, w36, w37, w38, w39, w40, w41, w42, w43, w44, w45, w46, w47, w48, w49, w50, w51, w52, w53, w54, w55, w56, w57, w58, w59, w60, w61, w62, w63, w64, w65, w66, w67, w68, w69, w70, w71, w72, w73, w74, w75, w76]))] H := hW
  have hl : lv_has ls 4 [(0, .ref a0), (1, .int p1), (2, .int 1)] := hl
  refine lv_aload_n hx hb dX10_put_0 rfl (lv_at hl 0 rfl) ?_
  refine lv_iload_n hx hb dX10_put_1 rfl (lv_at hl 1 rfl) ?_
  refine zgo_i (wr := []) (zrunV (As := [.int p1]) (rest := []) ⟨hx, hb, hml, hown, ht⟩ (zc_X10_isWindow_0 l D y a0 p1 w2 w3 w4 w5 w6 w7 w8 w9 w10 w11 w12 w13 w14 w15 w16 w17 w18 w19 w20 w21 w22 w23 w24 w25 w26 w27 w28 w29 w30 w31 w32 w33 w34 w35 w36 w37 w38 w39 w40 w41 w42 w43 w44 w45 w46 w47 w48 w49 w50 w51 w52 w53 w54 w55 w56 w57 w58 w59 w60 w61 w62 w63 w64 w65 w66 w67 w68 w69 w70 w71 w72 w73 w74 w75 w76) (cwV 1 ht (zgV zm_353 zm_354 zm_355 zm_5 zm_356) rfl rfl rfl (by decide +kernel) ⟨(Nat.le_of_ble_eq_true rfl), (Nat.le_of_ble_eq_true rfl)⟩) hK hE hS hA hW [0] (by decide) rfl 0 rfl rfl rfl rfl hl.1 rfl (Nat.le_of_ble_eq_true rfl) dX10_put_2 (Nat.le_of_ble_eq_true rfl) (Nat.le_of_ble_eq_true rfl)) hS hA hW [0] [] rfl rfl (by decide) (by decide) (fun r1_ u H locs hw hW hS => ?_)
  have hW : zPD D A [(a0, .inr (9, [.int 0, w2, w3, w4, w5, w6, w7, w8, w9, w10, w11, w12, w13, w14, w15, w16, w17, w18, w19, w20, w21, w22, w23, w24, w25, w26, w27, w28, w29, w30, w31, w32, w33, w34, w35, w36, w37, w38, w39, w40, w41, w42, w43, w44, w45, w46, w47, w48, w49, w50, w51, w52, w53, w54, w55, w56, w57, w58, w59, w60, w61, w62, w63, w64, w65, w66, w67, w68, w69, w70, w71, w72, w73, w74, w75, w76]))] H := hW
  have hw : r1_ = 0 := hw
  subst hw
  refine lv_if_ne (tgt := 10) hx hb dX10_put_5 (by decide) (fun c2_ => absurd (by decide) c2_) (fun c2_ => ?_)
  refine lv_iconst (v := (-1)) hx hb dX10_put_8 (by decide) ?_
  exact zret_i (v := (-1)) hx hb hr hlocks hS () rfl (hW.sub [] (by decide) rfl) (Nat.le_of_ble_eq_true rfl) (Nat.le_of_ble_eq_true rfl) dX10_put_9
set_option maxHeartbeats 8000000 in
set_option maxRecDepth 100000 in
theorem zc_X9_row_0 (l : Launch) (D : va_G) (y : Nat → ClassId) (a0 : Nat) (p1 : Int32) (p2 : Int32) (p3 : Int32) (w4 : Value) (w5 : Value) (w6 : Value) (a7 : Nat) (w8 : Value) (w9 : Value) (w10 : Value) (w11 : Value) (w12 : Value) (w13 : Value) (w14 : Value) (w15 : Value) (w16 : Value) (w17 : Value) (w18 : Value) (w19 : Value) (w20 : Value) (w21 : Value) (w22 : Value) (w23 : Value) : zM l D y yX9_row (Cond.code yX9_row cX9_row 6 (some .int) :: zT) { frames := 1, cells := 0, slots := 0, locals := 21 } [.ref a0, .int p1, .int p2, .int p3] [(a0, .inr (8, [w4, w5, w6, .ref a7, w8, w9, w10, w11, w12])), (a7, .inr (6, [w13, .int 0, w14, w15, w16, w17, w18, w19, w20, w21, w22, w23]))] (zQi (S := Unit) D (fun r_ _ => r_ = (-1)) (fun _ => [])) := by
  refine zent (cc := cX9_row) (maxL := 6) (ret := (some .int)) (by decide) (Nat.le_of_ble_eq_true rfl) ?_
  intro p e s m below meth c A H locs ls hx hb hml hr ht hown hlocks hin hA hK hE hS hW hl
  have hown : s.vm.findClass RX9 = some m.cls := hown
  have hW : zPD D A [(a0, .inr (8, [w4, w5, w6, .ref a7, w8, w9, w10, w11, w12])), (a7, .inr (6, [w13, .int 0, w14, w15, w16, w17, w18, w19, w20, w21, w22, w23]))] H := hW
  have hl : lv_has ls 6 [(0, .ref a0), (1, .int p1), (2, .int p2), (3, .int p3)] := hl
  refine lv_aload_n hx hb dX9_row_0 rfl (lv_at hl 0 rfl) ?_
  refine zget hx hb ht inlX9 hown hK hW 0 rfl rfl 3 (by decide) zm_23 rfl dX9_row_1 ?_
  refine lv_iload_n hx hb dX9_row_4 rfl (lv_at hl 1 rfl) ?_
  refine zgo_i (wr := [(a0, .inr (8, [w4, w5, w6, .ref a7, w8, w9, w10, w11, w12]))]) (zrunV (As := [.int p1]) (rest := []) ⟨hx, hb, hml, hown, ht⟩ (zc_X7_has_0 l D y a7 p1 w13 w14 w15 w16 w17 w18 w19 w20 w21 w22 w23) (cwV 1 ht (zgV zm_263 zm_264 zm_265 zm_22 zm_266) rfl rfl rfl (by decide +kernel) ⟨(Nat.le_of_ble_eq_true rfl), (Nat.le_of_ble_eq_true rfl)⟩) hK hE hS hA hW [1] (by decide) rfl 0 rfl rfl rfl rfl hl.1 rfl (Nat.le_of_ble_eq_true rfl) dX9_row_5 (Nat.le_of_ble_eq_true rfl) (Nat.le_of_ble_eq_true rfl)) hS hA hW [1] [0] rfl rfl (by decide) (by decide) (fun r1_ u H locs hw hW hS => ?_)
  have hW : zPD D A [(a0, .inr (8, [w4, w5, w6, .ref a7, w8, w9, w10, w11, w12])), (a7, .inr (6, [w13, .int 0, w14, w15, w16, w17, w18, w19, w20, w21, w22, w23]))] H := hW
  have hw : r1_ = 0 := hw
  subst hw
  refine lv_if_eq (tgt := 20) hx hb dX9_row_8 (by decide) (fun c2_ => ?_) (fun c2_ => absurd (by decide) c2_)
  refine lv_iconst (v := (-1)) hx hb dX9_row_20 (by decide) ?_
  exact zret_i (v := (-1)) hx hb hr hlocks hS () rfl (hW.sub [] (by decide) rfl) (Nat.le_of_ble_eq_true rfl) (Nat.le_of_ble_eq_true rfl) dX9_row_21
set_option maxHeartbeats 8000000 in
set_option maxRecDepth 100000 in
theorem zc_X10_row_0 (l : Launch) (D : va_G) (y : Nat → ClassId) (a0 : Nat) (p1 : Int32) (p2 : Int32) (p3 : Int32) (w4 : Value) (w5 : Value) (w6 : Value) (w7 : Value) (w8 : Value) (w9 : Value) (w10 : Value) (w11 : Value) (w12 : Value) (w13 : Value) (w14 : Value) (w15 : Value) (w16 : Value) (w17 : Value) (w18 : Value) (w19 : Value) (w20 : Value) (w21 : Value) (w22 : Value) (w23 : Value) (w24 : Value) (w25 : Value) (w26 : Value) (w27 : Value) (w28 : Value) (w29 : Value) (w30 : Value) (w31 : Value) (w32 : Value) (w33 : Value) (w34 : Value) (w35 : Value) (w36 : Value) (w37 : Value) (w38 : Value) (w39 : Value) (w40 : Value) (w41 : Value) (w42 : Value) (w43 : Value) (w44 : Value) (w45 : Value) (w46 : Value) (w47 : Value) (w48 : Value) (w49 : Value) (w50 : Value) (w51 : Value) (w52 : Value) (w53 : Value) (w54 : Value) (w55 : Value) (w56 : Value) (w57 : Value) (w58 : Value) (w59 : Value) (w60 : Value) (w61 : Value) (w62 : Value) (w63 : Value) (w64 : Value) (w65 : Value) (w66 : Value) (w67 : Value) (w68 : Value) (w69 : Value) (w70 : Value) (w71 : Value) (w72 : Value) (w73 : Value) (w74 : Value) (w75 : Value) (w76 : Value) (w77 : Value) (w78 : Value) : zM l D y yX10_row (Cond.code yX10_row cX10_row 5 (some .int) :: zT) { frames := 2, cells := 0, slots := 0, locals := 44 } [.ref a0, .int p1, .int p2, .int p3] [(a0, .inr (9, [.int 0, w4, w5, w6, w7, w8, w9, w10, w11, w12, w13, w14, w15, w16, w17, w18, w19, w20, w21, w22, w23, w24, w25, w26, w27, w28, w29, w30, w31, w32, w33, w34, w35, w36, w37, w38, w39, w40, w41, w42, w43, w44, w45, w46, w47, w48, w49, w50, w51, w52, w53, w54, w55, w56, w57, w58, w59, w60, w61, w62, w63, w64, w65, w66, w67, w68, w69, w70, w71, w72, w73, w74, w75, w76, w77, w78]))] (zQi (S := Unit) D (fun r_ _ => r_ = (-1)) (fun _ => [])) := by
  refine zent (cc := cX10_row) (maxL := 5) (ret := (some .int)) (by decide) (Nat.le_of_ble_eq_true rfl) ?_
  intro p e s m below meth c A H locs ls hx hb hml hr ht hown hlocks hin hA hK hE hS hW hl
  have hown : s.vm.findClass RX10 = some m.cls := hown
  have hW : zPD D A [(a0, .inr (9, [.int 0, w4, w5, w6, w7, w8, w9, w10, w11, w12, w13, w14, w15, w16, w17, w18, w19, w20, w21, w22, w23, w24, w25, w26, w27, w28, w29, w30, w31, w32, w33, w34, w35, w36, w37, w38, w39, w40, w41, w42, w43, w44, w45, w46, w47, w48, w49, w50, w51, w52, w53, w54, w55, w56, w57, w58, w59, w60, w61, w62, w63, w64, w65, w66, w67, w68, w69, w70, w71, w72, w73, w74, w75, w76, w77, w78]))] H := hW
  have hl : lv_has ls 5 [(0, .ref a0), (1, .int p1), (2, .int p2), (3, .int p3)] := hl
  refine lv_aload_n hx hb dX10_row_0 rfl (lv_at hl 0 rfl) ?_
  refine lv_iload_n hx hb dX10_row_1 rfl (lv_at hl 1 rfl) ?_
  refine zgo_i (wr := []) (zrunV (As := [.int p1]) (rest := []) ⟨hx, hb, hml, hown, ht⟩ (zc_X10_isWindow_0 l D y a0 p1 w4 w5 w6 w7 w8 w9 w10 w11 w12 w13 w14 w15 w16 w17 w18 w19 w20 w21 w22 w23 w24 w25 w26 w27 w28 w29 w30 w31 w32 w33 w34 w35 w36 w37 w38 w39 w40 w41 w42 w43 w44 w45 w46 w47 w48 w49 w50 w51 w52 w53 w54 w55 w56 w57 w58 w59 w60 w61 w62 w63 w64 w65 w66 w67 w68 w69 w70 w71 w72 w73 w74 w75 w76 w77 w78) (cwV 1 ht (zgV zm_353 zm_354 zm_355 zm_5 zm_356) rfl rfl rfl (by decide +kernel) ⟨(Nat.le_of_ble_eq_true rfl), (Nat.le_of_ble_eq_true rfl)⟩) hK hE hS hA hW [0] (by decide) rfl 0 rfl rfl rfl rfl hl.1 rfl (Nat.le_of_ble_eq_true rfl) dX10_row_2 (Nat.le_of_ble_eq_true rfl) (Nat.le_of_ble_eq_true rfl)) hS hA hW [0] [] rfl rfl (by decide) (by decide) (fun r1_ u H locs hw hW hS => ?_)
  have hW : zPD D A [(a0, .inr (9, [.int 0, w4, w5, w6, w7, w8, w9, w10, w11, w12, w13, w14, w15, w16, w17, w18, w19, w20, w21, w22, w23, w24, w25, w26, w27, w28, w29, w30, w31, w32, w33, w34, w35, w36, w37, w38, w39, w40, w41, w42, w43, w44, w45, w46, w47, w48, w49, w50, w51, w52, w53, w54, w55, w56, w57, w58, w59, w60, w61, w62, w63, w64, w65, w66, w67, w68, w69, w70, w71, w72, w73, w74, w75, w76, w77, w78]))] H := hW
  have hw : r1_ = 0 := hw
  subst hw
  refine lv_if_eq (tgt := 18) hx hb dX10_row_5 (by decide) (fun c2_ => ?_) (fun c2_ => absurd (by decide) c2_)
  refine lv_iconst (v := (-1)) hx hb dX10_row_18 (by decide) ?_
  exact zret_i (v := (-1)) hx hb hr hlocks hS () rfl (hW.sub [] (by decide) rfl) (Nat.le_of_ble_eq_true rfl) (Nat.le_of_ble_eq_true rfl) dX10_row_19
set_option maxHeartbeats 8000000 in
set_option maxRecDepth 100000 in
theorem zc_X9_within_5 (l : Launch) (D : va_G) (y : Nat → ClassId) (p0 : Int32) : zM l D y yX9_within (Cond.code yX9_within cX9_within 3 (some .boolean) :: zT) { frames := 0, cells := 0, slots := 0, locals := 0 } [.int p0, .int 0, .int 99] [] (zQi (S := Unit) D (fun r_ _ => r_ = (if p0 < 0 then 0 else (if 99 < p0 then 0 else 1))) (fun _ => [])) := by
  refine zent (cc := cX9_within) (maxL := 3) (ret := (some .boolean)) (by decide) (Nat.le_of_ble_eq_true rfl) ?_
  intro p e s m below meth c A H locs ls hx hb hml hr ht hown hlocks hin hA hK hE hS hW hl
  have hown : s.vm.findClass RX9 = some m.cls := hown
  have hW : zPD D A [] H := hW
  have hl : lv_has ls 3 [(0, .int p0), (1, .int 0), (2, .int 99)] := hl
  refine lv_iload_n hx hb dX9_within_0 rfl (lv_at hl 0 rfl) ?_
  refine lv_iload_n hx hb dX9_within_1 rfl (lv_at hl 1 rfl) ?_
  refine lv_icmp_lt (tgt := 14) hx hb dX9_within_2 (by decide) (fun c1_ => ?_) (fun c1_ => ?_)
  · have b2_ : (-2147483648) ≤ Int32.toInt p0 ∧ Int32.toInt p0 ≤ (-1) := (by have u0 := zbnd p0; have u1 := (zi_lt _ _).mp c1_; have u2 : (0 : Int32).toInt = 0 := (by decide); omega)
    refine lv_iconst (v := 0) hx hb dX9_within_14 (by decide) ?_
    exact zret_z (v := 0) hx hb hr hlocks hS () rfl (by show _ = _; rw [if_pos c1_]) hW (Nat.le_of_ble_eq_true rfl) (Nat.le_of_ble_eq_true rfl) dX9_within_15
  · have b3_ : 0 ≤ Int32.toInt p0 ∧ Int32.toInt p0 ≤ 2147483647 := (by have u0 := zbnd p0; have u1 := (not_congr (zi_lt _ _)).mp c1_; have u2 : (0 : Int32).toInt = 0 := (by decide); omega)
    refine lv_iload_n hx hb dX9_within_5 rfl (lv_at hl 0 rfl) ?_
    refine lv_iload_n hx hb dX9_within_6 rfl (lv_at hl 2 rfl) ?_
    refine lv_icmp_gt (tgt := 14) hx hb dX9_within_7 (by decide) (fun c4_ => ?_) (fun c4_ => ?_)
    · have b5_ : 100 ≤ Int32.toInt p0 ∧ Int32.toInt p0 ≤ 2147483647 := (by have u0 := b3_; have u1 := (zi_lt _ _).mp c4_; have u2 : (99 : Int32).toInt = 99 := (by decide); omega)
      refine lv_iconst (v := 0) hx hb dX9_within_14 (by decide) ?_
      exact zret_z (v := 0) hx hb hr hlocks hS () rfl (by show _ = _; rw [if_neg c1_, if_pos c4_]) hW (Nat.le_of_ble_eq_true rfl) (Nat.le_of_ble_eq_true rfl) dX9_within_15
    · have b6_ : 0 ≤ Int32.toInt p0 ∧ Int32.toInt p0 ≤ 99 := (by have u0 := b3_; have u1 := (not_congr (zi_lt _ _)).mp c4_; have u2 : (99 : Int32).toInt = 99 := (by decide); omega)
      refine lv_iconst (v := 1) hx hb dX9_within_10 (by decide) ?_
      refine lv_goto (tgt := 15) hx hb dX9_within_11 (by decide) ?_
      exact zret_z (v := 1) hx hb hr hlocks hS () rfl (by show _ = _; rw [if_neg c1_, if_neg c4_]) hW (Nat.le_of_ble_eq_true rfl) (Nat.le_of_ble_eq_true rfl) dX9_within_15
set_option maxHeartbeats 8000000 in
set_option maxRecDepth 100000 in
theorem zc_X9_storm_0 (l : Launch) (D : va_G) (y : Nat → ClassId) (a0 : Nat) (p1 : Int32) (p2 : Int32) (w3 : Value) (w4 : Value) (w5 : Value) (a6 : Nat) (w7 : Value) (w8 : Value) (w9 : Value) (w10 : Value) (w11 : Value) (w12 : Value) (w13 : Value) (w14 : Value) (w15 : Value) (w16 : Value) (w17 : Value) (w18 : Value) (w19 : Value) (w20 : Value) (w21 : Value) : zM l D y yX9_storm (Cond.code yX9_storm cX9_storm 4 (some .int) :: zT) { frames := 1, cells := 0, slots := 0, locals := 22 } [.ref a0, .int p1, .int p2] [(a0, .inr (8, [w3, w4, w5, .ref a6, w7, w8, w9, w10, w11])), (a6, .inr (6, [w12, w13, .int 20, .int 0, w14, w15, w16, w17, w18, w19, w20, w21]))] (zQi (S := Unit) D (fun r_ _ => r_ = (if p2 < 0 then (-1) else (if 3 < p2 then (-1) else (if p1 < 0 then (-2) else (if 99 < p1 then (-2) else 20))))) (fun _ => [])) := by
  refine zent (cc := cX9_storm) (maxL := 4) (ret := (some .int)) (by decide) (Nat.le_of_ble_eq_true rfl) ?_
  intro p e s m below meth c A H locs ls hx hb hml hr ht hown hlocks hin hA hK hE hS hW hl
  have hown : s.vm.findClass RX9 = some m.cls := hown
  have hW : zPD D A [(a0, .inr (8, [w3, w4, w5, .ref a6, w7, w8, w9, w10, w11])), (a6, .inr (6, [w12, w13, .int 20, .int 0, w14, w15, w16, w17, w18, w19, w20, w21]))] H := hW
  have hl : lv_has ls 4 [(0, .ref a0), (1, .int p1), (2, .int p2)] := hl
  refine lv_iload_n hx hb dX9_storm_0 rfl (lv_at hl 2 rfl) ?_
  refine lv_iconst (v := 0) hx hb dX9_storm_1 (by decide) ?_
  refine lv_iconst (v := 3) hx hb dX9_storm_2 (by decide) ?_
  refine zgo0_i (zrunS (As := [.int p2, .int 0, .int 3]) (rest := []) ⟨hx, hb, hml, hown, ht⟩ (zc_X9_within_2 l D y p2) (va_cwS 3 ht (zgS zm_222 zm_223 zm_2 zm_224) rfl rfl rfl (by decide +kernel) ⟨(Nat.le_of_ble_eq_true rfl), (Nat.le_of_ble_eq_true rfl)⟩) hK hE hS hA hW [] (by decide) rfl rfl hl.1 rfl (Nat.le_of_ble_eq_true rfl) dX9_storm_3 (Nat.le_of_ble_eq_true rfl) (Nat.le_of_ble_eq_true rfl)) hS hA hW (fun r1_ u H locs hw hW hS => ?_)
  have hw : r1_ = (if p2 < 0 then 0 else (if 3 < p2 then 0 else 1)) := hw
  by_cases c2_ : p2 < 0
  · have b3_ : (-2147483648) ≤ Int32.toInt p2 ∧ Int32.toInt p2 ≤ (-1) := (by have u0 := zbnd p2; have u1 := (zi_lt _ _).mp c2_; have u2 : (0 : Int32).toInt = 0 := (by decide); omega)
    rw [if_pos c2_] at hw
    subst hw
    refine lv_if_ne (tgt := 11) hx hb dX9_storm_6 (by decide) (fun c4_ => absurd (by decide) c4_) (fun c4_ => ?_)
    refine lv_iconst (v := (-1)) hx hb dX9_storm_9 (by decide) ?_
    exact zret_i (v := (-1)) hx hb hr hlocks hS () (by show _ = _; rw [if_pos c2_]) (hW.sub [] (by decide) rfl) (Nat.le_of_ble_eq_true rfl) (Nat.le_of_ble_eq_true rfl) dX9_storm_10
  · have b5_ : 0 ≤ Int32.toInt p2 ∧ Int32.toInt p2 ≤ 2147483647 := (by have u0 := zbnd p2; have u1 := (not_congr (zi_lt _ _)).mp c2_; have u2 : (0 : Int32).toInt = 0 := (by decide); omega)
    rw [if_neg c2_] at hw
    by_cases c6_ : 3 < p2
    · have b7_ : 4 ≤ Int32.toInt p2 ∧ Int32.toInt p2 ≤ 2147483647 := (by have u0 := b5_; have u1 := (zi_lt _ _).mp c6_; have u2 : (3 : Int32).toInt = 3 := (by decide); omega)
      rw [if_pos c6_] at hw
      subst hw
      refine lv_if_ne (tgt := 11) hx hb dX9_storm_6 (by decide) (fun c8_ => absurd (by decide) c8_) (fun c8_ => ?_)
      refine lv_iconst (v := (-1)) hx hb dX9_storm_9 (by decide) ?_
      exact zret_i (v := (-1)) hx hb hr hlocks hS () (by show _ = _; rw [if_neg c2_, if_pos c6_]) (hW.sub [] (by decide) rfl) (Nat.le_of_ble_eq_true rfl) (Nat.le_of_ble_eq_true rfl) dX9_storm_10
    · have b9_ : 0 ≤ Int32.toInt p2 ∧ Int32.toInt p2 ≤ 3 := (by have u0 := b5_; have u1 := (not_congr (zi_lt _ _)).mp c6_; have u2 : (3 : Int32).toInt = 3 := (by decide); omega)
      rw [if_neg c6_] at hw
      subst hw
      refine lv_if_ne (tgt := 11) hx hb dX9_storm_6 (by decide) (fun c10_ => ?_) (fun c10_ => absurd c10_ (by decide))
      refine lv_iload_n hx hb dX9_storm_11 rfl (lv_at hl 1 rfl) ?_
      refine lv_iconst (v := 0) hx hb dX9_storm_12 (by decide) ?_
      refine lv_bipush (v := 99) hx hb dX9_storm_13 (by decide) ?_
      refine zgo0_i (zrunS (As := [.int p1, .int 0, .int 99]) (rest := []) ⟨hx, hb, hml, hown, ht⟩ (zc_X9_within_5 l D y p1) (va_cwS 3 ht (zgS zm_222 zm_223 zm_2 zm_224) rfl rfl rfl (by decide +kernel) ⟨(Nat.le_of_ble_eq_true rfl), (Nat.le_of_ble_eq_true rfl)⟩) hK hE hS hA hW [] (by decide) rfl rfl hl.1 rfl (Nat.le_of_ble_eq_true rfl) dX9_storm_15 (Nat.le_of_ble_eq_true rfl) (Nat.le_of_ble_eq_true rfl)) hS hA hW (fun r11_ u H locs hw hW hS => ?_)
      have hw : r11_ = (if p1 < 0 then 0 else (if 99 < p1 then 0 else 1)) := hw
      by_cases c12_ : p1 < 0
      · have b13_ : (-2147483648) ≤ Int32.toInt p1 ∧ Int32.toInt p1 ≤ (-1) := (by have u0 := zbnd p1; have u1 := (zi_lt _ _).mp c12_; have u2 : (0 : Int32).toInt = 0 := (by decide); omega)
        rw [if_pos c12_] at hw
        subst hw
        refine lv_if_ne (tgt := 24) hx hb dX9_storm_18 (by decide) (fun c14_ => absurd (by decide) c14_) (fun c14_ => ?_)
        refine lv_bipush (v := (-2)) hx hb dX9_storm_21 (by decide) ?_
        exact zret_i (v := (-2)) hx hb hr hlocks hS () (by show _ = _; rw [if_neg c2_, if_neg c6_, if_pos c12_]) (hW.sub [] (by decide) rfl) (Nat.le_of_ble_eq_true rfl) (Nat.le_of_ble_eq_true rfl) dX9_storm_23
      · have b15_ : 0 ≤ Int32.toInt p1 ∧ Int32.toInt p1 ≤ 2147483647 := (by have u0 := zbnd p1; have u1 := (not_congr (zi_lt _ _)).mp c12_; have u2 : (0 : Int32).toInt = 0 := (by decide); omega)
        rw [if_neg c12_] at hw
        by_cases c16_ : 99 < p1
        · have b17_ : 100 ≤ Int32.toInt p1 ∧ Int32.toInt p1 ≤ 2147483647 := (by have u0 := b15_; have u1 := (zi_lt _ _).mp c16_; have u2 : (99 : Int32).toInt = 99 := (by decide); omega)
          rw [if_pos c16_] at hw
          subst hw
          refine lv_if_ne (tgt := 24) hx hb dX9_storm_18 (by decide) (fun c18_ => absurd (by decide) c18_) (fun c18_ => ?_)
          refine lv_bipush (v := (-2)) hx hb dX9_storm_21 (by decide) ?_
          exact zret_i (v := (-2)) hx hb hr hlocks hS () (by show _ = _; rw [if_neg c2_, if_neg c6_, if_neg c12_, if_pos c16_]) (hW.sub [] (by decide) rfl) (Nat.le_of_ble_eq_true rfl) (Nat.le_of_ble_eq_true rfl) dX9_storm_23
        · have b19_ : 0 ≤ Int32.toInt p1 ∧ Int32.toInt p1 ≤ 99 := (by have u0 := b15_; have u1 := (not_congr (zi_lt _ _)).mp c16_; have u2 : (99 : Int32).toInt = 99 := (by decide); omega)
          rw [if_neg c16_] at hw
          subst hw
          refine lv_if_ne (tgt := 24) hx hb dX9_storm_18 (by decide) (fun c20_ => ?_) (fun c20_ => absurd c20_ (by decide))
          refine lv_aload_n hx hb dX9_storm_24 rfl (lv_at hl 0 rfl) ?_
          refine zget hx hb ht inlX9 hown hK hW 0 rfl rfl 3 (by decide) zm_23 rfl dX9_storm_25 ?_
          refine zget hx hb ht inlX7 hown hK hW 1 rfl rfl 2 (by decide) zm_435 rfl dX9_storm_28 ?_
          refine lv_istore_n (lv' := [(3, .int 20), (0, .ref a0), (1, .int p1), (2, .int p2)]) hx hb dX9_storm_31 rfl hl (by decide) rfl (fun ls hl => ?_)
          refine lv_aload_n hx hb dX9_storm_32 rfl (lv_at hl 1 rfl) ?_
          refine zget hx hb ht inlX9 hown hK hW 0 rfl rfl 3 (by decide) zm_23 rfl dX9_storm_33 ?_
          refine lv_iload_n hx hb dX9_storm_36 rfl (lv_at hl 2 rfl) ?_
          refine zput (ws' := [(a0, .inr (8, [w3, w4, w5, .ref a6, w7, w8, w9, w10, w11])), (a6, .inr (6, [w12, w13, .int p1, .int 0, w14, w15, w16, w17, w18, w19, w20, w21]))]) hx hb ht inlX7 tyX7 tyX7_ok nmX7 hown hK hS hW 1 rfl rfl 2 (by decide) zm_435 rfl rfl rfl (Nat.le_of_ble_eq_true rfl) rfl dX9_storm_37 (fun H locs hW hS => ?_)
          refine lv_aload_n hx hb dX9_storm_40 rfl (lv_at hl 1 rfl) ?_
          refine zget hx hb ht inlX9 hown hK hW 0 rfl rfl 3 (by decide) zm_23 rfl dX9_storm_41 ?_
          refine lv_iload_n hx hb dX9_storm_44 rfl (lv_at hl 3 rfl) ?_
          refine zput (ws' := [(a0, .inr (8, [w3, w4, w5, .ref a6, w7, w8, w9, w10, w11])), (a6, .inr (6, [w12, w13, .int p1, .int p2, w14, w15, w16, w17, w18, w19, w20, w21]))]) hx hb ht inlX7 tyX7 tyX7_ok nmX7 hown hK hS hW 1 rfl rfl 3 (by decide) zm_436 rfl rfl rfl (Nat.le_of_ble_eq_true rfl) rfl dX9_storm_45 (fun H locs hW hS => ?_)
          refine lv_iload_n hx hb dX9_storm_48 rfl (lv_at hl 0 rfl) ?_
          exact zret_i (v := 20) hx hb hr hlocks hS () (by show _ = _; rw [if_neg c2_, if_neg c6_, if_neg c12_, if_neg c16_]) (hW.sub [] (by decide) rfl) (Nat.le_of_ble_eq_true rfl) (Nat.le_of_ble_eq_true rfl) dX9_storm_49
set_option maxHeartbeats 8000000 in
set_option maxRecDepth 100000 in
theorem zc_X10_in_6 (l : Launch) (D : va_G) (y : Nat → ClassId) (a0 : Nat) (p1 : Int32) (w2 : Value) (w3 : Value) (w4 : Value) (w5 : Value) (w6 : Value) (w7 : Value) (w8 : Value) (w9 : Value) (w10 : Value) (w11 : Value) (w12 : Value) (w13 : Value) (w14 : Value) (w15 : Value) (w16 : Value) (w17 : Value) (w18 : Value) (w19 : Value) (w20 : Value) (w21 : Value) (w22 : Value) (w23 : Value) (w24 : Value) (w25 : Value) (w26 : Value) (w27 : Value) (w28 : Value) (w29 : Value) (w30 : Value) (w31 : Value) (w32 : Value) (w33 : Value) (w34 : Value) (w35 : Value) (w36 : Value) (w37 : Value) (w38 : Value) (w39 : Value) (w40 : Value) (w41 : Value) (w42 : Value) (w43 : Value) (w44 : Value) (w45 : Value) (w46 : Value) (w47 : Value) (w48 : Value) (w49 : Value) (w50 : Value) (w51 : Value) (w52 : Value) (w53 : Value) (w54 : Value) (w55 : Value) (w56 : Value) (w57 : Value) (w58 : Value) (w59 : Value) (w60 : Value) (w61 : Value) (w62 : Value) (w63 : Value) (w64 : Value) (w65 : Value) (w66 : Value) (w67 : Value) (w68 : Value) (w69 : Value) (w70 : Value) (w71 : Value) (w72 : Value) (w73 : Value) (w74 : Value) (w75 : Value) (w76 : Value) (w77 : Value) : zM l D y yX10_in (Cond.code yX10_in cX10_in 4 (some .boolean) :: zT) { frames := 0, cells := 0, slots := 0, locals := 0 } [.ref a0, .int p1, .int 0, .int 99] [(a0, .inr (9, [w2, w3, w4, w5, w6, w7, w8, w9, w10, w11, w12, w13, w14, w15, w16, w17, w18, w19, w20, w21, w22, w23, w24, w25, w26, w27, w28, w29, w30, w31, w32, w33, w34, w35, w36, w37, w38, w39, w40, w41, w42, w43, w44, w45, w46, w47, w48, w49, w50, w51, w52, w53, w54, w55, w56, w57, w58, w59, w60, w61, w62, w63, w64, w65, w66, w67, w68, w69, w70, w71, w72, w73, w74, w75, w76, w77]))] (zQi (S := Unit) D (fun r_ _ => r_ = (if p1 < 0 then 0 else (if 99 < p1 then 0 else 1))) (fun _ => [(a0, .inr (9, [w2, w3, w4, w5, w6, w7, w8, w9, w10, w11, w12, w13, w14, w15, w16, w17, w18, w19, w20, w21, w22, w23, w24, w25, w26, w27, w28, w29, w30, w31, w32, w33, w34, w35, w36, w37, w38, w39, w40, w41, w42, w43, w44, w45, w46, w47, w48, w49, w50, w51, w52, w53, w54, w55, w56, w57, w58, w59, w60, w61, w62, w63, w64, w65, w66, w67, w68, w69, w70, w71, w72, w73, w74, w75, w76, w77]))])) := by
  refine zent (cc := cX10_in) (maxL := 4) (ret := (some .boolean)) (by decide) (Nat.le_of_ble_eq_true rfl) ?_
  intro p e s m below meth c A H locs ls hx hb hml hr ht hown hlocks hin hA hK hE hS hW hl
  have hown : s.vm.findClass RX10 = some m.cls := hown
  have hW : zPD D A [(a0, .inr (9, [w2, w3, w4, w5, w6, w7, w8, w9, w10, w11, w12, w13, w14, w15, w16, w17, w18, w19, w20, w21, w22, w23, w24, w25, w26, w27, w28, w29, w30, w31, w32, w33, w34, w35, w36, w37, w38, w39, w40, w41, w42, w43, w44, w45, w46, w47, w48, w49, w50, w51, w52, w53, w54, w55, w56, w57, w58, w59, w60, w61, w62, w63, w64, w65, w66, w67, w68, w69, w70, w71, w72, w73, w74, w75, w76, w77]))] H := hW
  have hl : lv_has ls 4 [(0, .ref a0), (1, .int p1), (2, .int 0), (3, .int 99)] := hl
  refine lv_iload_n hx hb dX10_in_0 rfl (lv_at hl 1 rfl) ?_
  refine lv_iload_n hx hb dX10_in_1 rfl (lv_at hl 2 rfl) ?_
  refine lv_icmp_lt (tgt := 14) hx hb dX10_in_2 (by decide) (fun c1_ => ?_) (fun c1_ => ?_)
  · have b2_ : (-2147483648) ≤ Int32.toInt p1 ∧ Int32.toInt p1 ≤ (-1) := (by have u0 := zbnd p1; have u1 := (zi_lt _ _).mp c1_; have u2 : (0 : Int32).toInt = 0 := (by decide); omega)
    refine lv_iconst (v := 0) hx hb dX10_in_14 (by decide) ?_
    exact zret_z (v := 0) hx hb hr hlocks hS () rfl (by show _ = _; rw [if_pos c1_]) hW (Nat.le_of_ble_eq_true rfl) (Nat.le_of_ble_eq_true rfl) dX10_in_15
  · have b3_ : 0 ≤ Int32.toInt p1 ∧ Int32.toInt p1 ≤ 2147483647 := (by have u0 := zbnd p1; have u1 := (not_congr (zi_lt _ _)).mp c1_; have u2 : (0 : Int32).toInt = 0 := (by decide); omega)
    refine lv_iload_n hx hb dX10_in_5 rfl (lv_at hl 1 rfl) ?_
    refine lv_iload_n hx hb dX10_in_6 rfl (lv_at hl 3 rfl) ?_
    refine lv_icmp_gt (tgt := 14) hx hb dX10_in_7 (by decide) (fun c4_ => ?_) (fun c4_ => ?_)
    · have b5_ : 100 ≤ Int32.toInt p1 ∧ Int32.toInt p1 ≤ 2147483647 := (by have u0 := b3_; have u1 := (zi_lt _ _).mp c4_; have u2 : (99 : Int32).toInt = 99 := (by decide); omega)
      refine lv_iconst (v := 0) hx hb dX10_in_14 (by decide) ?_
      exact zret_z (v := 0) hx hb hr hlocks hS () rfl (by show _ = _; rw [if_neg c1_, if_pos c4_]) hW (Nat.le_of_ble_eq_true rfl) (Nat.le_of_ble_eq_true rfl) dX10_in_15
    · have b6_ : 0 ≤ Int32.toInt p1 ∧ Int32.toInt p1 ≤ 99 := (by have u0 := b3_; have u1 := (not_congr (zi_lt _ _)).mp c4_; have u2 : (99 : Int32).toInt = 99 := (by decide); omega)
      refine lv_iconst (v := 1) hx hb dX10_in_10 (by decide) ?_
      refine lv_goto (tgt := 15) hx hb dX10_in_11 (by decide) ?_
      exact zret_z (v := 1) hx hb hr hlocks hS () rfl (by show _ = _; rw [if_neg c1_, if_neg c4_]) hW (Nat.le_of_ble_eq_true rfl) (Nat.le_of_ble_eq_true rfl) dX10_in_15
set_option maxHeartbeats 8000000 in
set_option maxRecDepth 100000 in
theorem zc_X10_storm_0 (l : Launch) (D : va_G) (y : Nat → ClassId) (a0 : Nat) (p1 : Int32) (p2 : Int32) (w3 : Value) (w4 : Value) (w5 : Value) (w6 : Value) (w7 : Value) (w8 : Value) (w9 : Value) (w10 : Value) (w11 : Value) (w12 : Value) (w13 : Value) (w14 : Value) (w15 : Value) (w16 : Value) (w17 : Value) (w18 : Value) (w19 : Value) (w20 : Value) (w21 : Value) (w22 : Value) (w23 : Value) (w24 : Value) (w25 : Value) (w26 : Value) (w27 : Value) (w28 : Value) (w29 : Value) (w30 : Value) (w31 : Value) (w32 : Value) (w33 : Value) (w34 : Value) (w35 : Value) (w36 : Value) (w37 : Value) (w38 : Value) (w39 : Value) (w40 : Value) (w41 : Value) (w42 : Value) (w43 : Value) (w44 : Value) (w45 : Value) (w46 : Value) (w47 : Value) (w48 : Value) (w49 : Value) (w50 : Value) (w51 : Value) (w52 : Value) (w53 : Value) (w54 : Value) (w55 : Value) (w56 : Value) (w57 : Value) (w58 : Value) (w59 : Value) (w60 : Value) (w61 : Value) (w62 : Value) (w63 : Value) (w64 : Value) (w65 : Value) (w66 : Value) (w67 : Value) (w68 : Value) (w69 : Value) (w70 : Value) (w71 : Value) (w72 : Value) (w73 : Value) (w74 : Value) (w75 : Value) (w76 : Value) : zM l D y yX10_storm (Cond.code yX10_storm cX10_storm 4 (some .int) :: zT) { frames := 1, cells := 0, slots := 0, locals := 23 } [.ref a0, .int p1, .int p2] [(a0, .inr (9, [w3, w4, w5, .int 20, .int 0, w6, w7, w8, w9, w10, w11, w12, w13, w14, w15, w16, w17, w18, w19, w20, w21, w22, w23, w24, w25, w26, w27, w28, w29, w30, w31, w32, w33, w34, w35, w36, w37, w38, w39, w40, w41, w42, w43, w44, w45, w46, w47, w48, w49, w50, w51, w52, w53, w54, w55, w56, w57, w58, w59, w60, w61, w62, w63, w64, w65, w66, w67, w68, w69, w70, w71, w72, w73, w74, w75, w76]))] (zQi (S := Unit) D (fun r_ _ => r_ = (if p2 < 0 then (-1) else (if 3 < p2 then (-1) else (if p1 < 0 then (-2) else (if 99 < p1 then (-2) else 20))))) (fun _ => [])) := by
  refine zent (cc := cX10_storm) (maxL := 4) (ret := (some .int)) (by decide) (Nat.le_of_ble_eq_true rfl) ?_
  intro p e s m below meth c A H locs ls hx hb hml hr ht hown hlocks hin hA hK hE hS hW hl
  have hown : s.vm.findClass RX10 = some m.cls := hown
  have hW : zPD D A [(a0, .inr (9, [w3, w4, w5, .int 20, .int 0, w6, w7, w8, w9, w10, w11, w12, w13, w14, w15, w16, w17, w18, w19, w20, w21, w22, w23, w24, w25, w26, w27, w28, w29, w30, w31, w32, w33, w34, w35, w36, w37, w38, w39, w40, w41, w42, w43, w44, w45, w46, w47, w48, w49, w50, w51, w52, w53, w54, w55, w56, w57, w58, w59, w60, w61, w62, w63, w64, w65, w66, w67, w68, w69, w70, w71, w72, w73, w74, w75, w76]))] H := hW
  have hl : lv_has ls 4 [(0, .ref a0), (1, .int p1), (2, .int p2)] := hl
  refine lv_aload_n hx hb dX10_storm_0 rfl (lv_at hl 0 rfl) ?_
  refine lv_iload_n hx hb dX10_storm_1 rfl (lv_at hl 2 rfl) ?_
  refine lv_iconst (v := 0) hx hb dX10_storm_2 (by decide) ?_
  refine lv_iconst (v := 3) hx hb dX10_storm_3 (by decide) ?_
  refine zgo_i (wr := []) (zrunV (As := [.int p2, .int 0, .int 3]) (rest := []) ⟨hx, hb, hml, hown, ht⟩ (zc_X10_in_2 l D y a0 p2 w3 w4 w5 (.int 20) (.int 0) w6 w7 w8 w9 w10 w11 w12 w13 w14 w15 w16 w17 w18 w19 w20 w21 w22 w23 w24 w25 w26 w27 w28 w29 w30 w31 w32 w33 w34 w35 w36 w37 w38 w39 w40 w41 w42 w43 w44 w45 w46 w47 w48 w49 w50 w51 w52 w53 w54 w55 w56 w57 w58 w59 w60 w61 w62 w63 w64 w65 w66 w67 w68 w69 w70 w71 w72 w73 w74 w75 w76) (cwV 3 ht (zgV zm_240 zm_241 zm_242 zm_5 zm_243) rfl rfl rfl (by decide +kernel) ⟨(Nat.le_of_ble_eq_true rfl), (Nat.le_of_ble_eq_true rfl)⟩) hK hE hS hA hW [0] (by decide) rfl 0 rfl rfl rfl rfl hl.1 rfl (Nat.le_of_ble_eq_true rfl) dX10_storm_4 (Nat.le_of_ble_eq_true rfl) (Nat.le_of_ble_eq_true rfl)) hS hA hW [0] [] rfl rfl (by decide) (by decide) (fun r1_ u H locs hw hW hS => ?_)
  have hW : zPD D A [(a0, .inr (9, [w3, w4, w5, .int 20, .int 0, w6, w7, w8, w9, w10, w11, w12, w13, w14, w15, w16, w17, w18, w19, w20, w21, w22, w23, w24, w25, w26, w27, w28, w29, w30, w31, w32, w33, w34, w35, w36, w37, w38, w39, w40, w41, w42, w43, w44, w45, w46, w47, w48, w49, w50, w51, w52, w53, w54, w55, w56, w57, w58, w59, w60, w61, w62, w63, w64, w65, w66, w67, w68, w69, w70, w71, w72, w73, w74, w75, w76]))] H := hW
  have hw : r1_ = (if p2 < 0 then 0 else (if 3 < p2 then 0 else 1)) := hw
  by_cases c2_ : p2 < 0
  · have b3_ : (-2147483648) ≤ Int32.toInt p2 ∧ Int32.toInt p2 ≤ (-1) := (by have u0 := zbnd p2; have u1 := (zi_lt _ _).mp c2_; have u2 : (0 : Int32).toInt = 0 := (by decide); omega)
    rw [if_pos c2_] at hw
    subst hw
    refine lv_if_ne (tgt := 12) hx hb dX10_storm_7 (by decide) (fun c4_ => absurd (by decide) c4_) (fun c4_ => ?_)
    refine lv_iconst (v := (-1)) hx hb dX10_storm_10 (by decide) ?_
    exact zret_i (v := (-1)) hx hb hr hlocks hS () (by show _ = _; rw [if_pos c2_]) (hW.sub [] (by decide) rfl) (Nat.le_of_ble_eq_true rfl) (Nat.le_of_ble_eq_true rfl) dX10_storm_11
  · have b5_ : 0 ≤ Int32.toInt p2 ∧ Int32.toInt p2 ≤ 2147483647 := (by have u0 := zbnd p2; have u1 := (not_congr (zi_lt _ _)).mp c2_; have u2 : (0 : Int32).toInt = 0 := (by decide); omega)
    rw [if_neg c2_] at hw
    by_cases c6_ : 3 < p2
    · have b7_ : 4 ≤ Int32.toInt p2 ∧ Int32.toInt p2 ≤ 2147483647 := (by have u0 := b5_; have u1 := (zi_lt _ _).mp c6_; have u2 : (3 : Int32).toInt = 3 := (by decide); omega)
      rw [if_pos c6_] at hw
      subst hw
      refine lv_if_ne (tgt := 12) hx hb dX10_storm_7 (by decide) (fun c8_ => absurd (by decide) c8_) (fun c8_ => ?_)
      refine lv_iconst (v := (-1)) hx hb dX10_storm_10 (by decide) ?_
      exact zret_i (v := (-1)) hx hb hr hlocks hS () (by show _ = _; rw [if_neg c2_, if_pos c6_]) (hW.sub [] (by decide) rfl) (Nat.le_of_ble_eq_true rfl) (Nat.le_of_ble_eq_true rfl) dX10_storm_11
    · have b9_ : 0 ≤ Int32.toInt p2 ∧ Int32.toInt p2 ≤ 3 := (by have u0 := b5_; have u1 := (not_congr (zi_lt _ _)).mp c6_; have u2 : (3 : Int32).toInt = 3 := (by decide); omega)
      rw [if_neg c6_] at hw
      subst hw
      refine lv_if_ne (tgt := 12) hx hb dX10_storm_7 (by decide) (fun c10_ => ?_) (fun c10_ => absurd c10_ (by decide))
      refine lv_aload_n hx hb dX10_storm_12 rfl (lv_at hl 0 rfl) ?_
      refine lv_iload_n hx hb dX10_storm_13 rfl (lv_at hl 1 rfl) ?_
      refine lv_iconst (v := 0) hx hb dX10_storm_14 (by decide) ?_
      refine lv_bipush (v := 99) hx hb dX10_storm_15 (by decide) ?_
      refine zgo_i (wr := []) (zrunV (As := [.int p1, .int 0, .int 99]) (rest := []) ⟨hx, hb, hml, hown, ht⟩ (zc_X10_in_6 l D y a0 p1 w3 w4 w5 (.int 20) (.int 0) w6 w7 w8 w9 w10 w11 w12 w13 w14 w15 w16 w17 w18 w19 w20 w21 w22 w23 w24 w25 w26 w27 w28 w29 w30 w31 w32 w33 w34 w35 w36 w37 w38 w39 w40 w41 w42 w43 w44 w45 w46 w47 w48 w49 w50 w51 w52 w53 w54 w55 w56 w57 w58 w59 w60 w61 w62 w63 w64 w65 w66 w67 w68 w69 w70 w71 w72 w73 w74 w75 w76) (cwV 3 ht (zgV zm_240 zm_241 zm_242 zm_5 zm_243) rfl rfl rfl (by decide +kernel) ⟨(Nat.le_of_ble_eq_true rfl), (Nat.le_of_ble_eq_true rfl)⟩) hK hE hS hA hW [0] (by decide) rfl 0 rfl rfl rfl rfl hl.1 rfl (Nat.le_of_ble_eq_true rfl) dX10_storm_17 (Nat.le_of_ble_eq_true rfl) (Nat.le_of_ble_eq_true rfl)) hS hA hW [0] [] rfl rfl (by decide) (by decide) (fun r11_ u H locs hw hW hS => ?_)
      have hW : zPD D A [(a0, .inr (9, [w3, w4, w5, .int 20, .int 0, w6, w7, w8, w9, w10, w11, w12, w13, w14, w15, w16, w17, w18, w19, w20, w21, w22, w23, w24, w25, w26, w27, w28, w29, w30, w31, w32, w33, w34, w35, w36, w37, w38, w39, w40, w41, w42, w43, w44, w45, w46, w47, w48, w49, w50, w51, w52, w53, w54, w55, w56, w57, w58, w59, w60, w61, w62, w63, w64, w65, w66, w67, w68, w69, w70, w71, w72, w73, w74, w75, w76]))] H := hW
      have hw : r11_ = (if p1 < 0 then 0 else (if 99 < p1 then 0 else 1)) := hw
      by_cases c12_ : p1 < 0
      · have b13_ : (-2147483648) ≤ Int32.toInt p1 ∧ Int32.toInt p1 ≤ (-1) := (by have u0 := zbnd p1; have u1 := (zi_lt _ _).mp c12_; have u2 : (0 : Int32).toInt = 0 := (by decide); omega)
        rw [if_pos c12_] at hw
        subst hw
        refine lv_if_ne (tgt := 26) hx hb dX10_storm_20 (by decide) (fun c14_ => absurd (by decide) c14_) (fun c14_ => ?_)
        refine lv_bipush (v := (-2)) hx hb dX10_storm_23 (by decide) ?_
        exact zret_i (v := (-2)) hx hb hr hlocks hS () (by show _ = _; rw [if_neg c2_, if_neg c6_, if_pos c12_]) (hW.sub [] (by decide) rfl) (Nat.le_of_ble_eq_true rfl) (Nat.le_of_ble_eq_true rfl) dX10_storm_25
      · have b15_ : 0 ≤ Int32.toInt p1 ∧ Int32.toInt p1 ≤ 2147483647 := (by have u0 := zbnd p1; have u1 := (not_congr (zi_lt _ _)).mp c12_; have u2 : (0 : Int32).toInt = 0 := (by decide); omega)
        rw [if_neg c12_] at hw
        by_cases c16_ : 99 < p1
        · have b17_ : 100 ≤ Int32.toInt p1 ∧ Int32.toInt p1 ≤ 2147483647 := (by have u0 := b15_; have u1 := (zi_lt _ _).mp c16_; have u2 : (99 : Int32).toInt = 99 := (by decide); omega)
          rw [if_pos c16_] at hw
          subst hw
          refine lv_if_ne (tgt := 26) hx hb dX10_storm_20 (by decide) (fun c18_ => absurd (by decide) c18_) (fun c18_ => ?_)
          refine lv_bipush (v := (-2)) hx hb dX10_storm_23 (by decide) ?_
          exact zret_i (v := (-2)) hx hb hr hlocks hS () (by show _ = _; rw [if_neg c2_, if_neg c6_, if_neg c12_, if_pos c16_]) (hW.sub [] (by decide) rfl) (Nat.le_of_ble_eq_true rfl) (Nat.le_of_ble_eq_true rfl) dX10_storm_25
        · have b19_ : 0 ≤ Int32.toInt p1 ∧ Int32.toInt p1 ≤ 99 := (by have u0 := b15_; have u1 := (not_congr (zi_lt _ _)).mp c16_; have u2 : (99 : Int32).toInt = 99 := (by decide); omega)
          rw [if_neg c16_] at hw
          subst hw
          refine lv_if_ne (tgt := 26) hx hb dX10_storm_20 (by decide) (fun c20_ => ?_) (fun c20_ => absurd c20_ (by decide))
          refine lv_aload_n hx hb dX10_storm_26 rfl (lv_at hl 0 rfl) ?_
          refine zget hx hb ht inlX10 hown hK hW 0 rfl rfl 3 (by decide) zm_143 rfl dX10_storm_27 ?_
          refine lv_istore_n (lv' := [(3, .int 20), (0, .ref a0), (1, .int p1), (2, .int p2)]) hx hb dX10_storm_30 rfl hl (by decide) rfl (fun ls hl => ?_)
          refine lv_aload_n hx hb dX10_storm_31 rfl (lv_at hl 1 rfl) ?_
          refine lv_iload_n hx hb dX10_storm_32 rfl (lv_at hl 2 rfl) ?_
          refine zput (ws' := [(a0, .inr (9, [w3, w4, w5, .int p1, .int 0, w6, w7, w8, w9, w10, w11, w12, w13, w14, w15, w16, w17, w18, w19, w20, w21, w22, w23, w24, w25, w26, w27, w28, w29, w30, w31, w32, w33, w34, w35, w36, w37, w38, w39, w40, w41, w42, w43, w44, w45, w46, w47, w48, w49, w50, w51, w52, w53, w54, w55, w56, w57, w58, w59, w60, w61, w62, w63, w64, w65, w66, w67, w68, w69, w70, w71, w72, w73, w74, w75, w76]))]) hx hb ht inlX10 tyX10 tyX10_ok nmX10 hown hK hS hW 0 rfl rfl 3 (by decide) zm_143 rfl rfl rfl (Nat.le_of_ble_eq_true rfl) rfl dX10_storm_33 (fun H locs hW hS => ?_)
          refine lv_aload_n hx hb dX10_storm_36 rfl (lv_at hl 1 rfl) ?_
          refine lv_iload_n hx hb dX10_storm_37 rfl (lv_at hl 3 rfl) ?_
          refine zput (ws' := [(a0, .inr (9, [w3, w4, w5, .int p1, .int p2, w6, w7, w8, w9, w10, w11, w12, w13, w14, w15, w16, w17, w18, w19, w20, w21, w22, w23, w24, w25, w26, w27, w28, w29, w30, w31, w32, w33, w34, w35, w36, w37, w38, w39, w40, w41, w42, w43, w44, w45, w46, w47, w48, w49, w50, w51, w52, w53, w54, w55, w56, w57, w58, w59, w60, w61, w62, w63, w64, w65, w66, w67, w68, w69, w70, w71, w72, w73, w74, w75, w76]))]) hx hb ht inlX10 tyX10 tyX10_ok nmX10 hown hK hS hW 0 rfl rfl 4 (by decide) zm_144 rfl rfl rfl (Nat.le_of_ble_eq_true rfl) rfl dX10_storm_38 (fun H locs hW hS => ?_)
          refine lv_iload_n hx hb dX10_storm_41 rfl (lv_at hl 0 rfl) ?_
          exact zret_i (v := 20) hx hb hr hlocks hS () (by show _ = _; rw [if_neg c2_, if_neg c6_, if_neg c12_, if_neg c16_]) (hW.sub [] (by decide) rfl) (Nat.le_of_ble_eq_true rfl) (Nat.le_of_ble_eq_true rfl) dX10_storm_42
set_option maxHeartbeats 8000000 in
set_option maxRecDepth 100000 in
theorem zc_X9_stand_0 (l : Launch) (D : va_G) (y : Nat → ClassId) (a0 : Nat) (p1 : Int32) (p2 : Int32) (w3 : Value) (w4 : Value) (w5 : Value) (a6 : Nat) (w7 : Value) (w8 : Value) (w9 : Value) (w10 : Value) (w11 : Value) (w12 : Value) (w13 : Value) (w14 : Value) (w15 : Value) (w16 : Value) (w17 : Value) (w18 : Value) (w19 : Value) (w20 : Value) (w21 : Value) : zM l D y yX9_stand (Cond.code yX9_stand cX9_stand 3 (some .int) :: zT) { frames := 2, cells := 0, slots := 0, locals := 43 } [.ref a0, .int p1, .int p2] [(a0, .inr (8, [w3, w4, w5, .ref a6, w7, w8, w9, w10, w11])), (a6, .inr (6, [w12, w13, w14, w15, w16, w17, .int 0, .int 0, w18, w19, w20, w21]))] (zQi (S := Unit) D (fun r_ _ => r_ = (if p1 < 0 then (-2) else (if 3 < p1 then (-2) else (if p2 < 0 then (-2) else (if 4 < p2 then (-2) else 1))))) (fun _ => [])) := by
  refine zent (cc := cX9_stand) (maxL := 3) (ret := (some .int)) (by decide) (Nat.le_of_ble_eq_true rfl) ?_
  intro p e s m below meth c A H locs ls hx hb hml hr ht hown hlocks hin hA hK hE hS hW hl
  have hown : s.vm.findClass RX9 = some m.cls := hown
  have hW : zPD D A [(a0, .inr (8, [w3, w4, w5, .ref a6, w7, w8, w9, w10, w11])), (a6, .inr (6, [w12, w13, w14, w15, w16, w17, .int 0, .int 0, w18, w19, w20, w21]))] H := hW
  have hl : lv_has ls 3 [(0, .ref a0), (1, .int p1), (2, .int p2)] := hl
  refine lv_iload_n hx hb dX9_stand_0 rfl (lv_at hl 1 rfl) ?_
  refine lv_iload_n hx hb dX9_stand_1 rfl (lv_at hl 2 rfl) ?_
  refine zgo0_i (zrunS (As := [.int p1, .int p2]) (rest := []) ⟨hx, hb, hml, hown, ht⟩ (zc_X9_isPlace_0 l D y p1 p2) (va_cwS 2 ht (zgS zm_225 zm_226 zm_2 zm_227) rfl rfl rfl (by decide +kernel) ⟨(Nat.le_of_ble_eq_true rfl), (Nat.le_of_ble_eq_true rfl)⟩) hK hE hS hA hW [] (by decide) rfl rfl hl.1 rfl (Nat.le_of_ble_eq_true rfl) dX9_stand_2 (Nat.le_of_ble_eq_true rfl) (Nat.le_of_ble_eq_true rfl)) hS hA hW (fun r1_ u H locs hw hW hS => ?_)
  have hw : r1_ = (if p1 < 0 then 0 else (if 3 < p1 then 0 else (if p2 < 0 then 0 else (if 4 < p2 then 0 else 1)))) := hw
  by_cases c2_ : p1 < 0
  · have b3_ : (-2147483648) ≤ Int32.toInt p1 ∧ Int32.toInt p1 ≤ (-1) := (by have u0 := zbnd p1; have u1 := (zi_lt _ _).mp c2_; have u2 : (0 : Int32).toInt = 0 := (by decide); omega)
    rw [if_pos c2_] at hw
    subst hw
    refine lv_if_ne (tgt := 11) hx hb dX9_stand_5 (by decide) (fun c4_ => absurd (by decide) c4_) (fun c4_ => ?_)
    refine lv_bipush (v := (-2)) hx hb dX9_stand_8 (by decide) ?_
    exact zret_i (v := (-2)) hx hb hr hlocks hS () (by show _ = _; rw [if_pos c2_]) (hW.sub [] (by decide) rfl) (Nat.le_of_ble_eq_true rfl) (Nat.le_of_ble_eq_true rfl) dX9_stand_10
  · have b5_ : 0 ≤ Int32.toInt p1 ∧ Int32.toInt p1 ≤ 2147483647 := (by have u0 := zbnd p1; have u1 := (not_congr (zi_lt _ _)).mp c2_; have u2 : (0 : Int32).toInt = 0 := (by decide); omega)
    rw [if_neg c2_] at hw
    by_cases c6_ : 3 < p1
    · have b7_ : 4 ≤ Int32.toInt p1 ∧ Int32.toInt p1 ≤ 2147483647 := (by have u0 := b5_; have u1 := (zi_lt _ _).mp c6_; have u2 : (3 : Int32).toInt = 3 := (by decide); omega)
      rw [if_pos c6_] at hw
      subst hw
      refine lv_if_ne (tgt := 11) hx hb dX9_stand_5 (by decide) (fun c8_ => absurd (by decide) c8_) (fun c8_ => ?_)
      refine lv_bipush (v := (-2)) hx hb dX9_stand_8 (by decide) ?_
      exact zret_i (v := (-2)) hx hb hr hlocks hS () (by show _ = _; rw [if_neg c2_, if_pos c6_]) (hW.sub [] (by decide) rfl) (Nat.le_of_ble_eq_true rfl) (Nat.le_of_ble_eq_true rfl) dX9_stand_10
    · have b9_ : 0 ≤ Int32.toInt p1 ∧ Int32.toInt p1 ≤ 3 := (by have u0 := b5_; have u1 := (not_congr (zi_lt _ _)).mp c6_; have u2 : (3 : Int32).toInt = 3 := (by decide); omega)
      rw [if_neg c6_] at hw
      by_cases c10_ : p2 < 0
      · have b11_ : (-2147483648) ≤ Int32.toInt p2 ∧ Int32.toInt p2 ≤ (-1) := (by have u0 := zbnd p2; have u1 := (zi_lt _ _).mp c10_; have u2 : (0 : Int32).toInt = 0 := (by decide); omega)
        rw [if_pos c10_] at hw
        subst hw
        refine lv_if_ne (tgt := 11) hx hb dX9_stand_5 (by decide) (fun c12_ => absurd (by decide) c12_) (fun c12_ => ?_)
        refine lv_bipush (v := (-2)) hx hb dX9_stand_8 (by decide) ?_
        exact zret_i (v := (-2)) hx hb hr hlocks hS () (by show _ = _; rw [if_neg c2_, if_neg c6_, if_pos c10_]) (hW.sub [] (by decide) rfl) (Nat.le_of_ble_eq_true rfl) (Nat.le_of_ble_eq_true rfl) dX9_stand_10
      · have b13_ : 0 ≤ Int32.toInt p2 ∧ Int32.toInt p2 ≤ 2147483647 := (by have u0 := zbnd p2; have u1 := (not_congr (zi_lt _ _)).mp c10_; have u2 : (0 : Int32).toInt = 0 := (by decide); omega)
        rw [if_neg c10_] at hw
        by_cases c14_ : 4 < p2
        · have b15_ : 5 ≤ Int32.toInt p2 ∧ Int32.toInt p2 ≤ 2147483647 := (by have u0 := b13_; have u1 := (zi_lt _ _).mp c14_; have u2 : (4 : Int32).toInt = 4 := (by decide); omega)
          rw [if_pos c14_] at hw
          subst hw
          refine lv_if_ne (tgt := 11) hx hb dX9_stand_5 (by decide) (fun c16_ => absurd (by decide) c16_) (fun c16_ => ?_)
          refine lv_bipush (v := (-2)) hx hb dX9_stand_8 (by decide) ?_
          exact zret_i (v := (-2)) hx hb hr hlocks hS () (by show _ = _; rw [if_neg c2_, if_neg c6_, if_neg c10_, if_pos c14_]) (hW.sub [] (by decide) rfl) (Nat.le_of_ble_eq_true rfl) (Nat.le_of_ble_eq_true rfl) dX9_stand_10
        · have b17_ : 0 ≤ Int32.toInt p2 ∧ Int32.toInt p2 ≤ 4 := (by have u0 := b13_; have u1 := (not_congr (zi_lt _ _)).mp c14_; have u2 : (4 : Int32).toInt = 4 := (by decide); omega)
          rw [if_neg c14_] at hw
          subst hw
          refine lv_if_ne (tgt := 11) hx hb dX9_stand_5 (by decide) (fun c18_ => ?_) (fun c18_ => absurd c18_ (by decide))
          refine lv_aload_n hx hb dX9_stand_11 rfl (lv_at hl 0 rfl) ?_
          refine zget hx hb ht inlX9 hown hK hW 0 rfl rfl 3 (by decide) zm_23 rfl dX9_stand_12 ?_
          refine lv_iload_n hx hb dX9_stand_15 rfl (lv_at hl 1 rfl) ?_
          refine zput (ws' := [(a0, .inr (8, [w3, w4, w5, .ref a6, w7, w8, w9, w10, w11])), (a6, .inr (6, [w12, w13, w14, w15, w16, w17, .int p1, .int 0, w18, w19, w20, w21]))]) hx hb ht inlX7 tyX7 tyX7_ok nmX7 hown hK hS hW 1 rfl rfl 6 (by decide) zm_258 rfl rfl rfl (Nat.le_of_ble_eq_true rfl) rfl dX9_stand_16 (fun H locs hW hS => ?_)
          refine lv_aload_n hx hb dX9_stand_19 rfl (lv_at hl 0 rfl) ?_
          refine zget hx hb ht inlX9 hown hK hW 0 rfl rfl 3 (by decide) zm_23 rfl dX9_stand_20 ?_
          refine lv_iload_n hx hb dX9_stand_23 rfl (lv_at hl 2 rfl) ?_
          refine zput (ws' := [(a0, .inr (8, [w3, w4, w5, .ref a6, w7, w8, w9, w10, w11])), (a6, .inr (6, [w12, w13, w14, w15, w16, w17, .int p1, .int p2, w18, w19, w20, w21]))]) hx hb ht inlX7 tyX7 tyX7_ok nmX7 hown hK hS hW 1 rfl rfl 7 (by decide) zm_259 rfl rfl rfl (Nat.le_of_ble_eq_true rfl) rfl dX9_stand_24 (fun H locs hW hS => ?_)
          refine lv_iconst (v := 1) hx hb dX9_stand_27 (by decide) ?_
          exact zret_i (v := 1) hx hb hr hlocks hS () (by show _ = _; rw [if_neg c2_, if_neg c6_, if_neg c10_, if_neg c14_]) (hW.sub [] (by decide) rfl) (Nat.le_of_ble_eq_true rfl) (Nat.le_of_ble_eq_true rfl) dX9_stand_28
set_option maxHeartbeats 8000000 in
set_option maxRecDepth 100000 in
theorem zc_X10_stand_0 (l : Launch) (D : va_G) (y : Nat → ClassId) (a0 : Nat) (p1 : Int32) (p2 : Int32) (w3 : Value) (w4 : Value) (w5 : Value) (w6 : Value) (w7 : Value) (w8 : Value) (w9 : Value) (w10 : Value) (w11 : Value) (w12 : Value) (w13 : Value) (w14 : Value) (w15 : Value) (w16 : Value) (w17 : Value) (w18 : Value) (w19 : Value) (w20 : Value) (w21 : Value) (w22 : Value) (w23 : Value) (w24 : Value) (w25 : Value) (w26 : Value) (w27 : Value) (w28 : Value) (w29 : Value) (w30 : Value) (w31 : Value) (w32 : Value) (w33 : Value) (w34 : Value) (w35 : Value) (w36 : Value) (w37 : Value) (w38 : Value) (w39 : Value) (w40 : Value) (w41 : Value) (w42 : Value) (w43 : Value) (w44 : Value) (w45 : Value) (w46 : Value) (w47 : Value) (w48 : Value) (w49 : Value) (w50 : Value) (w51 : Value) (w52 : Value) (w53 : Value) (w54 : Value) (w55 : Value) (w56 : Value) (w57 : Value) (w58 : Value) (w59 : Value) (w60 : Value) (w61 : Value) (w62 : Value) (w63 : Value) (w64 : Value) (w65 : Value) (w66 : Value) (w67 : Value) (w68 : Value) (w69 : Value) (w70 : Value) (w71 : Value) (w72 : Value) (w73 : Value) (w74 : Value) (w75 : Value) (w76 : Value) : zM l D y yX10_stand (Cond.code yX10_stand cX10_stand 3 (some .int) :: zT) { frames := 2, cells := 0, slots := 0, locals := 45 } [.ref a0, .int p1, .int p2] [(a0, .inr (9, [w3, w4, w5, w6, w7, .int 0, .int 0, w8, w9, w10, w11, w12, w13, w14, w15, w16, w17, w18, w19, w20, w21, w22, w23, w24, w25, w26, w27, w28, w29, w30, w31, w32, w33, w34, w35, w36, w37, w38, w39, w40, w41, w42, w43, w44, w45, w46, w47, w48, w49, w50, w51, w52, w53, w54, w55, w56, w57, w58, w59, w60, w61, w62, w63, w64, w65, w66, w67, w68, w69, w70, w71, w72, w73, w74, w75, w76]))] (zQi (S := Unit) D (fun r_ _ => r_ = (if p1 < 0 then (-2) else (if 3 < p1 then (-2) else (if p2 < 0 then (-2) else (if 4 < p2 then (-2) else 1))))) (fun _ => [])) := by
  refine zent (cc := cX10_stand) (maxL := 3) (ret := (some .int)) (by decide) (Nat.le_of_ble_eq_true rfl) ?_
  intro p e s m below meth c A H locs ls hx hb hml hr ht hown hlocks hin hA hK hE hS hW hl
  have hown : s.vm.findClass RX10 = some m.cls := hown
  have hW : zPD D A [(a0, .inr (9, [w3, w4, w5, w6, w7, .int 0, .int 0, w8, w9, w10, w11, w12, w13, w14, w15, w16, w17, w18, w19, w20, w21, w22, w23, w24, w25, w26, w27, w28, w29, w30, w31, w32, w33, w34, w35, w36, w37, w38, w39, w40, w41, w42, w43, w44, w45, w46, w47, w48, w49, w50, w51, w52, w53, w54, w55, w56, w57, w58, w59, w60, w61, w62, w63, w64, w65, w66, w67, w68, w69, w70, w71, w72, w73, w74, w75, w76]))] H := hW
  have hl : lv_has ls 3 [(0, .ref a0), (1, .int p1), (2, .int p2)] := hl
  refine lv_aload_n hx hb dX10_stand_0 rfl (lv_at hl 0 rfl) ?_
  refine lv_iload_n hx hb dX10_stand_1 rfl (lv_at hl 1 rfl) ?_
  refine lv_iload_n hx hb dX10_stand_2 rfl (lv_at hl 2 rfl) ?_
  refine zgo_i (wr := []) (zrunV (As := [.int p1, .int p2]) (rest := []) ⟨hx, hb, hml, hown, ht⟩ (zc_X10_isPlace_0 l D y a0 p1 p2 w3 w4 w5 w6 w7 (.int 0) (.int 0) w8 w9 w10 w11 w12 w13 w14 w15 w16 w17 w18 w19 w20 w21 w22 w23 w24 w25 w26 w27 w28 w29 w30 w31 w32 w33 w34 w35 w36 w37 w38 w39 w40 w41 w42 w43 w44 w45 w46 w47 w48 w49 w50 w51 w52 w53 w54 w55 w56 w57 w58 w59 w60 w61 w62 w63 w64 w65 w66 w67 w68 w69 w70 w71 w72 w73 w74 w75 w76) (cwV 2 ht (zgV zm_244 zm_245 zm_246 zm_5 zm_247) rfl rfl rfl (by decide +kernel) ⟨(Nat.le_of_ble_eq_true rfl), (Nat.le_of_ble_eq_true rfl)⟩) hK hE hS hA hW [0] (by decide) rfl 0 rfl rfl rfl rfl hl.1 rfl (Nat.le_of_ble_eq_true rfl) dX10_stand_3 (Nat.le_of_ble_eq_true rfl) (Nat.le_of_ble_eq_true rfl)) hS hA hW [0] [] rfl rfl (by decide) (by decide) (fun r1_ u H locs hw hW hS => ?_)
  have hW : zPD D A [(a0, .inr (9, [w3, w4, w5, w6, w7, .int 0, .int 0, w8, w9, w10, w11, w12, w13, w14, w15, w16, w17, w18, w19, w20, w21, w22, w23, w24, w25, w26, w27, w28, w29, w30, w31, w32, w33, w34, w35, w36, w37, w38, w39, w40, w41, w42, w43, w44, w45, w46, w47, w48, w49, w50, w51, w52, w53, w54, w55, w56, w57, w58, w59, w60, w61, w62, w63, w64, w65, w66, w67, w68, w69, w70, w71, w72, w73, w74, w75, w76]))] H := hW
  have hw : r1_ = (if p1 < 0 then 0 else (if 3 < p1 then 0 else (if p2 < 0 then 0 else (if 4 < p2 then 0 else 1)))) := hw
  by_cases c2_ : p1 < 0
  · have b3_ : (-2147483648) ≤ Int32.toInt p1 ∧ Int32.toInt p1 ≤ (-1) := (by have u0 := zbnd p1; have u1 := (zi_lt _ _).mp c2_; have u2 : (0 : Int32).toInt = 0 := (by decide); omega)
    rw [if_pos c2_] at hw
    subst hw
    refine lv_if_ne (tgt := 12) hx hb dX10_stand_6 (by decide) (fun c4_ => absurd (by decide) c4_) (fun c4_ => ?_)
    refine lv_bipush (v := (-2)) hx hb dX10_stand_9 (by decide) ?_
    exact zret_i (v := (-2)) hx hb hr hlocks hS () (by show _ = _; rw [if_pos c2_]) (hW.sub [] (by decide) rfl) (Nat.le_of_ble_eq_true rfl) (Nat.le_of_ble_eq_true rfl) dX10_stand_11
  · have b5_ : 0 ≤ Int32.toInt p1 ∧ Int32.toInt p1 ≤ 2147483647 := (by have u0 := zbnd p1; have u1 := (not_congr (zi_lt _ _)).mp c2_; have u2 : (0 : Int32).toInt = 0 := (by decide); omega)
    rw [if_neg c2_] at hw
    by_cases c6_ : 3 < p1
    · have b7_ : 4 ≤ Int32.toInt p1 ∧ Int32.toInt p1 ≤ 2147483647 := (by have u0 := b5_; have u1 := (zi_lt _ _).mp c6_; have u2 : (3 : Int32).toInt = 3 := (by decide); omega)
      rw [if_pos c6_] at hw
      subst hw
      refine lv_if_ne (tgt := 12) hx hb dX10_stand_6 (by decide) (fun c8_ => absurd (by decide) c8_) (fun c8_ => ?_)
      refine lv_bipush (v := (-2)) hx hb dX10_stand_9 (by decide) ?_
      exact zret_i (v := (-2)) hx hb hr hlocks hS () (by show _ = _; rw [if_neg c2_, if_pos c6_]) (hW.sub [] (by decide) rfl) (Nat.le_of_ble_eq_true rfl) (Nat.le_of_ble_eq_true rfl) dX10_stand_11
    · have b9_ : 0 ≤ Int32.toInt p1 ∧ Int32.toInt p1 ≤ 3 := (by have u0 := b5_; have u1 := (not_congr (zi_lt _ _)).mp c6_; have u2 : (3 : Int32).toInt = 3 := (by decide); omega)
      rw [if_neg c6_] at hw
      by_cases c10_ : p2 < 0
      · have b11_ : (-2147483648) ≤ Int32.toInt p2 ∧ Int32.toInt p2 ≤ (-1) := (by have u0 := zbnd p2; have u1 := (zi_lt _ _).mp c10_; have u2 : (0 : Int32).toInt = 0 := (by decide); omega)
        rw [if_pos c10_] at hw
        subst hw
        refine lv_if_ne (tgt := 12) hx hb dX10_stand_6 (by decide) (fun c12_ => absurd (by decide) c12_) (fun c12_ => ?_)
        refine lv_bipush (v := (-2)) hx hb dX10_stand_9 (by decide) ?_
        exact zret_i (v := (-2)) hx hb hr hlocks hS () (by show _ = _; rw [if_neg c2_, if_neg c6_, if_pos c10_]) (hW.sub [] (by decide) rfl) (Nat.le_of_ble_eq_true rfl) (Nat.le_of_ble_eq_true rfl) dX10_stand_11
      · have b13_ : 0 ≤ Int32.toInt p2 ∧ Int32.toInt p2 ≤ 2147483647 := (by have u0 := zbnd p2; have u1 := (not_congr (zi_lt _ _)).mp c10_; have u2 : (0 : Int32).toInt = 0 := (by decide); omega)
        rw [if_neg c10_] at hw
        by_cases c14_ : 4 < p2
        · have b15_ : 5 ≤ Int32.toInt p2 ∧ Int32.toInt p2 ≤ 2147483647 := (by have u0 := b13_; have u1 := (zi_lt _ _).mp c14_; have u2 : (4 : Int32).toInt = 4 := (by decide); omega)
          rw [if_pos c14_] at hw
          subst hw
          refine lv_if_ne (tgt := 12) hx hb dX10_stand_6 (by decide) (fun c16_ => absurd (by decide) c16_) (fun c16_ => ?_)
          refine lv_bipush (v := (-2)) hx hb dX10_stand_9 (by decide) ?_
          exact zret_i (v := (-2)) hx hb hr hlocks hS () (by show _ = _; rw [if_neg c2_, if_neg c6_, if_neg c10_, if_pos c14_]) (hW.sub [] (by decide) rfl) (Nat.le_of_ble_eq_true rfl) (Nat.le_of_ble_eq_true rfl) dX10_stand_11
        · have b17_ : 0 ≤ Int32.toInt p2 ∧ Int32.toInt p2 ≤ 4 := (by have u0 := b13_; have u1 := (not_congr (zi_lt _ _)).mp c14_; have u2 : (4 : Int32).toInt = 4 := (by decide); omega)
          rw [if_neg c14_] at hw
          subst hw
          refine lv_if_ne (tgt := 12) hx hb dX10_stand_6 (by decide) (fun c18_ => ?_) (fun c18_ => absurd c18_ (by decide))
          refine lv_aload_n hx hb dX10_stand_12 rfl (lv_at hl 0 rfl) ?_
          refine lv_iload_n hx hb dX10_stand_13 rfl (lv_at hl 1 rfl) ?_
          refine zput (ws' := [(a0, .inr (9, [w3, w4, w5, w6, w7, .int p1, .int 0, w8, w9, w10, w11, w12, w13, w14, w15, w16, w17, w18, w19, w20, w21, w22, w23, w24, w25, w26, w27, w28, w29, w30, w31, w32, w33, w34, w35, w36, w37, w38, w39, w40, w41, w42, w43, w44, w45, w46, w47, w48, w49, w50, w51, w52, w53, w54, w55, w56, w57, w58, w59, w60, w61, w62, w63, w64, w65, w66, w67, w68, w69, w70, w71, w72, w73, w74, w75, w76]))]) hx hb ht inlX10 tyX10 tyX10_ok nmX10 hown hK hS hW 0 rfl rfl 5 (by decide) zm_145 rfl rfl rfl (Nat.le_of_ble_eq_true rfl) rfl dX10_stand_14 (fun H locs hW hS => ?_)
          refine lv_aload_n hx hb dX10_stand_17 rfl (lv_at hl 0 rfl) ?_
          refine lv_iload_n hx hb dX10_stand_18 rfl (lv_at hl 2 rfl) ?_
          refine zput (ws' := [(a0, .inr (9, [w3, w4, w5, w6, w7, .int p1, .int p2, w8, w9, w10, w11, w12, w13, w14, w15, w16, w17, w18, w19, w20, w21, w22, w23, w24, w25, w26, w27, w28, w29, w30, w31, w32, w33, w34, w35, w36, w37, w38, w39, w40, w41, w42, w43, w44, w45, w46, w47, w48, w49, w50, w51, w52, w53, w54, w55, w56, w57, w58, w59, w60, w61, w62, w63, w64, w65, w66, w67, w68, w69, w70, w71, w72, w73, w74, w75, w76]))]) hx hb ht inlX10 tyX10 tyX10_ok nmX10 hown hK hS hW 0 rfl rfl 6 (by decide) zm_146 rfl rfl rfl (Nat.le_of_ble_eq_true rfl) rfl dX10_stand_19 (fun H locs hW hS => ?_)
          refine lv_iconst (v := 1) hx hb dX10_stand_22 (by decide) ?_
          exact zret_i (v := 1) hx hb hr hlocks hS () (by show _ = _; rw [if_neg c2_, if_neg c6_, if_neg c10_, if_neg c14_]) (hW.sub [] (by decide) rfl) (Nat.le_of_ble_eq_true rfl) (Nat.le_of_ble_eq_true rfl) dX10_stand_23
set_option maxHeartbeats 8000000 in
set_option maxRecDepth 100000 in
theorem zc_X9_within_6 (l : Launch) (D : va_G) (y : Nat → ClassId) (p0 : Int32) : zM l D y yX9_within (Cond.code yX9_within cX9_within 3 (some .boolean) :: zT) { frames := 0, cells := 0, slots := 0, locals := 0 } [.int p0, .int 0, .int 127] [] (zQi (S := Unit) D (fun r_ _ => r_ = (if p0 < 0 then 0 else (if 127 < p0 then 0 else 1))) (fun _ => [])) := by
  refine zent (cc := cX9_within) (maxL := 3) (ret := (some .boolean)) (by decide) (Nat.le_of_ble_eq_true rfl) ?_
  intro p e s m below meth c A H locs ls hx hb hml hr ht hown hlocks hin hA hK hE hS hW hl
  have hown : s.vm.findClass RX9 = some m.cls := hown
  have hW : zPD D A [] H := hW
  have hl : lv_has ls 3 [(0, .int p0), (1, .int 0), (2, .int 127)] := hl
  refine lv_iload_n hx hb dX9_within_0 rfl (lv_at hl 0 rfl) ?_
  refine lv_iload_n hx hb dX9_within_1 rfl (lv_at hl 1 rfl) ?_
  refine lv_icmp_lt (tgt := 14) hx hb dX9_within_2 (by decide) (fun c1_ => ?_) (fun c1_ => ?_)
  · have b2_ : (-2147483648) ≤ Int32.toInt p0 ∧ Int32.toInt p0 ≤ (-1) := (by have u0 := zbnd p0; have u1 := (zi_lt _ _).mp c1_; have u2 : (0 : Int32).toInt = 0 := (by decide); omega)
    refine lv_iconst (v := 0) hx hb dX9_within_14 (by decide) ?_
    exact zret_z (v := 0) hx hb hr hlocks hS () rfl (by show _ = _; rw [if_pos c1_]) hW (Nat.le_of_ble_eq_true rfl) (Nat.le_of_ble_eq_true rfl) dX9_within_15
  · have b3_ : 0 ≤ Int32.toInt p0 ∧ Int32.toInt p0 ≤ 2147483647 := (by have u0 := zbnd p0; have u1 := (not_congr (zi_lt _ _)).mp c1_; have u2 : (0 : Int32).toInt = 0 := (by decide); omega)
    refine lv_iload_n hx hb dX9_within_5 rfl (lv_at hl 0 rfl) ?_
    refine lv_iload_n hx hb dX9_within_6 rfl (lv_at hl 2 rfl) ?_
    refine lv_icmp_gt (tgt := 14) hx hb dX9_within_7 (by decide) (fun c4_ => ?_) (fun c4_ => ?_)
    · have b5_ : 128 ≤ Int32.toInt p0 ∧ Int32.toInt p0 ≤ 2147483647 := (by have u0 := b3_; have u1 := (zi_lt _ _).mp c4_; have u2 : (127 : Int32).toInt = 127 := (by decide); omega)
      refine lv_iconst (v := 0) hx hb dX9_within_14 (by decide) ?_
      exact zret_z (v := 0) hx hb hr hlocks hS () rfl (by show _ = _; rw [if_neg c1_, if_pos c4_]) hW (Nat.le_of_ble_eq_true rfl) (Nat.le_of_ble_eq_true rfl) dX9_within_15
    · have b6_ : 0 ≤ Int32.toInt p0 ∧ Int32.toInt p0 ≤ 127 := (by have u0 := b3_; have u1 := (not_congr (zi_lt _ _)).mp c4_; have u2 : (127 : Int32).toInt = 127 := (by decide); omega)
      refine lv_iconst (v := 1) hx hb dX9_within_10 (by decide) ?_
      refine lv_goto (tgt := 15) hx hb dX9_within_11 (by decide) ?_
      exact zret_z (v := 1) hx hb hr hlocks hS () rfl (by show _ = _; rw [if_neg c1_, if_neg c4_]) hW (Nat.le_of_ble_eq_true rfl) (Nat.le_of_ble_eq_true rfl) dX9_within_15
set_option maxHeartbeats 8000000 in
set_option maxRecDepth 100000 in
theorem zc_X9_feed_0 (l : Launch) (D : va_G) (y : Nat → ClassId) (a0 : Nat) (p1 : Int32) (w2 : Value) (w3 : Value) (a4 : Nat) (w5 : Value) (w6 : Value) (w7 : Value) (w8 : Value) (w9 : Value) (w10 : Value) (a11 : Nat) (w12 : Value) (w13 : Value) (w14 : Value) : zM l D y yX9_feed (Cond.code yX9_feed cX9_feed 2 (some .int) :: zT) { frames := 1, cells := 0, slots := 0, locals := 22 } [.ref a0, .int p1] [(a0, .inr (8, [w2, w3, .ref a4, w5, w6, w7, w8, w9, w10])), (a4, .inr (4, [.ref a11, .int 0, w12, w13, w14])), (a11, .inl (y 0, 100, .inl (fun _ => 0)))] (zQi (S := Unit) D (fun r_ _ => r_ = (if p1 < 0 then (-2) else (if 127 < p1 then (-2) else 1))) (fun _ => [])) := by
  refine zent (cc := cX9_feed) (maxL := 2) (ret := (some .int)) (by decide) (Nat.le_of_ble_eq_true rfl) ?_
  intro p e s m below meth c A H locs ls hx hb hml hr ht hown hlocks hin hA hK hE hS hW hl
  have hown : s.vm.findClass RX9 = some m.cls := hown
  have hW : zPD D A [(a0, .inr (8, [w2, w3, .ref a4, w5, w6, w7, w8, w9, w10])), (a4, .inr (4, [.ref a11, .int 0, w12, w13, w14])), (a11, .inl (y 0, 100, .inl (fun _ => 0)))] H := hW
  have hl : lv_has ls 2 [(0, .ref a0), (1, .int p1)] := hl
  refine lv_iload_n hx hb dX9_feed_0 rfl (lv_at hl 1 rfl) ?_
  refine lv_iconst (v := 0) hx hb dX9_feed_1 (by decide) ?_
  refine lv_bipush (v := 127) hx hb dX9_feed_2 (by decide) ?_
  refine zgo0_i (zrunS (As := [.int p1, .int 0, .int 127]) (rest := []) ⟨hx, hb, hml, hown, ht⟩ (zc_X9_within_6 l D y p1) (va_cwS 3 ht (zgS zm_222 zm_223 zm_2 zm_224) rfl rfl rfl (by decide +kernel) ⟨(Nat.le_of_ble_eq_true rfl), (Nat.le_of_ble_eq_true rfl)⟩) hK hE hS hA hW [] (by decide) rfl rfl hl.1 rfl (Nat.le_of_ble_eq_true rfl) dX9_feed_4 (Nat.le_of_ble_eq_true rfl) (Nat.le_of_ble_eq_true rfl)) hS hA hW (fun r1_ u H locs hw hW hS => ?_)
  have hw : r1_ = (if p1 < 0 then 0 else (if 127 < p1 then 0 else 1)) := hw
  by_cases c2_ : p1 < 0
  · have b3_ : (-2147483648) ≤ Int32.toInt p1 ∧ Int32.toInt p1 ≤ (-1) := (by have u0 := zbnd p1; have u1 := (zi_lt _ _).mp c2_; have u2 : (0 : Int32).toInt = 0 := (by decide); omega)
    rw [if_pos c2_] at hw
    subst hw
    refine lv_if_ne (tgt := 13) hx hb dX9_feed_7 (by decide) (fun c4_ => absurd (by decide) c4_) (fun c4_ => ?_)
    refine lv_bipush (v := (-2)) hx hb dX9_feed_10 (by decide) ?_
    exact zret_i (v := (-2)) hx hb hr hlocks hS () (by show _ = _; rw [if_pos c2_]) (hW.sub [] (by decide) rfl) (Nat.le_of_ble_eq_true rfl) (Nat.le_of_ble_eq_true rfl) dX9_feed_12
  · have b5_ : 0 ≤ Int32.toInt p1 ∧ Int32.toInt p1 ≤ 2147483647 := (by have u0 := zbnd p1; have u1 := (not_congr (zi_lt _ _)).mp c2_; have u2 : (0 : Int32).toInt = 0 := (by decide); omega)
    rw [if_neg c2_] at hw
    by_cases c6_ : 127 < p1
    · have b7_ : 128 ≤ Int32.toInt p1 ∧ Int32.toInt p1 ≤ 2147483647 := (by have u0 := b5_; have u1 := (zi_lt _ _).mp c6_; have u2 : (127 : Int32).toInt = 127 := (by decide); omega)
      rw [if_pos c6_] at hw
      subst hw
      refine lv_if_ne (tgt := 13) hx hb dX9_feed_7 (by decide) (fun c8_ => absurd (by decide) c8_) (fun c8_ => ?_)
      refine lv_bipush (v := (-2)) hx hb dX9_feed_10 (by decide) ?_
      exact zret_i (v := (-2)) hx hb hr hlocks hS () (by show _ = _; rw [if_neg c2_, if_pos c6_]) (hW.sub [] (by decide) rfl) (Nat.le_of_ble_eq_true rfl) (Nat.le_of_ble_eq_true rfl) dX9_feed_12
    · have b9_ : 0 ≤ Int32.toInt p1 ∧ Int32.toInt p1 ≤ 127 := (by have u0 := b5_; have u1 := (not_congr (zi_lt _ _)).mp c6_; have u2 : (127 : Int32).toInt = 127 := (by decide); omega)
      rw [if_neg c6_] at hw
      subst hw
      refine lv_if_ne (tgt := 13) hx hb dX9_feed_7 (by decide) (fun c10_ => ?_) (fun c10_ => absurd c10_ (by decide))
      refine lv_aload_n hx hb dX9_feed_13 rfl (lv_at hl 0 rfl) ?_
      refine zget hx hb ht inlX9 hown hK hW 0 rfl rfl 2 (by decide) zm_19 rfl dX9_feed_14 ?_
      refine zget hx hb ht inlX5 hown hK hW 1 rfl rfl 1 (by decide) zm_453 rfl dX9_feed_17 ?_
      refine lv_bipush (v := 100) hx hb dX9_feed_20 (by decide) ?_
      refine lv_icmp_lt (tgt := 28) hx hb dX9_feed_22 (by decide) (fun c11_ => ?_) (fun c11_ => absurd (by decide) c11_)
      refine lv_aload_n hx hb dX9_feed_28 rfl (lv_at hl 0 rfl) ?_
      refine zget hx hb ht inlX9 hown hK hW 0 rfl rfl 2 (by decide) zm_19 rfl dX9_feed_29 ?_
      refine zget hx hb ht inlX5 hown hK hW 1 rfl rfl 0 (by decide) zm_454 rfl dX9_feed_32 ?_
      refine lv_aload_n hx hb dX9_feed_35 rfl (lv_at hl 0 rfl) ?_
      refine zget hx hb ht inlX9 hown hK hW 0 rfl rfl 2 (by decide) zm_19 rfl dX9_feed_36 ?_
      refine zget hx hb ht inlX5 hown hK hW 1 rfl rfl 1 (by decide) zm_453 rfl dX9_feed_39 ?_
      refine lv_iload_n hx hb dX9_feed_42 rfl (lv_at hl 1 rfl) ?_
      refine ziast (ws' := [(a0, .inr (8, [w2, w3, .ref a4, w5, w6, w7, w8, w9, w10])), (a4, .inr (4, [.ref a11, .int 0, w12, w13, w14])), (a11, .inl (y 0, 100, .inl (upd (fun _ => 0) 0 p1)))]) hx hb hK hS hW 2 rfl (by unfold vp_in; decide) rfl rfl dX9_feed_43 (fun H locs hW hS => ?_)
      refine lv_aload_n hx hb dX9_feed_44 rfl (lv_at hl 0 rfl) ?_
      refine zget hx hb ht inlX9 hown hK hW 0 rfl rfl 2 (by decide) zm_19 rfl dX9_feed_45 ?_
      refine lv_dup hx hb dX9_feed_48 rfl ?_
      refine zget hx hb ht inlX5 hown hK hW 1 rfl rfl 1 (by decide) zm_453 rfl dX9_feed_49 ?_
      refine lv_iconst (v := 1) hx hb dX9_feed_52 (by decide) ?_
      refine lv_iadd hx hb dX9_feed_53 ?_
      refine ztop (w := .int 1) (congrArg Value.int (by decide)) ?_
      refine zput (ws' := [(a0, .inr (8, [w2, w3, .ref a4, w5, w6, w7, w8, w9, w10])), (a4, .inr (4, [.ref a11, .int 1, w12, w13, w14])), (a11, .inl (y 0, 100, .inl (upd (fun _ => 0) 0 p1)))]) hx hb ht inlX5 tyX5 tyX5_ok nmX5 hown hK hS hW 1 rfl rfl 1 (by decide) zm_453 rfl rfl rfl (Nat.le_of_ble_eq_true rfl) rfl dX9_feed_54 (fun H locs hW hS => ?_)
      refine lv_aload_n hx hb dX9_feed_57 rfl (lv_at hl 0 rfl) ?_
      refine zget hx hb ht inlX9 hown hK hW 0 rfl rfl 2 (by decide) zm_19 rfl dX9_feed_58 ?_
      refine zget hx hb ht inlX5 hown hK hW 1 rfl rfl 1 (by decide) zm_453 rfl dX9_feed_61 ?_
      exact zret_i (v := 1) hx hb hr hlocks hS () (by show _ = _; rw [if_neg c2_, if_neg c6_]) (hW.sub [] (by decide) rfl) (Nat.le_of_ble_eq_true rfl) (Nat.le_of_ble_eq_true rfl) dX9_feed_64
set_option maxHeartbeats 8000000 in
set_option maxRecDepth 100000 in
theorem zc_X10_in_7 (l : Launch) (D : va_G) (y : Nat → ClassId) (a0 : Nat) (p1 : Int32) (w2 : Value) (w3 : Value) (w4 : Value) (w5 : Value) (w6 : Value) (w7 : Value) (w8 : Value) (w9 : Value) (w10 : Value) (w11 : Value) (w12 : Value) (w13 : Value) (w14 : Value) (w15 : Value) (w16 : Value) (w17 : Value) (w18 : Value) (w19 : Value) (w20 : Value) (w21 : Value) (w22 : Value) (w23 : Value) (w24 : Value) (w25 : Value) (w26 : Value) (w27 : Value) (w28 : Value) (w29 : Value) (w30 : Value) (w31 : Value) (w32 : Value) (w33 : Value) (w34 : Value) (w35 : Value) (w36 : Value) (w37 : Value) (w38 : Value) (w39 : Value) (w40 : Value) (w41 : Value) (w42 : Value) (w43 : Value) (w44 : Value) (w45 : Value) (w46 : Value) (w47 : Value) (w48 : Value) (w49 : Value) (w50 : Value) (w51 : Value) (w52 : Value) (w53 : Value) (w54 : Value) (w55 : Value) (w56 : Value) (w57 : Value) (w58 : Value) (w59 : Value) (w60 : Value) (w61 : Value) (w62 : Value) (w63 : Value) (w64 : Value) (w65 : Value) (w66 : Value) (w67 : Value) (w68 : Value) (w69 : Value) (w70 : Value) (w71 : Value) (w72 : Value) (w73 : Value) (w74 : Value) (w75 : Value) (w76 : Value) (w77 : Value) : zM l D y yX10_in (Cond.code yX10_in cX10_in 4 (some .boolean) :: zT) { frames := 0, cells := 0, slots := 0, locals := 0 } [.ref a0, .int p1, .int 0, .int 127] [(a0, .inr (9, [w2, w3, w4, w5, w6, w7, w8, w9, w10, w11, w12, w13, w14, w15, w16, w17, w18, w19, w20, w21, w22, w23, w24, w25, w26, w27, w28, w29, w30, w31, w32, w33, w34, w35, w36, w37, w38, w39, w40, w41, w42, w43, w44, w45, w46, w47, w48, w49, w50, w51, w52, w53, w54, w55, w56, w57, w58, w59, w60, w61, w62, w63, w64, w65, w66, w67, w68, w69, w70, w71, w72, w73, w74, w75, w76, w77]))] (zQi (S := Unit) D (fun r_ _ => r_ = (if p1 < 0 then 0 else (if 127 < p1 then 0 else 1))) (fun _ => [(a0, .inr (9, [w2, w3, w4, w5, w6, w7, w8, w9, w10, w11, w12, w13, w14, w15, w16, w17, w18, w19, w20, w21, w22, w23, w24, w25, w26, w27, w28, w29, w30, w31, w32, w33, w34, w35, w36, w37, w38, w39, w40, w41, w42, w43, w44, w45, w46, w47, w48, w49, w50, w51, w52, w53, w54, w55, w56, w57, w58, w59, w60, w61, w62, w63, w64, w65, w66, w67, w68, w69, w70, w71, w72, w73, w74, w75, w76, w77]))])) := by
  refine zent (cc := cX10_in) (maxL := 4) (ret := (some .boolean)) (by decide) (Nat.le_of_ble_eq_true rfl) ?_
  intro p e s m below meth c A H locs ls hx hb hml hr ht hown hlocks hin hA hK hE hS hW hl
  have hown : s.vm.findClass RX10 = some m.cls := hown
  have hW : zPD D A [(a0, .inr (9, [w2, w3, w4, w5, w6, w7, w8, w9, w10, w11, w12, w13, w14, w15, w16, w17, w18, w19, w20, w21, w22, w23, w24, w25, w26, w27, w28, w29, w30, w31, w32, w33, w34, w35, w36, w37, w38, w39, w40, w41, w42, w43, w44, w45, w46, w47, w48, w49, w50, w51, w52, w53, w54, w55, w56, w57, w58, w59, w60, w61, w62, w63, w64, w65, w66, w67, w68, w69, w70, w71, w72, w73, w74, w75, w76, w77]))] H := hW
  have hl : lv_has ls 4 [(0, .ref a0), (1, .int p1), (2, .int 0), (3, .int 127)] := hl
  refine lv_iload_n hx hb dX10_in_0 rfl (lv_at hl 1 rfl) ?_
  refine lv_iload_n hx hb dX10_in_1 rfl (lv_at hl 2 rfl) ?_
  refine lv_icmp_lt (tgt := 14) hx hb dX10_in_2 (by decide) (fun c1_ => ?_) (fun c1_ => ?_)
  · have b2_ : (-2147483648) ≤ Int32.toInt p1 ∧ Int32.toInt p1 ≤ (-1) := (by have u0 := zbnd p1; have u1 := (zi_lt _ _).mp c1_; have u2 : (0 : Int32).toInt = 0 := (by decide); omega)
    refine lv_iconst (v := 0) hx hb dX10_in_14 (by decide) ?_
    exact zret_z (v := 0) hx hb hr hlocks hS () rfl (by show _ = _; rw [if_pos c1_]) hW (Nat.le_of_ble_eq_true rfl) (Nat.le_of_ble_eq_true rfl) dX10_in_15
  · have b3_ : 0 ≤ Int32.toInt p1 ∧ Int32.toInt p1 ≤ 2147483647 := (by have u0 := zbnd p1; have u1 := (not_congr (zi_lt _ _)).mp c1_; have u2 : (0 : Int32).toInt = 0 := (by decide); omega)
    refine lv_iload_n hx hb dX10_in_5 rfl (lv_at hl 1 rfl) ?_
    refine lv_iload_n hx hb dX10_in_6 rfl (lv_at hl 3 rfl) ?_
    refine lv_icmp_gt (tgt := 14) hx hb dX10_in_7 (by decide) (fun c4_ => ?_) (fun c4_ => ?_)
    · have b5_ : 128 ≤ Int32.toInt p1 ∧ Int32.toInt p1 ≤ 2147483647 := (by have u0 := b3_; have u1 := (zi_lt _ _).mp c4_; have u2 : (127 : Int32).toInt = 127 := (by decide); omega)
      refine lv_iconst (v := 0) hx hb dX10_in_14 (by decide) ?_
      exact zret_z (v := 0) hx hb hr hlocks hS () rfl (by show _ = _; rw [if_neg c1_, if_pos c4_]) hW (Nat.le_of_ble_eq_true rfl) (Nat.le_of_ble_eq_true rfl) dX10_in_15
    · have b6_ : 0 ≤ Int32.toInt p1 ∧ Int32.toInt p1 ≤ 127 := (by have u0 := b3_; have u1 := (not_congr (zi_lt _ _)).mp c4_; have u2 : (127 : Int32).toInt = 127 := (by decide); omega)
      refine lv_iconst (v := 1) hx hb dX10_in_10 (by decide) ?_
      refine lv_goto (tgt := 15) hx hb dX10_in_11 (by decide) ?_
      exact zret_z (v := 1) hx hb hr hlocks hS () rfl (by show _ = _; rw [if_neg c1_, if_neg c4_]) hW (Nat.le_of_ble_eq_true rfl) (Nat.le_of_ble_eq_true rfl) dX10_in_15

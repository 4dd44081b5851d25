theorem dX10_apart_0 : decode cX10_apart 0 = .ok (.iload_n 1, 1) := by decide +kernel
theorem dX10_apart_1 : decode cX10_apart 1 = .ok (.iload_n 2, 1) := by decide +kernel
theorem dX10_apart_11 : decode cX10_apart 11 = .ok (.iload_n 1, 1) := by decide +kernel
theorem dX10_apart_12 : decode cX10_apart 12 = .ok (.iload_n 2, 1) := by decide +kernel
theorem dX10_apart_13 : decode cX10_apart 13 = .ok (.isub, 1) := by decide +kernel
theorem dX10_apart_14 : decode cX10_apart 14 = .ok (.ireturn, 1) := by decide +kernel
theorem dX10_apart_2 : decode cX10_apart 2 = .ok (.if_icmp .ge 9, 3) := by decide +kernel
theorem dX10_apart_5 : decode cX10_apart 5 = .ok (.iload_n 2, 1) := by decide +kernel
theorem dX10_apart_6 : decode cX10_apart 6 = .ok (.iload_n 1, 1) := by decide +kernel
theorem dX10_apart_7 : decode cX10_apart 7 = .ok (.isub, 1) := by decide +kernel
theorem dX10_apart_8 : decode cX10_apart 8 = .ok (.goto 6, 3) := by decide +kernel
theorem dX10_has_0 : decode cX10_has 0 = .ok (.iload_n 1, 1) := by decide +kernel
theorem dX10_has_1 : decode cX10_has 1 = .ok (.iload_n 2, 1) := by decide +kernel
theorem dX10_has_10 : decode cX10_has 10 = .ok (.goto 4, 3) := by decide +kernel
theorem dX10_has_13 : decode cX10_has 13 = .ok (.iconst 0, 1) := by decide +kernel
theorem dX10_has_14 : decode cX10_has 14 = .ok (.ireturn, 1) := by decide +kernel
theorem dX10_has_2 : decode cX10_has 2 = .ok (.ishr, 1) := by decide +kernel
theorem dX10_has_3 : decode cX10_has 3 = .ok (.iconst 1, 1) := by decide +kernel
theorem dX10_has_4 : decode cX10_has 4 = .ok (.iand, 1) := by decide +kernel
theorem dX10_has_5 : decode cX10_has 5 = .ok (.iconst 1, 1) := by decide +kernel
theorem dX10_has_6 : decode cX10_has 6 = .ok (.if_icmp .ne 7, 3) := by decide +kernel
theorem dX10_has_9 : decode cX10_has 9 = .ok (.iconst 1, 1) := by decide +kernel
theorem dX10_in_0 : decode cX10_in 0 = .ok (.iload_n 1, 1) := by decide +kernel
theorem dX10_in_1 : decode cX10_in 1 = .ok (.iload_n 2, 1) := by decide +kernel
theorem dX10_in_10 : decode cX10_in 10 = .ok (.iconst 1, 1) := by decide +kernel
theorem dX10_in_11 : decode cX10_in 11 = .ok (.goto 4, 3) := by decide +kernel
theorem dX10_in_14 : decode cX10_in 14 = .ok (.iconst 0, 1) := by decide +kernel
theorem dX10_in_15 : decode cX10_in 15 = .ok (.ireturn, 1) := by decide +kernel
theorem dX10_in_2 : decode cX10_in 2 = .ok (.if_icmp .lt 12, 3) := by decide +kernel
theorem dX10_in_5 : decode cX10_in 5 = .ok (.iload_n 1, 1) := by decide +kernel
theorem dX10_in_6 : decode cX10_in 6 = .ok (.iload_n 3, 1) := by decide +kernel
theorem dX10_in_7 : decode cX10_in 7 = .ok (.if_icmp .gt 7, 3) := by decide +kernel
theorem dX10_isPlace_0 : decode cX10_isPlace 0 = .ok (.aload_n 0, 1) := by decide +kernel
theorem dX10_isPlace_1 : decode cX10_isPlace 1 = .ok (.iload_n 1, 1) := by decide +kernel
theorem dX10_isPlace_10 : decode cX10_isPlace 10 = .ok (.aload_n 0, 1) := by decide +kernel
theorem dX10_isPlace_11 : decode cX10_isPlace 11 = .ok (.iload_n 2, 1) := by decide +kernel
theorem dX10_isPlace_12 : decode cX10_isPlace 12 = .ok (.iconst 0, 1) := by decide +kernel
theorem dX10_isPlace_13 : decode cX10_isPlace 13 = .ok (.iconst 4, 1) := by decide +kernel
theorem dX10_isPlace_14 : decode cX10_isPlace 14 = .ok (.invokevirtual 242, 3) := by decide +kernel
theorem dX10_isPlace_17 : decode cX10_isPlace 17 = .ok (.ifCond .eq 7, 3) := by decide +kernel
theorem dX10_isPlace_2 : decode cX10_isPlace 2 = .ok (.iconst 0, 1) := by decide +kernel
theorem dX10_isPlace_20 : decode cX10_isPlace 20 = .ok (.iconst 1, 1) := by decide +kernel
theorem dX10_isPlace_21 : decode cX10_isPlace 21 = .ok (.goto 4, 3) := by decide +kernel
theorem dX10_isPlace_24 : decode cX10_isPlace 24 = .ok (.iconst 0, 1) := by decide +kernel
theorem dX10_isPlace_25 : decode cX10_isPlace 25 = .ok (.ireturn, 1) := by decide +kernel
theorem dX10_isPlace_3 : decode cX10_isPlace 3 = .ok (.iconst 3, 1) := by decide +kernel
theorem dX10_isPlace_4 : decode cX10_isPlace 4 = .ok (.invokevirtual 242, 3) := by decide +kernel
theorem dX10_isPlace_7 : decode cX10_isPlace 7 = .ok (.ifCond .eq 17, 3) := by decide +kernel
theorem dX10_isWindow_0 : decode cX10_isWindow 0 = .ok (.aload_n 0, 1) := by decide +kernel
theorem dX10_isWindow_1 : decode cX10_isWindow 1 = .ok (.iload_n 1, 1) := by decide +kernel
theorem dX10_isWindow_12 : decode cX10_isWindow 12 = .ok (.ireturn, 1) := by decide +kernel
theorem dX10_isWindow_2 : decode cX10_isWindow 2 = .ok (.iconst 0, 1) := by decide +kernel
theorem dX10_isWindow_3 : decode cX10_isWindow 3 = .ok (.aload_n 0, 1) := by decide +kernel
theorem dX10_isWindow_4 : decode cX10_isWindow 4 = .ok (.getfield 7, 3) := by decide +kernel
theorem dX10_isWindow_7 : decode cX10_isWindow 7 = .ok (.iconst 1, 1) := by decide +kernel
theorem dX10_isWindow_8 : decode cX10_isWindow 8 = .ok (.isub, 1) := by decide +kernel
theorem dX10_isWindow_9 : decode cX10_isWindow 9 = .ok (.invokevirtual 242, 3) := by decide +kernel
theorem dX10_put_0 : decode cX10_put 0 = .ok (.aload_n 0, 1) := by decide +kernel
theorem dX10_put_1 : decode cX10_put 1 = .ok (.iload_n 1, 1) := by decide +kernel
theorem dX10_put_10 : decode cX10_put 10 = .ok (.aload_n 0, 1) := by decide +kernel
theorem dX10_put_11 : decode cX10_put 11 = .ok (.getfield 50, 3) := by decide +kernel
theorem dX10_put_14 : decode cX10_put 14 = .ok (.iload_n 1, 1) := by decide +kernel
theorem dX10_put_15 : decode cX10_put 15 = .ok (.baload, 1) := by decide +kernel
theorem dX10_put_16 : decode cX10_put 16 = .ok (.ifCond .eq 7, 3) := by decide +kernel
theorem dX10_put_19 : decode cX10_put 19 = .ok (.iconst 1, 1) := by decide +kernel
theorem dX10_put_2 : decode cX10_put 2 = .ok (.invokevirtual 250, 3) := by decide +kernel
theorem dX10_put_20 : decode cX10_put 20 = .ok (.goto 4, 3) := by decide +kernel
theorem dX10_put_23 : decode cX10_put 23 = .ok (.iconst 0, 1) := by decide +kernel
theorem dX10_put_24 : decode cX10_put 24 = .ok (.istore_n 3, 1) := by decide +kernel
theorem dX10_put_25 : decode cX10_put 25 = .ok (.aload_n 0, 1) := by decide +kernel
theorem dX10_put_26 : decode cX10_put 26 = .ok (.getfield 50, 3) := by decide +kernel
theorem dX10_put_29 : decode cX10_put 29 = .ok (.iload_n 1, 1) := by decide +kernel
theorem dX10_put_30 : decode cX10_put 30 = .ok (.iload_n 2, 1) := by decide +kernel
theorem dX10_put_31 : decode cX10_put 31 = .ok (.bastore, 1) := by decide +kernel
theorem dX10_put_32 : decode cX10_put 32 = .ok (.iload_n 3, 1) := by decide +kernel
theorem dX10_put_33 : decode cX10_put 33 = .ok (.ireturn, 1) := by decide +kernel
theorem dX10_put_5 : decode cX10_put 5 = .ok (.ifCond .ne 5, 3) := by decide +kernel
theorem dX10_put_8 : decode cX10_put 8 = .ok (.iconst (-1), 1) := by decide +kernel
theorem dX10_put_9 : decode cX10_put 9 = .ok (.ireturn, 1) := by decide +kernel
theorem dX10_row_0 : decode cX10_row 0 = .ok (.aload_n 0, 1) := by decide +kernel
theorem dX10_row_1 : decode cX10_row 1 = .ok (.iload_n 1, 1) := by decide +kernel
theorem dX10_row_10 : decode cX10_row 10 = .ok (.iconst 0, 1) := by decide +kernel
theorem dX10_row_11 : decode cX10_row 11 = .ok (.iconst 3, 1) := by decide +kernel
theorem dX10_row_12 : decode cX10_row 12 = .ok (.invokevirtual 242, 3) := by decide +kernel
theorem dX10_row_15 : decode cX10_row 15 = .ok (.ifCond .ne 5, 3) := by decide +kernel
theorem dX10_row_18 : decode cX10_row 18 = .ok (.iconst (-1), 1) := by decide +kernel
theorem dX10_row_19 : decode cX10_row 19 = .ok (.ireturn, 1) := by decide +kernel
theorem dX10_row_2 : decode cX10_row 2 = .ok (.invokevirtual 250, 3) := by decide +kernel
theorem dX10_row_20 : decode cX10_row 20 = .ok (.aload_n 0, 1) := by decide +kernel
theorem dX10_row_21 : decode cX10_row 21 = .ok (.iload_n 3, 1) := by decide +kernel
theorem dX10_row_22 : decode cX10_row 22 = .ok (.iconst 0, 1) := by decide +kernel
theorem dX10_row_23 : decode cX10_row 23 = .ok (.bipush 9, 2) := by decide +kernel
theorem dX10_row_25 : decode cX10_row 25 = .ok (.invokevirtual 242, 3) := by decide +kernel
theorem dX10_row_28 : decode cX10_row 28 = .ok (.ifCond .ne 6, 3) := by decide +kernel
theorem dX10_row_31 : decode cX10_row 31 = .ok (.bipush (-2), 2) := by decide +kernel
theorem dX10_row_33 : decode cX10_row 33 = .ok (.ireturn, 1) := by decide +kernel
theorem dX10_row_34 : decode cX10_row 34 = .ok (.aload_n 0, 1) := by decide +kernel
theorem dX10_row_35 : decode cX10_row 35 = .ok (.getfield 31, 3) := by decide +kernel
theorem dX10_row_38 : decode cX10_row 38 = .ok (.iload_n 1, 1) := by decide +kernel
theorem dX10_row_39 : decode cX10_row 39 = .ok (.iaload, 1) := by decide +kernel
theorem dX10_row_40 : decode cX10_row 40 = .ok (.bipush 6, 2) := by decide +kernel
theorem dX10_row_42 : decode cX10_row 42 = .ok (.if_icmp .eq 6, 3) := by decide +kernel
theorem dX10_row_45 : decode cX10_row 45 = .ok (.bipush (-3), 2) := by decide +kernel
theorem dX10_row_47 : decode cX10_row 47 = .ok (.ireturn, 1) := by decide +kernel
theorem dX10_row_48 : decode cX10_row 48 = .ok (.aload_n 0, 1) := by decide +kernel
theorem dX10_row_49 : decode cX10_row 49 = .ok (.getfield 47, 3) := by decide +kernel
theorem dX10_row_5 : decode cX10_row 5 = .ok (.ifCond .eq 13, 3) := by decide +kernel
theorem dX10_row_52 : decode cX10_row 52 = .ok (.iconst 4, 1) := by decide +kernel
theorem dX10_row_53 : decode cX10_row 53 = .ok (.iload_n 1, 1) := by decide +kernel
theorem dX10_row_54 : decode cX10_row 54 = .ok (.imul, 1) := by decide +kernel
theorem dX10_row_55 : decode cX10_row 55 = .ok (.iload_n 2, 1) := by decide +kernel
theorem dX10_row_56 : decode cX10_row 56 = .ok (.iadd, 1) := by decide +kernel
theorem dX10_row_57 : decode cX10_row 57 = .ok (.iaload, 1) := by decide +kernel
theorem dX10_row_58 : decode cX10_row 58 = .ok (.istore 4, 2) := by decide +kernel
theorem dX10_row_60 : decode cX10_row 60 = .ok (.aload_n 0, 1) := by decide +kernel
theorem dX10_row_61 : decode cX10_row 61 = .ok (.getfield 47, 3) := by decide +kernel
theorem dX10_row_64 : decode cX10_row 64 = .ok (.iconst 4, 1) := by decide +kernel
theorem dX10_row_65 : decode cX10_row 65 = .ok (.iload_n 1, 1) := by decide +kernel
theorem dX10_row_66 : decode cX10_row 66 = .ok (.imul, 1) := by decide +kernel
theorem dX10_row_67 : decode cX10_row 67 = .ok (.iload_n 2, 1) := by decide +kernel
theorem dX10_row_68 : decode cX10_row 68 = .ok (.iadd, 1) := by decide +kernel
theorem dX10_row_69 : decode cX10_row 69 = .ok (.iload_n 3, 1) := by decide +kernel
theorem dX10_row_70 : decode cX10_row 70 = .ok (.iastore, 1) := by decide +kernel
theorem dX10_row_71 : decode cX10_row 71 = .ok (.iload 4, 2) := by decide +kernel
theorem dX10_row_73 : decode cX10_row 73 = .ok (.ireturn, 1) := by decide +kernel
theorem dX10_row_8 : decode cX10_row 8 = .ok (.aload_n 0, 1) := by decide +kernel
theorem dX10_row_9 : decode cX10_row 9 = .ok (.iload_n 2, 1) := by decide +kernel
theorem dX10_storm_0 : decode cX10_storm 0 = .ok (.aload_n 0, 1) := by decide +kernel
theorem dX10_storm_1 : decode cX10_storm 1 = .ok (.iload_n 2, 1) := by decide +kernel
theorem dX10_storm_10 : decode cX10_storm 10 = .ok (.iconst (-1), 1) := by decide +kernel
theorem dX10_storm_11 : decode cX10_storm 11 = .ok (.ireturn, 1) := by decide +kernel
theorem dX10_storm_12 : decode cX10_storm 12 = .ok (.aload_n 0, 1) := by decide +kernel
theorem dX10_storm_13 : decode cX10_storm 13 = .ok (.iload_n 1, 1) := by decide +kernel
theorem dX10_storm_14 : decode cX10_storm 14 = .ok (.iconst 0, 1) := by decide +kernel
theorem dX10_storm_15 : decode cX10_storm 15 = .ok (.bipush 99, 2) := by decide +kernel
theorem dX10_storm_17 : decode cX10_storm 17 = .ok (.invokevirtual 242, 3) := by decide +kernel
theorem dX10_storm_2 : decode cX10_storm 2 = .ok (.iconst 0, 1) := by decide +kernel
theorem dX10_storm_20 : decode cX10_storm 20 = .ok (.ifCond .ne 6, 3) := by decide +kernel
theorem dX10_storm_23 : decode cX10_storm 23 = .ok (.bipush (-2), 2) := by decide +kernel
theorem dX10_storm_25 : decode cX10_storm 25 = .ok (.ireturn, 1) := by decide +kernel
theorem dX10_storm_26 : decode cX10_storm 26 = .ok (.aload_n 0, 1) := by decide +kernel
theorem dX10_storm_27 : decode cX10_storm 27 = .ok (.getfield 19, 3) := by decide +kernel
theorem dX10_storm_3 : decode cX10_storm 3 = .ok (.iconst 3, 1) := by decide +kernel
theorem dX10_storm_30 : decode cX10_storm 30 = .ok (.istore_n 3, 1) := by decide +kernel
theorem dX10_storm_31 : decode cX10_storm 31 = .ok (.aload_n 0, 1) := by decide +kernel
theorem dX10_storm_32 : decode cX10_storm 32 = .ok (.iload_n 1, 1) := by decide +kernel
theorem dX10_storm_33 : decode cX10_storm 33 = .ok (.putfield 19, 3) := by decide +kernel
theorem dX10_storm_36 : decode cX10_storm 36 = .ok (.aload_n 0, 1) := by decide +kernel
theorem dX10_storm_37 : decode cX10_storm 37 = .ok (.iload_n 2, 1) := by decide +kernel
theorem dX10_storm_38 : decode cX10_storm 38 = .ok (.putfield 22, 3) := by decide +kernel
theorem dX10_storm_4 : decode cX10_storm 4 = .ok (.invokevirtual 242, 3) := by decide +kernel
theorem dX10_storm_41 : decode cX10_storm 41 = .ok (.iload_n 3, 1) := by decide +kernel
theorem dX10_storm_42 : decode cX10_storm 42 = .ok (.ireturn, 1) := by decide +kernel
theorem dX10_storm_7 : decode cX10_storm 7 = .ok (.ifCond .ne 5, 3) := by decide +kernel
theorem dX10_window_0 : decode cX10_window 0 = .ok (.aload_n 0, 1) := by decide +kernel
theorem dX10_window_1 : decode cX10_window 1 = .ok (.iload_n 1, 1) := by decide +kernel
theorem dX10_window_101 : decode cX10_window 101 = .ok (.iastore, 1) := by decide +kernel
theorem dX10_window_102 : decode cX10_window 102 = .ok (.aload_n 0, 1) := by decide +kernel
theorem dX10_window_103 : decode cX10_window 103 = .ok (.getfield 44, 3) := by decide +kernel
theorem dX10_window_106 : decode cX10_window 106 = .ok (.aload_n 0, 1) := by decide +kernel
theorem dX10_window_107 : decode cX10_window 107 = .ok (.getfield 7, 3) := by decide +kernel
theorem dX10_window_11 : decode cX10_window 11 = .ok (.iconst (-1), 1) := by decide +kernel
theorem dX10_window_110 : decode cX10_window 110 = .ok (.iload 5, 2) := by decide +kernel
theorem dX10_window_112 : decode cX10_window 112 = .ok (.iastore, 1) := by decide +kernel
theorem dX10_window_113 : decode cX10_window 113 = .ok (.aload_n 0, 1) := by decide +kernel
theorem dX10_window_114 : decode cX10_window 114 = .ok (.getfield 50, 3) := by decide +kernel
theorem dX10_window_117 : decode cX10_window 117 = .ok (.aload_n 0, 1) := by decide +kernel
theorem dX10_window_118 : decode cX10_window 118 = .ok (.getfield 7, 3) := by decide +kernel
theorem dX10_window_12 : decode cX10_window 12 = .ok (.ireturn, 1) := by decide +kernel
theorem dX10_window_121 : decode cX10_window 121 = .ok (.iconst 0, 1) := by decide +kernel
theorem dX10_window_122 : decode cX10_window 122 = .ok (.bastore, 1) := by decide +kernel
theorem dX10_window_123 : decode cX10_window 123 = .ok (.iconst 0, 1) := by decide +kernel
theorem dX10_window_124 : decode cX10_window 124 = .ok (.istore 6, 2) := by decide +kernel
theorem dX10_window_126 : decode cX10_window 126 = .ok (.iload 6, 2) := by decide +kernel
theorem dX10_window_128 : decode cX10_window 128 = .ok (.iconst 4, 1) := by decide +kernel
theorem dX10_window_129 : decode cX10_window 129 = .ok (.if_icmp .ge 24, 3) := by decide +kernel
theorem dX10_window_13 : decode cX10_window 13 = .ok (.aload_n 0, 1) := by decide +kernel
theorem dX10_window_132 : decode cX10_window 132 = .ok (.aload_n 0, 1) := by decide +kernel
theorem dX10_window_133 : decode cX10_window 133 = .ok (.getfield 47, 3) := by decide +kernel
theorem dX10_window_136 : decode cX10_window 136 = .ok (.iconst 4, 1) := by decide +kernel
theorem dX10_window_137 : decode cX10_window 137 = .ok (.aload_n 0, 1) := by decide +kernel
theorem dX10_window_138 : decode cX10_window 138 = .ok (.getfield 7, 3) := by decide +kernel
theorem dX10_window_14 : decode cX10_window 14 = .ok (.iload_n 2, 1) := by decide +kernel
theorem dX10_window_141 : decode cX10_window 141 = .ok (.imul, 1) := by decide +kernel
theorem dX10_window_142 : decode cX10_window 142 = .ok (.iload 6, 2) := by decide +kernel
theorem dX10_window_144 : decode cX10_window 144 = .ok (.iadd, 1) := by decide +kernel
theorem dX10_window_145 : decode cX10_window 145 = .ok (.iconst 0, 1) := by decide +kernel
theorem dX10_window_146 : decode cX10_window 146 = .ok (.iastore, 1) := by decide +kernel
theorem dX10_window_147 : decode cX10_window 147 = .ok (.iinc 6 1, 3) := by decide +kernel
theorem dX10_window_15 : decode cX10_window 15 = .ok (.iconst 0, 1) := by decide +kernel
theorem dX10_window_150 : decode cX10_window 150 = .ok (.goto (-24), 3) := by decide +kernel
theorem dX10_window_153 : decode cX10_window 153 = .ok (.aload_n 0, 1) := by decide +kernel
theorem dX10_window_154 : decode cX10_window 154 = .ok (.dup, 1) := by decide +kernel
theorem dX10_window_155 : decode cX10_window 155 = .ok (.getfield 7, 3) := by decide +kernel
theorem dX10_window_158 : decode cX10_window 158 = .ok (.iconst 1, 1) := by decide +kernel
theorem dX10_window_159 : decode cX10_window 159 = .ok (.iadd, 1) := by decide +kernel
theorem dX10_window_16 : decode cX10_window 16 = .ok (.bipush 9, 2) := by decide +kernel
theorem dX10_window_160 : decode cX10_window 160 = .ok (.putfield 7, 3) := by decide +kernel
theorem dX10_window_163 : decode cX10_window 163 = .ok (.aload_n 0, 1) := by decide +kernel
theorem dX10_window_164 : decode cX10_window 164 = .ok (.getfield 7, 3) := by decide +kernel
theorem dX10_window_167 : decode cX10_window 167 = .ok (.iconst 1, 1) := by decide +kernel
theorem dX10_window_168 : decode cX10_window 168 = .ok (.isub, 1) := by decide +kernel
theorem dX10_window_169 : decode cX10_window 169 = .ok (.ireturn, 1) := by decide +kernel
theorem dX10_window_18 : decode cX10_window 18 = .ok (.invokevirtual 242, 3) := by decide +kernel
theorem dX10_window_2 : decode cX10_window 2 = .ok (.iconst 0, 1) := by decide +kernel
theorem dX10_window_21 : decode cX10_window 21 = .ok (.ifCond .eq 25, 3) := by decide +kernel
theorem dX10_window_24 : decode cX10_window 24 = .ok (.aload_n 0, 1) := by decide +kernel
theorem dX10_window_25 : decode cX10_window 25 = .ok (.iload_n 3, 1) := by decide +kernel
theorem dX10_window_26 : decode cX10_window 26 = .ok (.iload 4, 2) := by decide +kernel
theorem dX10_window_28 : decode cX10_window 28 = .ok (.invokevirtual 246, 3) := by decide +kernel
theorem dX10_window_3 : decode cX10_window 3 = .ok (.bipush 6, 2) := by decide +kernel
theorem dX10_window_31 : decode cX10_window 31 = .ok (.ifCond .eq 15, 3) := by decide +kernel
theorem dX10_window_34 : decode cX10_window 34 = .ok (.aload_n 0, 1) := by decide +kernel
theorem dX10_window_35 : decode cX10_window 35 = .ok (.iload 5, 2) := by decide +kernel
theorem dX10_window_37 : decode cX10_window 37 = .ok (.iconst 1, 1) := by decide +kernel
theorem dX10_window_38 : decode cX10_window 38 = .ok (.bipush 9, 2) := by decide +kernel
theorem dX10_window_40 : decode cX10_window 40 = .ok (.invokevirtual 242, 3) := by decide +kernel
theorem dX10_window_43 : decode cX10_window 43 = .ok (.ifCond .ne 6, 3) := by decide +kernel
theorem dX10_window_46 : decode cX10_window 46 = .ok (.bipush (-2), 2) := by decide +kernel
theorem dX10_window_48 : decode cX10_window 48 = .ok (.ireturn, 1) := by decide +kernel
theorem dX10_window_49 : decode cX10_window 49 = .ok (.aload_n 0, 1) := by decide +kernel
theorem dX10_window_5 : decode cX10_window 5 = .ok (.invokevirtual 242, 3) := by decide +kernel
theorem dX10_window_50 : decode cX10_window 50 = .ok (.getfield 7, 3) := by decide +kernel
theorem dX10_window_53 : decode cX10_window 53 = .ok (.bipush 7, 2) := by decide +kernel
theorem dX10_window_55 : decode cX10_window 55 = .ok (.if_icmp .ne 6, 3) := by decide +kernel
theorem dX10_window_58 : decode cX10_window 58 = .ok (.bipush (-4), 2) := by decide +kernel
theorem dX10_window_60 : decode cX10_window 60 = .ok (.ireturn, 1) := by decide +kernel
theorem dX10_window_61 : decode cX10_window 61 = .ok (.aload_n 0, 1) := by decide +kernel
theorem dX10_window_62 : decode cX10_window 62 = .ok (.getfield 31, 3) := by decide +kernel
theorem dX10_window_65 : decode cX10_window 65 = .ok (.aload_n 0, 1) := by decide +kernel
theorem dX10_window_66 : decode cX10_window 66 = .ok (.getfield 7, 3) := by decide +kernel
theorem dX10_window_69 : decode cX10_window 69 = .ok (.iload_n 1, 1) := by decide +kernel
theorem dX10_window_70 : decode cX10_window 70 = .ok (.iastore, 1) := by decide +kernel
theorem dX10_window_71 : decode cX10_window 71 = .ok (.aload_n 0, 1) := by decide +kernel
theorem dX10_window_72 : decode cX10_window 72 = .ok (.getfield 35, 3) := by decide +kernel
theorem dX10_window_75 : decode cX10_window 75 = .ok (.aload_n 0, 1) := by decide +kernel
theorem dX10_window_76 : decode cX10_window 76 = .ok (.getfield 7, 3) := by decide +kernel
theorem dX10_window_79 : decode cX10_window 79 = .ok (.iload_n 2, 1) := by decide +kernel
theorem dX10_window_8 : decode cX10_window 8 = .ok (.ifCond .ne 5, 3) := by decide +kernel
theorem dX10_window_80 : decode cX10_window 80 = .ok (.iastore, 1) := by decide +kernel
theorem dX10_window_81 : decode cX10_window 81 = .ok (.aload_n 0, 1) := by decide +kernel
theorem dX10_window_82 : decode cX10_window 82 = .ok (.getfield 38, 3) := by decide +kernel
theorem dX10_window_85 : decode cX10_window 85 = .ok (.aload_n 0, 1) := by decide +kernel
theorem dX10_window_86 : decode cX10_window 86 = .ok (.getfield 7, 3) := by decide +kernel
theorem dX10_window_89 : decode cX10_window 89 = .ok (.iload_n 3, 1) := by decide +kernel
theorem dX10_window_90 : decode cX10_window 90 = .ok (.iastore, 1) := by decide +kernel
theorem dX10_window_91 : decode cX10_window 91 = .ok (.aload_n 0, 1) := by decide +kernel
theorem dX10_window_92 : decode cX10_window 92 = .ok (.getfield 41, 3) := by decide +kernel
theorem dX10_window_95 : decode cX10_window 95 = .ok (.aload_n 0, 1) := by decide +kernel
theorem dX10_window_96 : decode cX10_window 96 = .ok (.getfield 7, 3) := by decide +kernel
theorem dX10_window_99 : decode cX10_window 99 = .ok (.iload 4, 2) := by decide +kernel
set_option maxHeartbeats 8000000 in
set_option maxRecDepth 100000 in
theorem zd_X10_in_x_x_x (l : Launch) (D : va_G) (y : Nat → ClassId) (a_this : Nat) (w_windows : Value) (w_minutes : Value) (w_wet : Value) (w_comes : Value) (w_side : Value) (w_herFloor : Value) (w_herRoom : Value) (w_kind : Value) (w_v : Value) (w_floor : Value) (w_room : Value) (w_takes : Value) (w_rows : Value) (w_isShut : Value) (w_houses : Value) (w_the : Value) (w_fed : Value) (w_at : Value) (w_digits : Value) (w_text : Value) (w_clauses : Value) (w_word : Value) (w_number : Value) (w_from : Value) (w_to : Value) (w_sign : Value) (w_waits : Value) (w_signs : Value) (w_waiting : Value) (w_open : Value) (w_letters : Value) (w_pile : Value) (w_since : Value) (w_rain : Value) (w_shutAt : Value) (w_ways : Value) (w_path : Value) (w_rounds : Value) (w_round : Value) (w_bestPath : Value) (w_seen : Value) (w_seenWho : Value) (w_seenHarm : Value) (w_books : Value) (w_bookWho : Value) (w_bookWhen : Value) (w_hasImage : Value) (w_imageThe : Value) (w_imageWindows : Value) (w_imageMinutes : Value) (w_imageWet : Value) (w_imageComes : Value) (w_imageSide : Value) (w_imageFloor : Value) (w_imageRoom : Value) (w_imageRounds : Value) (w_imageSeen : Value) (w_imageBooks : Value) (w_imageKind : Value) (w_imageV : Value) (w_imageFloors : Value) (w_imageRooms : Value) (w_imageTakes : Value) (w_imageRows : Value) (w_imageRound : Value) (w_imageWho : Value) (w_imageHarm : Value) (w_imageBookWho : Value) (w_imageWhen : Value) (w_imageShut : Value) (w_ran : Value) (w_bodies : Value) (w_sort : Value) (w_length : Value) (w_item : Value) (w_aside : Value) (n0 : Int32) (n1 : Int32) (n2 : Int32) : zM l D y yX10_in (Cond.code yX10_in cX10_in 4 (some .boolean) :: zT) { frames := 0, cells := 0, slots := 0, locals := 0 } [.ref a_this, .int n0, .int n1, .int n2] [(a_this, .inr (9, [w_windows, w_minutes, w_wet, w_comes, w_side, w_herFloor, w_herRoom, w_kind, w_v, w_floor, w_room, w_takes, w_rows, w_isShut, w_houses, w_the, w_fed, w_at, w_digits, w_text, w_clauses, w_word, w_number, w_from, w_to, w_sign, w_waits, w_signs, w_waiting, w_open, w_letters, w_pile, w_since, w_rain, w_shutAt, w_ways, w_path, w_rounds, w_round, w_bestPath, w_seen, w_seenWho, w_seenHarm, w_books, w_bookWho, w_bookWhen, w_hasImage, w_imageThe, w_imageWindows, w_imageMinutes, w_imageWet, w_imageComes, w_imageSide, w_imageFloor, w_imageRoom, w_imageRounds, w_imageSeen, w_imageBooks, w_imageKind, w_imageV, w_imageFloors, w_imageRooms, w_imageTakes, w_imageRows, w_imageRound, w_imageWho, w_imageHarm, w_imageBookWho, w_imageWhen, w_imageShut, w_ran, w_bodies, w_sort, w_length, w_item, w_aside]))] (zQi (S := Unit) D (fun r_ _ => (r_ = (if n0 < n1 then 0 else (if n2 < n0 then 0 else 1))) ∧ True) (fun _ => [(a_this, .inr (9, [w_windows, w_minutes, w_wet, w_comes, w_side, w_herFloor, w_herRoom, w_kind, w_v, w_floor, w_room, w_takes, w_rows, w_isShut, w_houses, w_the, w_fed, w_at, w_digits, w_text, w_clauses, w_word, w_number, w_from, w_to, w_sign, w_waits, w_signs, w_waiting, w_open, w_letters, w_pile, w_since, w_rain, w_shutAt, w_ways, w_path, w_rounds, w_round, w_bestPath, w_seen, w_seenWho, w_seenHarm, w_books, w_bookWho, w_bookWhen, w_hasImage, w_imageThe, w_imageWindows, w_imageMinutes, w_imageWet, w_imageComes, w_imageSide, w_imageFloor, w_imageRoom, w_imageRounds, w_imageSeen, w_imageBooks, w_imageKind, w_imageV, w_imageFloors, w_imageRooms, w_imageTakes, w_imageRows, w_imageRound, w_imageWho, w_imageHarm, w_imageBookWho, w_imageWhen, w_imageShut, w_ran, w_bodies, w_sort, w_length, w_item, w_aside]))])) := by
  refine zent (cc := cX10_in) (maxL := 4) (ret := (some .boolean)) (by decide) (Nat.le_of_ble_eq_true rfl) ?_
  intro p e s m below meth c A H locs ls hx hb hml hr ht hown hlocks hin hA hK hE hS hW hl
  replace hown : s.vm.findClass RX10 = some m.cls := hown
  replace hW : zPD D A [(a_this, .inr (9, [w_windows, w_minutes, w_wet, w_comes, w_side, w_herFloor, w_herRoom, w_kind, w_v, w_floor, w_room, w_takes, w_rows, w_isShut, w_houses, w_the, w_fed, w_at, w_digits, w_text, w_clauses, w_word, w_number, w_from, w_to, w_sign, w_waits, w_signs, w_waiting, w_open, w_letters, w_pile, w_since, w_rain, w_shutAt, w_ways, w_path, w_rounds, w_round, w_bestPath, w_seen, w_seenWho, w_seenHarm, w_books, w_bookWho, w_bookWhen, w_hasImage, w_imageThe, w_imageWindows, w_imageMinutes, w_imageWet, w_imageComes, w_imageSide, w_imageFloor, w_imageRoom, w_imageRounds, w_imageSeen, w_imageBooks, w_imageKind, w_imageV, w_imageFloors, w_imageRooms, w_imageTakes, w_imageRows, w_imageRound, w_imageWho, w_imageHarm, w_imageBookWho, w_imageWhen, w_imageShut, w_ran, w_bodies, w_sort, w_length, w_item, w_aside]))] H := hW
  replace hl : lv_has ls 4 [(0, .ref a_this), (1, .int n0), (2, .int n1), (3, .int n2)] := hl
  refine lv_iload_n hx hb dX10_in_0 rfl (lv_at hl 1 rfl) ?_
  refine lv_iload_n hx hb dX10_in_1 rfl (lv_at hl 2 rfl) ?_
  refine lv_icmp_lt (tgt := 14) hx hb dX10_in_2 (by decide) (fun c1_ => ?_) (fun c1_ => ?_)
  · have d2_ : Int32.toInt n0 < Int32.toInt n1 := (zi_lt _ _).mp c1_
    refine lv_iconst (v := 0) hx hb dX10_in_14 (by decide) ?_
    exact zret_z (v := 0) hx hb hr hlocks hS () rfl ⟨(by show _ = _; rw [if_pos c1_]), trivial⟩ hW (Nat.le_of_ble_eq_true rfl) (Nat.le_of_ble_eq_true rfl) dX10_in_15
  · have d3_ : Int32.toInt n0 ≥ Int32.toInt n1 := Int.not_lt.mp ((not_congr (zi_lt _ _)).mp c1_)
    refine lv_iload_n hx hb dX10_in_5 rfl (lv_at hl 1 rfl) ?_
    refine lv_iload_n hx hb dX10_in_6 rfl (lv_at hl 3 rfl) ?_
    refine lv_icmp_gt (tgt := 14) hx hb dX10_in_7 (by decide) (fun c4_ => ?_) (fun c4_ => ?_)
    · have d5_ : Int32.toInt n2 < Int32.toInt n0 := (zi_lt _ _).mp c4_
      refine lv_iconst (v := 0) hx hb dX10_in_14 (by decide) ?_
      exact zret_z (v := 0) hx hb hr hlocks hS () rfl ⟨(by show _ = _; rw [if_neg c1_, if_pos c4_]), trivial⟩ hW (Nat.le_of_ble_eq_true rfl) (Nat.le_of_ble_eq_true rfl) dX10_in_15
    · have d6_ : Int32.toInt n2 ≥ Int32.toInt n0 := Int.not_lt.mp ((not_congr (zi_lt _ _)).mp c4_)
      refine lv_iconst (v := 1) hx hb dX10_in_10 (by decide) ?_
      refine lv_goto (tgt := 15) hx hb dX10_in_11 (by decide) ?_
      exact zret_z (v := 1) hx hb hr hlocks hS () rfl ⟨(by show _ = _; rw [if_neg c1_, if_neg c4_]), trivial⟩ hW (Nat.le_of_ble_eq_true rfl) (Nat.le_of_ble_eq_true rfl) dX10_in_15
set_option maxHeartbeats 8000000 in
set_option maxRecDepth 100000 in
theorem zd_X10_has_x_x (l : Launch) (D : va_G) (y : Nat → ClassId) (a_this : Nat) (w_windows : Value) (w_minutes : Value) (w_wet : Value) (w_comes : Value) (w_side : Value) (w_herFloor : Value) (w_herRoom : Value) (w_kind : Value) (w_v : Value) (w_floor : Value) (w_room : Value) (w_takes : Value) (w_rows : Value) (w_isShut : Value) (w_houses : Value) (w_the : Value) (w_fed : Value) (w_at : Value) (w_digits : Value) (w_text : Value) (w_clauses : Value) (w_word : Value) (w_number : Value) (w_from : Value) (w_to : Value) (w_sign : Value) (w_waits : Value) (w_signs : Value) (w_waiting : Value) (w_open : Value) (w_letters : Value) (w_pile : Value) (w_since : Value) (w_rain : Value) (w_shutAt : Value) (w_ways : Value) (w_path : Value) (w_rounds : Value) (w_round : Value) (w_bestPath : Value) (w_seen : Value) (w_seenWho : Value) (w_seenHarm : Value) (w_books : Value) (w_bookWho : Value) (w_bookWhen : Value) (w_hasImage : Value) (w_imageThe : Value) (w_imageWindows : Value) (w_imageMinutes : Value) (w_imageWet : Value) (w_imageComes : Value) (w_imageSide : Value) (w_imageFloor : Value) (w_imageRoom : Value) (w_imageRounds : Value) (w_imageSeen : Value) (w_imageBooks : Value) (w_imageKind : Value) (w_imageV : Value) (w_imageFloors : Value) (w_imageRooms : Value) (w_imageTakes : Value) (w_imageRows : Value) (w_imageRound : Value) (w_imageWho : Value) (w_imageHarm : Value) (w_imageBookWho : Value) (w_imageWhen : Value) (w_imageShut : Value) (w_ran : Value) (w_bodies : Value) (w_sort : Value) (w_length : Value) (w_item : Value) (w_aside : Value) (n0 : Int32) (n1 : Int32) : zM l D y yX10_has (Cond.code yX10_has cX10_has 3 (some .boolean) :: zT) { frames := 0, cells := 0, slots := 0, locals := 0 } [.ref a_this, .int n0, .int n1] [(a_this, .inr (9, [w_windows, w_minutes, w_wet, w_comes, w_side, w_herFloor, w_herRoom, w_kind, w_v, w_floor, w_room, w_takes, w_rows, w_isShut, w_houses, w_the, w_fed, w_at, w_digits, w_text, w_clauses, w_word, w_number, w_from, w_to, w_sign, w_waits, w_signs, w_waiting, w_open, w_letters, w_pile, w_since, w_rain, w_shutAt, w_ways, w_path, w_rounds, w_round, w_bestPath, w_seen, w_seenWho, w_seenHarm, w_books, w_bookWho, w_bookWhen, w_hasImage, w_imageThe, w_imageWindows, w_imageMinutes, w_imageWet, w_imageComes, w_imageSide, w_imageFloor, w_imageRoom, w_imageRounds, w_imageSeen, w_imageBooks, w_imageKind, w_imageV, w_imageFloors, w_imageRooms, w_imageTakes, w_imageRows, w_imageRound, w_imageWho, w_imageHarm, w_imageBookWho, w_imageWhen, w_imageShut, w_ran, w_bodies, w_sort, w_length, w_item, w_aside]))] (zQi (S := Unit) D (fun r_ _ => (r_ = (if ((n0 >>> (n1 &&& 31)) &&& 1) = 1 then 1 else 0)) ∧ True) (fun _ => [(a_this, .inr (9, [w_windows, w_minutes, w_wet, w_comes, w_side, w_herFloor, w_herRoom, w_kind, w_v, w_floor, w_room, w_takes, w_rows, w_isShut, w_houses, w_the, w_fed, w_at, w_digits, w_text, w_clauses, w_word, w_number, w_from, w_to, w_sign, w_waits, w_signs, w_waiting, w_open, w_letters, w_pile, w_since, w_rain, w_shutAt, w_ways, w_path, w_rounds, w_round, w_bestPath, w_seen, w_seenWho, w_seenHarm, w_books, w_bookWho, w_bookWhen, w_hasImage, w_imageThe, w_imageWindows, w_imageMinutes, w_imageWet, w_imageComes, w_imageSide, w_imageFloor, w_imageRoom, w_imageRounds, w_imageSeen, w_imageBooks, w_imageKind, w_imageV, w_imageFloors, w_imageRooms, w_imageTakes, w_imageRows, w_imageRound, w_imageWho, w_imageHarm, w_imageBookWho, w_imageWhen, w_imageShut, w_ran, w_bodies, w_sort, w_length, w_item, w_aside]))])) := by
  refine zent (cc := cX10_has) (maxL := 3) (ret := (some .boolean)) (by decide) (Nat.le_of_ble_eq_true rfl) ?_
  intro p e s m below meth c A H locs ls hx hb hml hr ht hown hlocks hin hA hK hE hS hW hl
  replace hown : s.vm.findClass RX10 = some m.cls := hown
  replace hW : zPD D A [(a_this, .inr (9, [w_windows, w_minutes, w_wet, w_comes, w_side, w_herFloor, w_herRoom, w_kind, w_v, w_floor, w_room, w_takes, w_rows, w_isShut, w_houses, w_the, w_fed, w_at, w_digits, w_text, w_clauses, w_word, w_number, w_from, w_to, w_sign, w_waits, w_signs, w_waiting, w_open, w_letters, w_pile, w_since, w_rain, w_shutAt, w_ways, w_path, w_rounds, w_round, w_bestPath, w_seen, w_seenWho, w_seenHarm, w_books, w_bookWho, w_bookWhen, w_hasImage, w_imageThe, w_imageWindows, w_imageMinutes, w_imageWet, w_imageComes, w_imageSide, w_imageFloor, w_imageRoom, w_imageRounds, w_imageSeen, w_imageBooks, w_imageKind, w_imageV, w_imageFloors, w_imageRooms, w_imageTakes, w_imageRows, w_imageRound, w_imageWho, w_imageHarm, w_imageBookWho, w_imageWhen, w_imageShut, w_ran, w_bodies, w_sort, w_length, w_item, w_aside]))] H := hW
  replace hl : lv_has ls 3 [(0, .ref a_this), (1, .int n0), (2, .int n1)] := hl
  refine lv_iload_n hx hb dX10_has_0 rfl (lv_at hl 1 rfl) ?_
  refine lv_iload_n hx hb dX10_has_1 rfl (lv_at hl 2 rfl) ?_
  refine lv_ishr hx hb dX10_has_2 ?_
  refine lv_iconst (v := 1) hx hb dX10_has_3 (by decide) ?_
  refine lv_iand hx hb dX10_has_4 ?_
  refine lv_iconst (v := 1) hx hb dX10_has_5 (by decide) ?_
  refine lv_icmp_ne (tgt := 13) hx hb dX10_has_6 (by decide) (fun c1_ => ?_) (fun c1_ => ?_)
  · refine lv_iconst (v := 0) hx hb dX10_has_13 (by decide) ?_
    exact zret_z (v := 0) hx hb hr hlocks hS () rfl ⟨(by show _ = _; rw [if_neg c1_]), trivial⟩ hW (Nat.le_of_ble_eq_true rfl) (Nat.le_of_ble_eq_true rfl) dX10_has_14
  · have b2_ : 1 ≤ Int32.toInt ((n0 >>> (n1 &&& 31)) &&& 1) ∧ Int32.toInt ((n0 >>> (n1 &&& 31)) &&& 1) ≤ 1 := zr_eq_l c1_ (show 1 ≤ Int32.toInt 1 ∧ Int32.toInt 1 ≤ 1 from (by decide))
    refine lv_iconst (v := 1) hx hb dX10_has_9 (by decide) ?_
    refine lv_goto (tgt := 14) hx hb dX10_has_10 (by decide) ?_
    exact zret_z (v := 1) hx hb hr hlocks hS () rfl ⟨(by show _ = _; rw [if_pos c1_]), trivial⟩ hW (Nat.le_of_ble_eq_true rfl) (Nat.le_of_ble_eq_true rfl) dX10_has_14
set_option maxHeartbeats 8000000 in
set_option maxRecDepth 100000 in
theorem zd_X10_apart_x_x (l : Launch) (D : va_G) (y : Nat → ClassId) (a_this : Nat) (w_windows : Value) (w_minutes : Value) (w_wet : Value) (w_comes : Value) (w_side : Value) (w_herFloor : Value) (w_herRoom : Value) (w_kind : Value) (w_v : Value) (w_floor : Value) (w_room : Value) (w_takes : Value) (w_rows : Value) (w_isShut : Value) (w_houses : Value) (w_the : Value) (w_fed : Value) (w_at : Value) (w_digits : Value) (w_text : Value) (w_clauses : Value) (w_word : Value) (w_number : Value) (w_from : Value) (w_to : Value) (w_sign : Value) (w_waits : Value) (w_signs : Value) (w_waiting : Value) (w_open : Value) (w_letters : Value) (w_pile : Value) (w_since : Value) (w_rain : Value) (w_shutAt : Value) (w_ways : Value) (w_path : Value) (w_rounds : Value) (w_round : Value) (w_bestPath : Value) (w_seen : Value) (w_seenWho : Value) (w_seenHarm : Value) (w_books : Value) (w_bookWho : Value) (w_bookWhen : Value) (w_hasImage : Value) (w_imageThe : Value) (w_imageWindows : Value) (w_imageMinutes : Value) (w_imageWet : Value) (w_imageComes : Value) (w_imageSide : Value) (w_imageFloor : Value) (w_imageRoom : Value) (w_imageRounds : Value) (w_imageSeen : Value) (w_imageBooks : Value) (w_imageKind : Value) (w_imageV : Value) (w_imageFloors : Value) (w_imageRooms : Value) (w_imageTakes : Value) (w_imageRows : Value) (w_imageRound : Value) (w_imageWho : Value) (w_imageHarm : Value) (w_imageBookWho : Value) (w_imageWhen : Value) (w_imageShut : Value) (w_ran : Value) (w_bodies : Value) (w_sort : Value) (w_length : Value) (w_item : Value) (w_aside : Value) (n0 : Int32) (n1 : Int32) (hn0 : 0 ≤ Int32.toInt n0 ∧ Int32.toInt n0 ≤ 4) (hn1 : 0 ≤ Int32.toInt n1 ∧ Int32.toInt n1 ≤ 4) : zM l D y yX10_apart (Cond.code yX10_apart cX10_apart 3 (some .int) :: zT) { frames := 0, cells := 0, slots := 0, locals := 0 } [.ref a_this, .int n0, .int n1] [(a_this, .inr (9, [w_windows, w_minutes, w_wet, w_comes, w_side, w_herFloor, w_herRoom, w_kind, w_v, w_floor, w_room, w_takes, w_rows, w_isShut, w_houses, w_the, w_fed, w_at, w_digits, w_text, w_clauses, w_word, w_number, w_from, w_to, w_sign, w_waits, w_signs, w_waiting, w_open, w_letters, w_pile, w_since, w_rain, w_shutAt, w_ways, w_path, w_rounds, w_round, w_bestPath, w_seen, w_seenWho, w_seenHarm, w_books, w_bookWho, w_bookWhen, w_hasImage, w_imageThe, w_imageWindows, w_imageMinutes, w_imageWet, w_imageComes, w_imageSide, w_imageFloor, w_imageRoom, w_imageRounds, w_imageSeen, w_imageBooks, w_imageKind, w_imageV, w_imageFloors, w_imageRooms, w_imageTakes, w_imageRows, w_imageRound, w_imageWho, w_imageHarm, w_imageBookWho, w_imageWhen, w_imageShut, w_ran, w_bodies, w_sort, w_length, w_item, w_aside]))] (zQi (S := Unit) D (fun r_ _ => (0 ≤ Int32.toInt r_ ∧ Int32.toInt r_ ≤ 4) ∧ True) (fun _ => [(a_this, .inr (9, [w_windows, w_minutes, w_wet, w_comes, w_side, w_herFloor, w_herRoom, w_kind, w_v, w_floor, w_room, w_takes, w_rows, w_isShut, w_houses, w_the, w_fed, w_at, w_digits, w_text, w_clauses, w_word, w_number, w_from, w_to, w_sign, w_waits, w_signs, w_waiting, w_open, w_letters, w_pile, w_since, w_rain, w_shutAt, w_ways, w_path, w_rounds, w_round, w_bestPath, w_seen, w_seenWho, w_seenHarm, w_books, w_bookWho, w_bookWhen, w_hasImage, w_imageThe, w_imageWindows, w_imageMinutes, w_imageWet, w_imageComes, w_imageSide, w_imageFloor, w_imageRoom, w_imageRounds, w_imageSeen, w_imageBooks, w_imageKind, w_imageV, w_imageFloors, w_imageRooms, w_imageTakes, w_imageRows, w_imageRound, w_imageWho, w_imageHarm, w_imageBookWho, w_imageWhen, w_imageShut, w_ran, w_bodies, w_sort, w_length, w_item, w_aside]))])) := by
  refine zent (cc := cX10_apart) (maxL := 3) (ret := (some .int)) (by decide) (Nat.le_of_ble_eq_true rfl) ?_
  intro p e s m below meth c A H locs ls hx hb hml hr ht hown hlocks hin hA hK hE hS hW hl
  replace hown : s.vm.findClass RX10 = some m.cls := hown
  replace hW : zPD D A [(a_this, .inr (9, [w_windows, w_minutes, w_wet, w_comes, w_side, w_herFloor, w_herRoom, w_kind, w_v, w_floor, w_room, w_takes, w_rows, w_isShut, w_houses, w_the, w_fed, w_at, w_digits, w_text, w_clauses, w_word, w_number, w_from, w_to, w_sign, w_waits, w_signs, w_waiting, w_open, w_letters, w_pile, w_since, w_rain, w_shutAt, w_ways, w_path, w_rounds, w_round, w_bestPath, w_seen, w_seenWho, w_seenHarm, w_books, w_bookWho, w_bookWhen, w_hasImage, w_imageThe, w_imageWindows, w_imageMinutes, w_imageWet, w_imageComes, w_imageSide, w_imageFloor, w_imageRoom, w_imageRounds, w_imageSeen, w_imageBooks, w_imageKind, w_imageV, w_imageFloors, w_imageRooms, w_imageTakes, w_imageRows, w_imageRound, w_imageWho, w_imageHarm, w_imageBookWho, w_imageWhen, w_imageShut, w_ran, w_bodies, w_sort, w_length, w_item, w_aside]))] H := hW
  replace hl : lv_has ls 3 [(0, .ref a_this), (1, .int n0), (2, .int n1)] := hl
  refine lv_iload_n hx hb dX10_apart_0 rfl (lv_at hl 1 rfl) ?_
  refine lv_iload_n hx hb dX10_apart_1 rfl (lv_at hl 2 rfl) ?_
  refine lv_icmp_ge (tgt := 11) hx hb dX10_apart_2 (by decide) (fun c1_ => ?_) (fun c1_ => ?_)
  · have d2_ : Int32.toInt n1 ≤ Int32.toInt n0 := (zi_le _ _).mp c1_
    refine lv_iload_n hx hb dX10_apart_11 rfl (lv_at hl 1 rfl) ?_
    refine lv_iload_n hx hb dX10_apart_12 rfl (lv_at hl 2 rfl) ?_
    refine lv_isub hx hb dX10_apart_13 ?_
    obtain ⟨q4_, b3_⟩ : (Int32.toInt (n0 - n1) = Int32.toInt n0 - Int32.toInt n1) ∧ ((-4) ≤ Int32.toInt (n0 - n1) ∧ Int32.toInt (n0 - n1) ≤ 4) := zsub_r n0 n1 (-4) 4 hn0 hn1 (by decide) (by decide) (by decide) (by decide)
    exact zret_i (v := (n0 - n1)) hx hb hr hlocks hS () ⟨(by omega), trivial⟩ hW (Nat.le_of_ble_eq_true rfl) (Nat.le_of_ble_eq_true rfl) dX10_apart_14
  · have b5_ : 1 ≤ Int32.toInt n1 ∧ Int32.toInt n1 ≤ 4 := zr_nle_l 1 c1_ hn1 hn0 (by decide)
    have b6_ : 0 ≤ Int32.toInt n0 ∧ Int32.toInt n0 ≤ 3 := zr_nle_r 3 c1_ hn0 b5_ (by decide)
    have d7_ : Int32.toInt n1 > Int32.toInt n0 := Int.not_le.mp ((not_congr (zi_le _ _)).mp c1_)
    refine lv_iload_n hx hb dX10_apart_5 rfl (lv_at hl 2 rfl) ?_
    refine lv_iload_n hx hb dX10_apart_6 rfl (lv_at hl 1 rfl) ?_
    refine lv_isub hx hb dX10_apart_7 ?_
    obtain ⟨q9_, b8_⟩ : (Int32.toInt (n1 - n0) = Int32.toInt n1 - Int32.toInt n0) ∧ ((-2) ≤ Int32.toInt (n1 - n0) ∧ Int32.toInt (n1 - n0) ≤ 4) := zsub_r n1 n0 (-2) 4 b5_ b6_ (by decide) (by decide) (by decide) (by decide)
    refine lv_goto (tgt := 14) hx hb dX10_apart_8 (by decide) ?_
    exact zret_i (v := (n1 - n0)) hx hb hr hlocks hS () ⟨(by omega), trivial⟩ hW (Nat.le_of_ble_eq_true rfl) (Nat.le_of_ble_eq_true rfl) dX10_apart_14
set_option maxHeartbeats 8000000 in
set_option maxRecDepth 100000 in
theorem zd_X10_in_x_0_x (l : Launch) (D : va_G) (y : Nat → ClassId) (a_this : Nat) (w_windows : Value) (w_minutes : Value) (w_wet : Value) (w_comes : Value) (w_side : Value) (w_herFloor : Value) (w_herRoom : Value) (w_kind : Value) (w_v : Value) (w_floor : Value) (w_room : Value) (w_takes : Value) (w_rows : Value) (w_isShut : Value) (w_houses : Value) (w_the : Value) (w_fed : Value) (w_at : Value) (w_digits : Value) (w_text : Value) (w_clauses : Value) (w_word : Value) (w_number : Value) (w_from : Value) (w_to : Value) (w_sign : Value) (w_waits : Value) (w_signs : Value) (w_waiting : Value) (w_open : Value) (w_letters : Value) (w_pile : Value) (w_since : Value) (w_rain : Value) (w_shutAt : Value) (w_ways : Value) (w_path : Value) (w_rounds : Value) (w_round : Value) (w_bestPath : Value) (w_seen : Value) (w_seenWho : Value) (w_seenHarm : Value) (w_books : Value) (w_bookWho : Value) (w_bookWhen : Value) (w_hasImage : Value) (w_imageThe : Value) (w_imageWindows : Value) (w_imageMinutes : Value) (w_imageWet : Value) (w_imageComes : Value) (w_imageSide : Value) (w_imageFloor : Value) (w_imageRoom : Value) (w_imageRounds : Value) (w_imageSeen : Value) (w_imageBooks : Value) (w_imageKind : Value) (w_imageV : Value) (w_imageFloors : Value) (w_imageRooms : Value) (w_imageTakes : Value) (w_imageRows : Value) (w_imageRound : Value) (w_imageWho : Value) (w_imageHarm : Value) (w_imageBookWho : Value) (w_imageWhen : Value) (w_imageShut : Value) (w_ran : Value) (w_bodies : Value) (w_sort : Value) (w_length : Value) (w_item : Value) (w_aside : Value) (n0 : Int32) (n2 : Int32) : zM l D y yX10_in (Cond.code yX10_in cX10_in 4 (some .boolean) :: zT) { frames := 0, cells := 0, slots := 0, locals := 0 } [.ref a_this, .int n0, .int 0, .int n2] [(a_this, .inr (9, [w_windows, w_minutes, w_wet, w_comes, w_side, w_herFloor, w_herRoom, w_kind, w_v, w_floor, w_room, w_takes, w_rows, w_isShut, w_houses, w_the, w_fed, w_at, w_digits, w_text, w_clauses, w_word, w_number, w_from, w_to, w_sign, w_waits, w_signs, w_waiting, w_open, w_letters, w_pile, w_since, w_rain, w_shutAt, w_ways, w_path, w_rounds, w_round, w_bestPath, w_seen, w_seenWho, w_seenHarm, w_books, w_bookWho, w_bookWhen, w_hasImage, w_imageThe, w_imageWindows, w_imageMinutes, w_imageWet, w_imageComes, w_imageSide, w_imageFloor, w_imageRoom, w_imageRounds, w_imageSeen, w_imageBooks, w_imageKind, w_imageV, w_imageFloors, w_imageRooms, w_imageTakes, w_imageRows, w_imageRound, w_imageWho, w_imageHarm, w_imageBookWho, w_imageWhen, w_imageShut, w_ran, w_bodies, w_sort, w_length, w_item, w_aside]))] (zQi (S := Unit) D (fun r_ _ => (r_ = (if n0 < 0 then 0 else (if n2 < n0 then 0 else 1))) ∧ True) (fun _ => [(a_this, .inr (9, [w_windows, w_minutes, w_wet, w_comes, w_side, w_herFloor, w_herRoom, w_kind, w_v, w_floor, w_room, w_takes, w_rows, w_isShut, w_houses, w_the, w_fed, w_at, w_digits, w_text, w_clauses, w_word, w_number, w_from, w_to, w_sign, w_waits, w_signs, w_waiting, w_open, w_letters, w_pile, w_since, w_rain, w_shutAt, w_ways, w_path, w_rounds, w_round, w_bestPath, w_seen, w_seenWho, w_seenHarm, w_books, w_bookWho, w_bookWhen, w_hasImage, w_imageThe, w_imageWindows, w_imageMinutes, w_imageWet, w_imageComes, w_imageSide, w_imageFloor, w_imageRoom, w_imageRounds, w_imageSeen, w_imageBooks, w_imageKind, w_imageV, w_imageFloors, w_imageRooms, w_imageTakes, w_imageRows, w_imageRound, w_imageWho, w_imageHarm, w_imageBookWho, w_imageWhen, w_imageShut, w_ran, w_bodies, w_sort, w_length, w_item, w_aside]))])) := by
  refine zent (cc := cX10_in) (maxL := 4) (ret := (some .boolean)) (by decide) (Nat.le_of_ble_eq_true rfl) ?_
  intro p e s m below meth c A H locs ls hx hb hml hr ht hown hlocks hin hA hK hE hS hW hl
  replace hown : s.vm.findClass RX10 = some m.cls := hown
  replace hW : zPD D A [(a_this, .inr (9, [w_windows, w_minutes, w_wet, w_comes, w_side, w_herFloor, w_herRoom, w_kind, w_v, w_floor, w_room, w_takes, w_rows, w_isShut, w_houses, w_the, w_fed, w_at, w_digits, w_text, w_clauses, w_word, w_number, w_from, w_to, w_sign, w_waits, w_signs, w_waiting, w_open, w_letters, w_pile, w_since, w_rain, w_shutAt, w_ways, w_path, w_rounds, w_round, w_bestPath, w_seen, w_seenWho, w_seenHarm, w_books, w_bookWho, w_bookWhen, w_hasImage, w_imageThe, w_imageWindows, w_imageMinutes, w_imageWet, w_imageComes, w_imageSide, w_imageFloor, w_imageRoom, w_imageRounds, w_imageSeen, w_imageBooks, w_imageKind, w_imageV, w_imageFloors, w_imageRooms, w_imageTakes, w_imageRows, w_imageRound, w_imageWho, w_imageHarm, w_imageBookWho, w_imageWhen, w_imageShut, w_ran, w_bodies, w_sort, w_length, w_item, w_aside]))] H := hW
  replace hl : lv_has ls 4 [(0, .ref a_this), (1, .int n0), (2, .int 0), (3, .int n2)] := hl
  refine lv_iload_n hx hb dX10_in_0 rfl (lv_at hl 1 rfl) ?_
  refine lv_iload_n hx hb dX10_in_1 rfl (lv_at hl 2 rfl) ?_
  refine lv_icmp_lt (tgt := 14) hx hb dX10_in_2 (by decide) (fun c1_ => ?_) (fun c1_ => ?_)
  · have b2_ : (-2147483648) ≤ Int32.toInt n0 ∧ Int32.toInt n0 ≤ (-1) := zr_lt_l (-1) c1_ (zbnd n0) (show 0 ≤ Int32.toInt 0 ∧ Int32.toInt 0 ≤ 0 from (by decide)) (by decide)
    refine lv_iconst (v := 0) hx hb dX10_in_14 (by decide) ?_
    exact zret_z (v := 0) hx hb hr hlocks hS () rfl ⟨(by show _ = _; rw [if_pos c1_]), trivial⟩ hW (Nat.le_of_ble_eq_true rfl) (Nat.le_of_ble_eq_true rfl) dX10_in_15
  · have b3_ : 0 ≤ Int32.toInt n0 ∧ Int32.toInt n0 ≤ 2147483647 := zr_nlt_l 0 c1_ (zbnd n0) (show 0 ≤ Int32.toInt 0 ∧ Int32.toInt 0 ≤ 0 from (by decide)) (by decide)
    refine lv_iload_n hx hb dX10_in_5 rfl (lv_at hl 1 rfl) ?_
    refine lv_iload_n hx hb dX10_in_6 rfl (lv_at hl 3 rfl) ?_
    refine lv_icmp_gt (tgt := 14) hx hb dX10_in_7 (by decide) (fun c4_ => ?_) (fun c4_ => ?_)
    · have b5_ : (-2147483648) ≤ Int32.toInt n2 ∧ Int32.toInt n2 ≤ 2147483646 := zr_lt_l 2147483646 c4_ (zbnd n2) b3_ (by decide)
      have d6_ : Int32.toInt n2 < Int32.toInt n0 := (zi_lt _ _).mp c4_
      refine lv_iconst (v := 0) hx hb dX10_in_14 (by decide) ?_
      exact zret_z (v := 0) hx hb hr hlocks hS () rfl ⟨(by show _ = _; rw [if_neg c1_, if_pos c4_]), trivial⟩ hW (Nat.le_of_ble_eq_true rfl) (Nat.le_of_ble_eq_true rfl) dX10_in_15
    · have b7_ : 0 ≤ Int32.toInt n2 ∧ Int32.toInt n2 ≤ 2147483647 := zr_nlt_l 0 c4_ (zbnd n2) b3_ (by decide)
      have d8_ : Int32.toInt n2 ≥ Int32.toInt n0 := Int.not_lt.mp ((not_congr (zi_lt _ _)).mp c4_)
      refine lv_iconst (v := 1) hx hb dX10_in_10 (by decide) ?_
      refine lv_goto (tgt := 15) hx hb dX10_in_11 (by decide) ?_
      exact zret_z (v := 1) hx hb hr hlocks hS () rfl ⟨(by show _ = _; rw [if_neg c1_, if_neg c4_]), trivial⟩ hW (Nat.le_of_ble_eq_true rfl) (Nat.le_of_ble_eq_true rfl) dX10_in_15
set_option maxHeartbeats 8000000 in
set_option maxRecDepth 100000 in
theorem zd_X10_isWindow_x (l : Launch) (D : va_G) (y : Nat → ClassId) (a_this : Nat) (p_windows : Int32) (w_minutes : Value) (w_wet : Value) (w_comes : Value) (w_side : Value) (w_herFloor : Value) (w_herRoom : Value) (w_kind : Value) (w_v : Value) (w_floor : Value) (w_room : Value) (w_takes : Value) (w_rows : Value) (w_isShut : Value) (w_houses : Value) (w_the : Value) (w_fed : Value) (w_at : Value) (w_digits : Value) (w_text : Value) (w_clauses : Value) (w_word : Value) (w_number : Value) (w_from : Value) (w_to : Value) (w_sign : Value) (w_waits : Value) (w_signs : Value) (w_waiting : Value) (w_open : Value) (w_letters : Value) (w_pile : Value) (w_since : Value) (w_rain : Value) (w_shutAt : Value) (w_ways : Value) (w_path : Value) (w_rounds : Value) (w_round : Value) (w_bestPath : Value) (w_seen : Value) (w_seenWho : Value) (w_seenHarm : Value) (w_books : Value) (w_bookWho : Value) (w_bookWhen : Value) (w_hasImage : Value) (w_imageThe : Value) (w_imageWindows : Value) (w_imageMinutes : Value) (w_imageWet : Value) (w_imageComes : Value) (w_imageSide : Value) (w_imageFloor : Value) (w_imageRoom : Value) (w_imageRounds : Value) (w_imageSeen : Value) (w_imageBooks : Value) (w_imageKind : Value) (w_imageV : Value) (w_imageFloors : Value) (w_imageRooms : Value) (w_imageTakes : Value) (w_imageRows : Value) (w_imageRound : Value) (w_imageWho : Value) (w_imageHarm : Value) (w_imageBookWho : Value) (w_imageWhen : Value) (w_imageShut : Value) (w_ran : Value) (w_bodies : Value) (w_sort : Value) (w_length : Value) (w_item : Value) (w_aside : Value) (n0 : Int32) (hp_windows : 0 ≤ Int32.toInt p_windows ∧ Int32.toInt p_windows ≤ 7) : zM l D y yX10_isWindow (Cond.code yX10_isWindow cX10_isWindow 2 (some .boolean) :: zT) { frames := 1, cells := 0, slots := 0, locals := 23 } [.ref a_this, .int n0] [(a_this, .inr (9, [.int p_windows, w_minutes, w_wet, w_comes, w_side, w_herFloor, w_herRoom, w_kind, w_v, w_floor, w_room, w_takes, w_rows, w_isShut, w_houses, w_the, w_fed, w_at, w_digits, w_text, w_clauses, w_word, w_number, w_from, w_to, w_sign, w_waits, w_signs, w_waiting, w_open, w_letters, w_pile, w_since, w_rain, w_shutAt, w_ways, w_path, w_rounds, w_round, w_bestPath, w_seen, w_seenWho, w_seenHarm, w_books, w_bookWho, w_bookWhen, w_hasImage, w_imageThe, w_imageWindows, w_imageMinutes, w_imageWet, w_imageComes, w_imageSide, w_imageFloor, w_imageRoom, w_imageRounds, w_imageSeen, w_imageBooks, w_imageKind, w_imageV, w_imageFloors, w_imageRooms, w_imageTakes, w_imageRows, w_imageRound, w_imageWho, w_imageHarm, w_imageBookWho, w_imageWhen, w_imageShut, w_ran, w_bodies, w_sort, w_length, w_item, w_aside]))] (zQi (S := Unit) D (fun r_ _ => (r_ = (if n0 < 0 then 0 else (if (p_windows - 1) < n0 then 0 else 1))) ∧ True) (fun _ => [(a_this, .inr (9, [.int p_windows, w_minutes, w_wet, w_comes, w_side, w_herFloor, w_herRoom, w_kind, w_v, w_floor, w_room, w_takes, w_rows, w_isShut, w_houses, w_the, w_fed, w_at, w_digits, w_text, w_clauses, w_word, w_number, w_from, w_to, w_sign, w_waits, w_signs, w_waiting, w_open, w_letters, w_pile, w_since, w_rain, w_shutAt, w_ways, w_path, w_rounds, w_round, w_bestPath, w_seen, w_seenWho, w_seenHarm, w_books, w_bookWho, w_bookWhen, w_hasImage, w_imageThe, w_imageWindows, w_imageMinutes, w_imageWet, w_imageComes, w_imageSide, w_imageFloor, w_imageRoom, w_imageRounds, w_imageSeen, w_imageBooks, w_imageKind, w_imageV, w_imageFloors, w_imageRooms, w_imageTakes, w_imageRows, w_imageRound, w_imageWho, w_imageHarm, w_imageBookWho, w_imageWhen, w_imageShut, w_ran, w_bodies, w_sort, w_length, w_item, w_aside]))])) := by
  refine zent (cc := cX10_isWindow) (maxL := 2) (ret := (some .boolean)) (by decide) (Nat.le_of_ble_eq_true rfl) ?_
  intro p e s m below meth c A H locs ls hx hb hml hr ht hown hlocks hin hA hK hE hS hW hl
  replace hown : s.vm.findClass RX10 = some m.cls := hown
  replace hW : zPD D A [(a_this, .inr (9, [.int p_windows, w_minutes, w_wet, w_comes, w_side, w_herFloor, w_herRoom, w_kind, w_v, w_floor, w_room, w_takes, w_rows, w_isShut, w_houses, w_the, w_fed, w_at, w_digits, w_text, w_clauses, w_word, w_number, w_from, w_to, w_sign, w_waits, w_signs, w_waiting, w_open, w_letters, w_pile, w_since, w_rain, w_shutAt, w_ways, w_path, w_rounds, w_round, w_bestPath, w_seen, w_seenWho, w_seenHarm, w_books, w_bookWho, w_bookWhen, w_hasImage, w_imageThe, w_imageWindows, w_imageMinutes, w_imageWet, w_imageComes, w_imageSide, w_imageFloor, w_imageRoom, w_imageRounds, w_imageSeen, w_imageBooks, w_imageKind, w_imageV, w_imageFloors, w_imageRooms, w_imageTakes, w_imageRows, w_imageRound, w_imageWho, w_imageHarm, w_imageBookWho, w_imageWhen, w_imageShut, w_ran, w_bodies, w_sort, w_length, w_item, w_aside]))] H := hW
  replace hl : lv_has ls 2 [(0, .ref a_this), (1, .int n0)] := hl
  refine lv_aload_n hx hb dX10_isWindow_0 rfl (lv_at hl 0 rfl) ?_
  refine lv_iload_n hx hb dX10_isWindow_1 rfl (lv_at hl 1 rfl) ?_
  refine lv_iconst (v := 0) hx hb dX10_isWindow_2 (by decide) ?_
  refine lv_aload_n hx hb dX10_isWindow_3 rfl (lv_at hl 0 rfl) ?_
  refine zget hx hb ht inlX10 hown hK hW 0 rfl rfl 0 (by decide) zm_140 rfl dX10_isWindow_4 ?_
  refine lv_iconst (v := 1) hx hb dX10_isWindow_7 (by decide) ?_
  refine lv_isub hx hb dX10_isWindow_8 ?_
  obtain ⟨q2_, b1_⟩ : (Int32.toInt (p_windows - 1) = Int32.toInt p_windows - 1) ∧ ((-1) ≤ Int32.toInt (p_windows - 1) ∧ Int32.toInt (p_windows - 1) ≤ 6) := zsub_k p_windows 1 1 (-1) 6 hp_windows (by decide) (by decide) (by decide) (by decide) (by decide)
  refine zgo_i (wr := []) (zrunV (As := [.int n0, .int 0, .int (p_windows - 1)]) (rest := []) ⟨hx, hb, hml, hown, ht⟩ (zd_X10_in_x_0_x l D y a_this (.int p_windows) w_minutes w_wet w_comes w_side w_herFloor w_herRoom w_kind w_v w_floor w_room w_takes w_rows w_isShut w_houses w_the w_fed w_at w_digits w_text w_clauses w_word w_number w_from w_to w_sign w_waits w_signs w_waiting w_open w_letters w_pile w_since w_rain w_shutAt w_ways w_path w_rounds w_round w_bestPath w_seen w_seenWho w_seenHarm w_books w_bookWho w_bookWhen w_hasImage w_imageThe w_imageWindows w_imageMinutes w_imageWet w_imageComes w_imageSide w_imageFloor w_imageRoom w_imageRounds w_imageSeen w_imageBooks w_imageKind w_imageV w_imageFloors w_imageRooms w_imageTakes w_imageRows w_imageRound w_imageWho w_imageHarm w_imageBookWho w_imageWhen w_imageShut w_ran w_bodies w_sort w_length w_item w_aside n0 (p_windows - 1)) (cwV 3 ht (zgV zm_240 zm_241 zm_242 zm_5 zm_243) rfl rfl rfl (by decide +kernel) ⟨(Nat.le_of_ble_eq_true rfl), (Nat.le_of_ble_eq_true rfl)⟩) hK hE hS hA hW [0] (by decide) rfl 0 rfl rfl rfl rfl hl.1 rfl (Nat.le_of_ble_eq_true rfl) dX10_isWindow_9 (Nat.le_of_ble_eq_true rfl) (Nat.le_of_ble_eq_true rfl)) hS hA hW [0] [] rfl rfl (by decide) (by decide) (fun r3_ u H locs hw hW hS => ?_)
  replace hW : zPD D A [(a_this, .inr (9, [.int p_windows, w_minutes, w_wet, w_comes, w_side, w_herFloor, w_herRoom, w_kind, w_v, w_floor, w_room, w_takes, w_rows, w_isShut, w_houses, w_the, w_fed, w_at, w_digits, w_text, w_clauses, w_word, w_number, w_from, w_to, w_sign, w_waits, w_signs, w_waiting, w_open, w_letters, w_pile, w_since, w_rain, w_shutAt, w_ways, w_path, w_rounds, w_round, w_bestPath, w_seen, w_seenWho, w_seenHarm, w_books, w_bookWho, w_bookWhen, w_hasImage, w_imageThe, w_imageWindows, w_imageMinutes, w_imageWet, w_imageComes, w_imageSide, w_imageFloor, w_imageRoom, w_imageRounds, w_imageSeen, w_imageBooks, w_imageKind, w_imageV, w_imageFloors, w_imageRooms, w_imageTakes, w_imageRows, w_imageRound, w_imageWho, w_imageHarm, w_imageBookWho, w_imageWhen, w_imageShut, w_ran, w_bodies, w_sort, w_length, w_item, w_aside]))] H := hW
  replace hw : (r3_ = (if n0 < 0 then 0 else (if (p_windows - 1) < n0 then 0 else 1))) ∧ True := hw
  obtain ⟨hw, -⟩ := hw
  by_cases c4_ : n0 < 0
  · have b5_ : (-2147483648) ≤ Int32.toInt n0 ∧ Int32.toInt n0 ≤ (-1) := zr_lt_l (-1) c4_ (zbnd n0) (show 0 ≤ Int32.toInt 0 ∧ Int32.toInt 0 ≤ 0 from (by decide)) (by decide)
    rw [if_pos c4_] at hw
    subst r3_
    exact zret_z (v := 0) hx hb hr hlocks hS () rfl ⟨(by show _ = _; rw [if_pos c4_]), trivial⟩ hW (Nat.le_of_ble_eq_true rfl) (Nat.le_of_ble_eq_true rfl) dX10_isWindow_12
  · have b6_ : 0 ≤ Int32.toInt n0 ∧ Int32.toInt n0 ≤ 2147483647 := zr_nlt_l 0 c4_ (zbnd n0) (show 0 ≤ Int32.toInt 0 ∧ Int32.toInt 0 ≤ 0 from (by decide)) (by decide)
    rw [if_neg c4_] at hw
    by_cases c7_ : (p_windows - 1) < n0
    · have d8_ : Int32.toInt (p_windows - 1) < Int32.toInt n0 := (zi_lt _ _).mp c7_
      rw [if_pos c7_] at hw
      subst r3_
      exact zret_z (v := 0) hx hb hr hlocks hS () rfl ⟨(by show _ = _; rw [if_neg c4_, if_pos c7_]), trivial⟩ hW (Nat.le_of_ble_eq_true rfl) (Nat.le_of_ble_eq_true rfl) dX10_isWindow_12
    · have b9_ : 0 ≤ Int32.toInt (p_windows - 1) ∧ Int32.toInt (p_windows - 1) ≤ 6 := zr_nlt_l 0 c7_ b1_ b6_ (by decide)
      have b10_ : 0 ≤ Int32.toInt n0 ∧ Int32.toInt n0 ≤ 6 := zr_nlt_r 6 c7_ b6_ b9_ (by decide)
      have d11_ : Int32.toInt (p_windows - 1) ≥ Int32.toInt n0 := Int.not_lt.mp ((not_congr (zi_lt _ _)).mp c7_)
      rw [if_neg c7_] at hw
      subst r3_
      exact zret_z (v := 1) hx hb hr hlocks hS () rfl ⟨(by show _ = _; rw [if_neg c4_, if_neg c7_]), trivial⟩ hW (Nat.le_of_ble_eq_true rfl) (Nat.le_of_ble_eq_true rfl) dX10_isWindow_12
set_option maxHeartbeats 8000000 in
set_option maxRecDepth 100000 in
theorem zd_X10_in_x_0_3 (l : Launch) (D : va_G) (y : Nat → ClassId) (a_this : Nat) (w_windows : Value) (w_minutes : Value) (w_wet : Value) (w_comes : Value) (w_side : Value) (w_herFloor : Value) (w_herRoom : Value) (w_kind : Value) (w_v : Value) (w_floor : Value) (w_room : Value) (w_takes : Value) (w_rows : Value) (w_isShut : Value) (w_houses : Value) (w_the : Value) (w_fed : Value) (w_at : Value) (w_digits : Value) (w_text : Value) (w_clauses : Value) (w_word : Value) (w_number : Value) (w_from : Value) (w_to : Value) (w_sign : Value) (w_waits : Value) (w_signs : Value) (w_waiting : Value) (w_open : Value) (w_letters : Value) (w_pile : Value) (w_since : Value) (w_rain : Value) (w_shutAt : Value) (w_ways : Value) (w_path : Value) (w_rounds : Value) (w_round : Value) (w_bestPath : Value) (w_seen : Value) (w_seenWho : Value) (w_seenHarm : Value) (w_books : Value) (w_bookWho : Value) (w_bookWhen : Value) (w_hasImage : Value) (w_imageThe : Value) (w_imageWindows : Value) (w_imageMinutes : Value) (w_imageWet : Value) (w_imageComes : Value) (w_imageSide : Value) (w_imageFloor : Value) (w_imageRoom : Value) (w_imageRounds : Value) (w_imageSeen : Value) (w_imageBooks : Value) (w_imageKind : Value) (w_imageV : Value) (w_imageFloors : Value) (w_imageRooms : Value) (w_imageTakes : Value) (w_imageRows : Value) (w_imageRound : Value) (w_imageWho : Value) (w_imageHarm : Value) (w_imageBookWho : Value) (w_imageWhen : Value) (w_imageShut : Value) (w_ran : Value) (w_bodies : Value) (w_sort : Value) (w_length : Value) (w_item : Value) (w_aside : Value) (n0 : Int32) : zM l D y yX10_in (Cond.code yX10_in cX10_in 4 (some .boolean) :: zT) { frames := 0, cells := 0, slots := 0, locals := 0 } [.ref a_this, .int n0, .int 0, .int 3] [(a_this, .inr (9, [w_windows, w_minutes, w_wet, w_comes, w_side, w_herFloor, w_herRoom, w_kind, w_v, w_floor, w_room, w_takes, w_rows, w_isShut, w_houses, w_the, w_fed, w_at, w_digits, w_text, w_clauses, w_word, w_number, w_from, w_to, w_sign, w_waits, w_signs, w_waiting, w_open, w_letters, w_pile, w_since, w_rain, w_shutAt, w_ways, w_path, w_rounds, w_round, w_bestPath, w_seen, w_seenWho, w_seenHarm, w_books, w_bookWho, w_bookWhen, w_hasImage, w_imageThe, w_imageWindows, w_imageMinutes, w_imageWet, w_imageComes, w_imageSide, w_imageFloor, w_imageRoom, w_imageRounds, w_imageSeen, w_imageBooks, w_imageKind, w_imageV, w_imageFloors, w_imageRooms, w_imageTakes, w_imageRows, w_imageRound, w_imageWho, w_imageHarm, w_imageBookWho, w_imageWhen, w_imageShut, w_ran, w_bodies, w_sort, w_length, w_item, w_aside]))] (zQi (S := Unit) D (fun r_ _ => (r_ = (if n0 < 0 then 0 else (if 3 < n0 then 0 else 1))) ∧ True) (fun _ => [(a_this, .inr (9, [w_windows, w_minutes, w_wet, w_comes, w_side, w_herFloor, w_herRoom, w_kind, w_v, w_floor, w_room, w_takes, w_rows, w_isShut, w_houses, w_the, w_fed, w_at, w_digits, w_text, w_clauses, w_word, w_number, w_from, w_to, w_sign, w_waits, w_signs, w_waiting, w_open, w_letters, w_pile, w_since, w_rain, w_shutAt, w_ways, w_path, w_rounds, w_round, w_bestPath, w_seen, w_seenWho, w_seenHarm, w_books, w_bookWho, w_bookWhen, w_hasImage, w_imageThe, w_imageWindows, w_imageMinutes, w_imageWet, w_imageComes, w_imageSide, w_imageFloor, w_imageRoom, w_imageRounds, w_imageSeen, w_imageBooks, w_imageKind, w_imageV, w_imageFloors, w_imageRooms, w_imageTakes, w_imageRows, w_imageRound, w_imageWho, w_imageHarm, w_imageBookWho, w_imageWhen, w_imageShut, w_ran, w_bodies, w_sort, w_length, w_item, w_aside]))])) := by
  refine zent (cc := cX10_in) (maxL := 4) (ret := (some .boolean)) (by decide) (Nat.le_of_ble_eq_true rfl) ?_
  intro p e s m below meth c A H locs ls hx hb hml hr ht hown hlocks hin hA hK hE hS hW hl
  replace hown : s.vm.findClass RX10 = some m.cls := hown
  replace hW : zPD D A [(a_this, .inr (9, [w_windows, w_minutes, w_wet, w_comes, w_side, w_herFloor, w_herRoom, w_kind, w_v, w_floor, w_room, w_takes, w_rows, w_isShut, w_houses, w_the, w_fed, w_at, w_digits, w_text, w_clauses, w_word, w_number, w_from, w_to, w_sign, w_waits, w_signs, w_waiting, w_open, w_letters, w_pile, w_since, w_rain, w_shutAt, w_ways, w_path, w_rounds, w_round, w_bestPath, w_seen, w_seenWho, w_seenHarm, w_books, w_bookWho, w_bookWhen, w_hasImage, w_imageThe, w_imageWindows, w_imageMinutes, w_imageWet, w_imageComes, w_imageSide, w_imageFloor, w_imageRoom, w_imageRounds, w_imageSeen, w_imageBooks, w_imageKind, w_imageV, w_imageFloors, w_imageRooms, w_imageTakes, w_imageRows, w_imageRound, w_imageWho, w_imageHarm, w_imageBookWho, w_imageWhen, w_imageShut, w_ran, w_bodies, w_sort, w_length, w_item, w_aside]))] H := hW
  replace hl : lv_has ls 4 [(0, .ref a_this), (1, .int n0), (2, .int 0), (3, .int 3)] := hl
  refine lv_iload_n hx hb dX10_in_0 rfl (lv_at hl 1 rfl) ?_
  refine lv_iload_n hx hb dX10_in_1 rfl (lv_at hl 2 rfl) ?_
  refine lv_icmp_lt (tgt := 14) hx hb dX10_in_2 (by decide) (fun c1_ => ?_) (fun c1_ => ?_)
  · have b2_ : (-2147483648) ≤ Int32.toInt n0 ∧ Int32.toInt n0 ≤ (-1) := zr_lt_l (-1) c1_ (zbnd n0) (show 0 ≤ Int32.toInt 0 ∧ Int32.toInt 0 ≤ 0 from (by decide)) (by decide)
    refine lv_iconst (v := 0) hx hb dX10_in_14 (by decide) ?_
    exact zret_z (v := 0) hx hb hr hlocks hS () rfl ⟨(by show _ = _; rw [if_pos c1_]), trivial⟩ hW (Nat.le_of_ble_eq_true rfl) (Nat.le_of_ble_eq_true rfl) dX10_in_15
  · have b3_ : 0 ≤ Int32.toInt n0 ∧ Int32.toInt n0 ≤ 2147483647 := zr_nlt_l 0 c1_ (zbnd n0) (show 0 ≤ Int32.toInt 0 ∧ Int32.toInt 0 ≤ 0 from (by decide)) (by decide)
    refine lv_iload_n hx hb dX10_in_5 rfl (lv_at hl 1 rfl) ?_
    refine lv_iload_n hx hb dX10_in_6 rfl (lv_at hl 3 rfl) ?_
    refine lv_icmp_gt (tgt := 14) hx hb dX10_in_7 (by decide) (fun c4_ => ?_) (fun c4_ => ?_)
    · have b5_ : 4 ≤ Int32.toInt n0 ∧ Int32.toInt n0 ≤ 2147483647 := zr_lt_r 4 c4_ b3_ (show 3 ≤ Int32.toInt 3 ∧ Int32.toInt 3 ≤ 3 from (by decide)) (by decide)
      refine lv_iconst (v := 0) hx hb dX10_in_14 (by decide) ?_
      exact zret_z (v := 0) hx hb hr hlocks hS () rfl ⟨(by show _ = _; rw [if_neg c1_, if_pos c4_]), trivial⟩ hW (Nat.le_of_ble_eq_true rfl) (Nat.le_of_ble_eq_true rfl) dX10_in_15
    · have b6_ : 0 ≤ Int32.toInt n0 ∧ Int32.toInt n0 ≤ 3 := zr_nlt_r 3 c4_ b3_ (show 3 ≤ Int32.toInt 3 ∧ Int32.toInt 3 ≤ 3 from (by decide)) (by decide)
      refine lv_iconst (v := 1) hx hb dX10_in_10 (by decide) ?_
      refine lv_goto (tgt := 15) hx hb dX10_in_11 (by decide) ?_
      exact zret_z (v := 1) hx hb hr hlocks hS () rfl ⟨(by show _ = _; rw [if_neg c1_, if_neg c4_]), trivial⟩ hW (Nat.le_of_ble_eq_true rfl) (Nat.le_of_ble_eq_true rfl) dX10_in_15
set_option maxHeartbeats 8000000 in
set_option maxRecDepth 100000 in
theorem zd_X10_in_x_0_4 (l : Launch) (D : va_G) (y : Nat → ClassId) (a_this : Nat) (w_windows : Value) (w_minutes : Value) (w_wet : Value) (w_comes : Value) (w_side : Value) (w_herFloor : Value) (w_herRoom : Value) (w_kind : Value) (w_v : Value) (w_floor : Value) (w_room : Value) (w_takes : Value) (w_rows : Value) (w_isShut : Value) (w_houses : Value) (w_the : Value) (w_fed : Value) (w_at : Value) (w_digits : Value) (w_text : Value) (w_clauses : Value) (w_word : Value) (w_number : Value) (w_from : Value) (w_to : Value) (w_sign : Value) (w_waits : Value) (w_signs : Value) (w_waiting : Value) (w_open : Value) (w_letters : Value) (w_pile : Value) (w_since : Value) (w_rain : Value) (w_shutAt : Value) (w_ways : Value) (w_path : Value) (w_rounds : Value) (w_round : Value) (w_bestPath : Value) (w_seen : Value) (w_seenWho : Value) (w_seenHarm : Value) (w_books : Value) (w_bookWho : Value) (w_bookWhen : Value) (w_hasImage : Value) (w_imageThe : Value) (w_imageWindows : Value) (w_imageMinutes : Value) (w_imageWet : Value) (w_imageComes : Value) (w_imageSide : Value) (w_imageFloor : Value) (w_imageRoom : Value) (w_imageRounds : Value) (w_imageSeen : Value) (w_imageBooks : Value) (w_imageKind : Value) (w_imageV : Value) (w_imageFloors : Value) (w_imageRooms : Value) (w_imageTakes : Value) (w_imageRows : Value) (w_imageRound : Value) (w_imageWho : Value) (w_imageHarm : Value) (w_imageBookWho : Value) (w_imageWhen : Value) (w_imageShut : Value) (w_ran : Value) (w_bodies : Value) (w_sort : Value) (w_length : Value) (w_item : Value) (w_aside : Value) (n0 : Int32) : zM l D y yX10_in (Cond.code yX10_in cX10_in 4 (some .boolean) :: zT) { frames := 0, cells := 0, slots := 0, locals := 0 } [.ref a_this, .int n0, .int 0, .int 4] [(a_this, .inr (9, [w_windows, w_minutes, w_wet, w_comes, w_side, w_herFloor, w_herRoom, w_kind, w_v, w_floor, w_room, w_takes, w_rows, w_isShut, w_houses, w_the, w_fed, w_at, w_digits, w_text, w_clauses, w_word, w_number, w_from, w_to, w_sign, w_waits, w_signs, w_waiting, w_open, w_letters, w_pile, w_since, w_rain, w_shutAt, w_ways, w_path, w_rounds, w_round, w_bestPath, w_seen, w_seenWho, w_seenHarm, w_books, w_bookWho, w_bookWhen, w_hasImage, w_imageThe, w_imageWindows, w_imageMinutes, w_imageWet, w_imageComes, w_imageSide, w_imageFloor, w_imageRoom, w_imageRounds, w_imageSeen, w_imageBooks, w_imageKind, w_imageV, w_imageFloors, w_imageRooms, w_imageTakes, w_imageRows, w_imageRound, w_imageWho, w_imageHarm, w_imageBookWho, w_imageWhen, w_imageShut, w_ran, w_bodies, w_sort, w_length, w_item, w_aside]))] (zQi (S := Unit) D (fun r_ _ => (r_ = (if n0 < 0 then 0 else (if 4 < n0 then 0 else 1))) ∧ True) (fun _ => [(a_this, .inr (9, [w_windows, w_minutes, w_wet, w_comes, w_side, w_herFloor, w_herRoom, w_kind, w_v, w_floor, w_room, w_takes, w_rows, w_isShut, w_houses, w_the, w_fed, w_at, w_digits, w_text, w_clauses, w_word, w_number, w_from, w_to, w_sign, w_waits, w_signs, w_waiting, w_open, w_letters, w_pile, w_since, w_rain, w_shutAt, w_ways, w_path, w_rounds, w_round, w_bestPath, w_seen, w_seenWho, w_seenHarm, w_books, w_bookWho, w_bookWhen, w_hasImage, w_imageThe, w_imageWindows, w_imageMinutes, w_imageWet, w_imageComes, w_imageSide, w_imageFloor, w_imageRoom, w_imageRounds, w_imageSeen, w_imageBooks, w_imageKind, w_imageV, w_imageFloors, w_imageRooms, w_imageTakes, w_imageRows, w_imageRound, w_imageWho, w_imageHarm, w_imageBookWho, w_imageWhen, w_imageShut, w_ran, w_bodies, w_sort, w_length, w_item, w_aside]))])) := by
  refine zent (cc := cX10_in) (maxL := 4) (ret := (some .boolean)) (by decide) (Nat.le_of_ble_eq_true rfl) ?_
  intro p e s m below meth c A H locs ls hx hb hml hr ht hown hlocks hin hA hK hE hS hW hl
  replace hown : s.vm.findClass RX10 = some m.cls := hown
  replace hW : zPD D A [(a_this, .inr (9, [w_windows, w_minutes, w_wet, w_comes, w_side, w_herFloor, w_herRoom, w_kind, w_v, w_floor, w_room, w_takes, w_rows, w_isShut, w_houses, w_the, w_fed, w_at, w_digits, w_text, w_clauses, w_word, w_number, w_from, w_to, w_sign, w_waits, w_signs, w_waiting, w_open, w_letters, w_pile, w_since, w_rain, w_shutAt, w_ways, w_path, w_rounds, w_round, w_bestPath, w_seen, w_seenWho, w_seenHarm, w_books, w_bookWho, w_bookWhen, w_hasImage, w_imageThe, w_imageWindows, w_imageMinutes, w_imageWet, w_imageComes, w_imageSide, w_imageFloor, w_imageRoom, w_imageRounds, w_imageSeen, w_imageBooks, w_imageKind, w_imageV, w_imageFloors, w_imageRooms, w_imageTakes, w_imageRows, w_imageRound, w_imageWho, w_imageHarm, w_imageBookWho, w_imageWhen, w_imageShut, w_ran, w_bodies, w_sort, w_length, w_item, w_aside]))] H := hW
  replace hl : lv_has ls 4 [(0, .ref a_this), (1, .int n0), (2, .int 0), (3, .int 4)] := hl
  refine lv_iload_n hx hb dX10_in_0 rfl (lv_at hl 1 rfl) ?_
  refine lv_iload_n hx hb dX10_in_1 rfl (lv_at hl 2 rfl) ?_
  refine lv_icmp_lt (tgt := 14) hx hb dX10_in_2 (by decide) (fun c1_ => ?_) (fun c1_ => ?_)
  · have b2_ : (-2147483648) ≤ Int32.toInt n0 ∧ Int32.toInt n0 ≤ (-1) := zr_lt_l (-1) c1_ (zbnd n0) (show 0 ≤ Int32.toInt 0 ∧ Int32.toInt 0 ≤ 0 from (by decide)) (by decide)
    refine lv_iconst (v := 0) hx hb dX10_in_14 (by decide) ?_
    exact zret_z (v := 0) hx hb hr hlocks hS () rfl ⟨(by show _ = _; rw [if_pos c1_]), trivial⟩ hW (Nat.le_of_ble_eq_true rfl) (Nat.le_of_ble_eq_true rfl) dX10_in_15
  · have b3_ : 0 ≤ Int32.toInt n0 ∧ Int32.toInt n0 ≤ 2147483647 := zr_nlt_l 0 c1_ (zbnd n0) (show 0 ≤ Int32.toInt 0 ∧ Int32.toInt 0 ≤ 0 from (by decide)) (by decide)
    refine lv_iload_n hx hb dX10_in_5 rfl (lv_at hl 1 rfl) ?_
    refine lv_iload_n hx hb dX10_in_6 rfl (lv_at hl 3 rfl) ?_
    refine lv_icmp_gt (tgt := 14) hx hb dX10_in_7 (by decide) (fun c4_ => ?_) (fun c4_ => ?_)
    · have b5_ : 5 ≤ Int32.toInt n0 ∧ Int32.toInt n0 ≤ 2147483647 := zr_lt_r 5 c4_ b3_ (show 4 ≤ Int32.toInt 4 ∧ Int32.toInt 4 ≤ 4 from (by decide)) (by decide)
      refine lv_iconst (v := 0) hx hb dX10_in_14 (by decide) ?_
      exact zret_z (v := 0) hx hb hr hlocks hS () rfl ⟨(by show _ = _; rw [if_neg c1_, if_pos c4_]), trivial⟩ hW (Nat.le_of_ble_eq_true rfl) (Nat.le_of_ble_eq_true rfl) dX10_in_15
    · have b6_ : 0 ≤ Int32.toInt n0 ∧ Int32.toInt n0 ≤ 4 := zr_nlt_r 4 c4_ b3_ (show 4 ≤ Int32.toInt 4 ∧ Int32.toInt 4 ≤ 4 from (by decide)) (by decide)
      refine lv_iconst (v := 1) hx hb dX10_in_10 (by decide) ?_
      refine lv_goto (tgt := 15) hx hb dX10_in_11 (by decide) ?_
      exact zret_z (v := 1) hx hb hr hlocks hS () rfl ⟨(by show _ = _; rw [if_neg c1_, if_neg c4_]), trivial⟩ hW (Nat.le_of_ble_eq_true rfl) (Nat.le_of_ble_eq_true rfl) dX10_in_15
set_option maxHeartbeats 8000000 in
set_option maxRecDepth 100000 in
theorem zd_X10_isPlace_x_x (l : Launch) (D : va_G) (y : Nat → ClassId) (a_this : Nat) (w_windows : Value) (w_minutes : Value) (w_wet : Value) (w_comes : Value) (w_side : Value) (w_herFloor : Value) (w_herRoom : Value) (w_kind : Value) (w_v : Value) (w_floor : Value) (w_room : Value) (w_takes : Value) (w_rows : Value) (w_isShut : Value) (w_houses : Value) (w_the : Value) (w_fed : Value) (w_at : Value) (w_digits : Value) (w_text : Value) (w_clauses : Value) (w_word : Value) (w_number : Value) (w_from : Value) (w_to : Value) (w_sign : Value) (w_waits : Value) (w_signs : Value) (w_waiting : Value) (w_open : Value) (w_letters : Value) (w_pile : Value) (w_since : Value) (w_rain : Value) (w_shutAt : Value) (w_ways : Value) (w_path : Value) (w_rounds : Value) (w_round : Value) (w_bestPath : Value) (w_seen : Value) (w_seenWho : Value) (w_seenHarm : Value) (w_books : Value) (w_bookWho : Value) (w_bookWhen : Value) (w_hasImage : Value) (w_imageThe : Value) (w_imageWindows : Value) (w_imageMinutes : Value) (w_imageWet : Value) (w_imageComes : Value) (w_imageSide : Value) (w_imageFloor : Value) (w_imageRoom : Value) (w_imageRounds : Value) (w_imageSeen : Value) (w_imageBooks : Value) (w_imageKind : Value) (w_imageV : Value) (w_imageFloors : Value) (w_imageRooms : Value) (w_imageTakes : Value) (w_imageRows : Value) (w_imageRound : Value) (w_imageWho : Value) (w_imageHarm : Value) (w_imageBookWho : Value) (w_imageWhen : Value) (w_imageShut : Value) (w_ran : Value) (w_bodies : Value) (w_sort : Value) (w_length : Value) (w_item : Value) (w_aside : Value) (n0 : Int32) (n1 : Int32) : zM l D y yX10_isPlace (Cond.code yX10_isPlace cX10_isPlace 3 (some .boolean) :: zT) { frames := 1, cells := 0, slots := 0, locals := 23 } [.ref a_this, .int n0, .int n1] [(a_this, .inr (9, [w_windows, w_minutes, w_wet, w_comes, w_side, w_herFloor, w_herRoom, w_kind, w_v, w_floor, w_room, w_takes, w_rows, w_isShut, w_houses, w_the, w_fed, w_at, w_digits, w_text, w_clauses, w_word, w_number, w_from, w_to, w_sign, w_waits, w_signs, w_waiting, w_open, w_letters, w_pile, w_since, w_rain, w_shutAt, w_ways, w_path, w_rounds, w_round, w_bestPath, w_seen, w_seenWho, w_seenHarm, w_books, w_bookWho, w_bookWhen, w_hasImage, w_imageThe, w_imageWindows, w_imageMinutes, w_imageWet, w_imageComes, w_imageSide, w_imageFloor, w_imageRoom, w_imageRounds, w_imageSeen, w_imageBooks, w_imageKind, w_imageV, w_imageFloors, w_imageRooms, w_imageTakes, w_imageRows, w_imageRound, w_imageWho, w_imageHarm, w_imageBookWho, w_imageWhen, w_imageShut, w_ran, w_bodies, w_sort, w_length, w_item, w_aside]))] (zQi (S := Unit) D (fun r_ _ => (r_ = (if n0 < 0 then 0 else (if 3 < n0 then 0 else (if n1 < 0 then 0 else (if 4 < n1 then 0 else 1))))) ∧ True) (fun _ => [(a_this, .inr (9, [w_windows, w_minutes, w_wet, w_comes, w_side, w_herFloor, w_herRoom, w_kind, w_v, w_floor, w_room, w_takes, w_rows, w_isShut, w_houses, w_the, w_fed, w_at, w_digits, w_text, w_clauses, w_word, w_number, w_from, w_to, w_sign, w_waits, w_signs, w_waiting, w_open, w_letters, w_pile, w_since, w_rain, w_shutAt, w_ways, w_path, w_rounds, w_round, w_bestPath, w_seen, w_seenWho, w_seenHarm, w_books, w_bookWho, w_bookWhen, w_hasImage, w_imageThe, w_imageWindows, w_imageMinutes, w_imageWet, w_imageComes, w_imageSide, w_imageFloor, w_imageRoom, w_imageRounds, w_imageSeen, w_imageBooks, w_imageKind, w_imageV, w_imageFloors, w_imageRooms, w_imageTakes, w_imageRows, w_imageRound, w_imageWho, w_imageHarm, w_imageBookWho, w_imageWhen, w_imageShut, w_ran, w_bodies, w_sort, w_length, w_item, w_aside]))])) := by
  refine zent (cc := cX10_isPlace) (maxL := 3) (ret := (some .boolean)) (by decide) (Nat.le_of_ble_eq_true rfl) ?_
  intro p e s m below meth c A H locs ls hx hb hml hr ht hown hlocks hin hA hK hE hS hW hl
  replace hown : s.vm.findClass RX10 = some m.cls := hown
  replace hW : zPD D A [(a_this, .inr (9, [w_windows, w_minutes, w_wet, w_comes, w_side, w_herFloor, w_herRoom, w_kind, w_v, w_floor, w_room, w_takes, w_rows, w_isShut, w_houses, w_the, w_fed, w_at, w_digits, w_text, w_clauses, w_word, w_number, w_from, w_to, w_sign, w_waits, w_signs, w_waiting, w_open, w_letters, w_pile, w_since, w_rain, w_shutAt, w_ways, w_path, w_rounds, w_round, w_bestPath, w_seen, w_seenWho, w_seenHarm, w_books, w_bookWho, w_bookWhen, w_hasImage, w_imageThe, w_imageWindows, w_imageMinutes, w_imageWet, w_imageComes, w_imageSide, w_imageFloor, w_imageRoom, w_imageRounds, w_imageSeen, w_imageBooks, w_imageKind, w_imageV, w_imageFloors, w_imageRooms, w_imageTakes, w_imageRows, w_imageRound, w_imageWho, w_imageHarm, w_imageBookWho, w_imageWhen, w_imageShut, w_ran, w_bodies, w_sort, w_length, w_item, w_aside]))] H := hW
  replace hl : lv_has ls 3 [(0, .ref a_this), (1, .int n0), (2, .int n1)] := hl
  refine lv_aload_n hx hb dX10_isPlace_0 rfl (lv_at hl 0 rfl) ?_
  refine lv_iload_n hx hb dX10_isPlace_1 rfl (lv_at hl 1 rfl) ?_
  refine lv_iconst (v := 0) hx hb dX10_isPlace_2 (by decide) ?_
  refine lv_iconst (v := 3) hx hb dX10_isPlace_3 (by decide) ?_
  refine zgo_i (wr := []) (zrunV (As := [.int n0, .int 0, .int 3]) (rest := []) ⟨hx, hb, hml, hown, ht⟩ (zd_X10_in_x_0_3 l D y a_this w_windows w_minutes w_wet w_comes w_side w_herFloor w_herRoom w_kind w_v w_floor w_room w_takes w_rows w_isShut w_houses w_the w_fed w_at w_digits w_text w_clauses w_word w_number w_from w_to w_sign w_waits w_signs w_waiting w_open w_letters w_pile w_since w_rain w_shutAt w_ways w_path w_rounds w_round w_bestPath w_seen w_seenWho w_seenHarm w_books w_bookWho w_bookWhen w_hasImage w_imageThe w_imageWindows w_imageMinutes w_imageWet w_imageComes w_imageSide w_imageFloor w_imageRoom w_imageRounds w_imageSeen w_imageBooks w_imageKind w_imageV w_imageFloors w_imageRooms w_imageTakes w_imageRows w_imageRound w_imageWho w_imageHarm w_imageBookWho w_imageWhen w_imageShut w_ran w_bodies w_sort w_length w_item w_aside n0) (cwV 3 ht (zgV zm_240 zm_241 zm_242 zm_5 zm_243) rfl rfl rfl (by decide +kernel) ⟨(Nat.le_of_ble_eq_true rfl), (Nat.le_of_ble_eq_true rfl)⟩) hK hE hS hA hW [0] (by decide) rfl 0 rfl rfl rfl rfl hl.1 rfl (Nat.le_of_ble_eq_true rfl) dX10_isPlace_4 (Nat.le_of_ble_eq_true rfl) (Nat.le_of_ble_eq_true rfl)) hS hA hW [0] [] rfl rfl (by decide) (by decide) (fun r1_ u H locs hw hW hS => ?_)
  replace hW : zPD D A [(a_this, .inr (9, [w_windows, w_minutes, w_wet, w_comes, w_side, w_herFloor, w_herRoom, w_kind, w_v, w_floor, w_room, w_takes, w_rows, w_isShut, w_houses, w_the, w_fed, w_at, w_digits, w_text, w_clauses, w_word, w_number, w_from, w_to, w_sign, w_waits, w_signs, w_waiting, w_open, w_letters, w_pile, w_since, w_rain, w_shutAt, w_ways, w_path, w_rounds, w_round, w_bestPath, w_seen, w_seenWho, w_seenHarm, w_books, w_bookWho, w_bookWhen, w_hasImage, w_imageThe, w_imageWindows, w_imageMinutes, w_imageWet, w_imageComes, w_imageSide, w_imageFloor, w_imageRoom, w_imageRounds, w_imageSeen, w_imageBooks, w_imageKind, w_imageV, w_imageFloors, w_imageRooms, w_imageTakes, w_imageRows, w_imageRound, w_imageWho, w_imageHarm, w_imageBookWho, w_imageWhen, w_imageShut, w_ran, w_bodies, w_sort, w_length, w_item, w_aside]))] H := hW
  replace hw : (r1_ = (if n0 < 0 then 0 else (if 3 < n0 then 0 else 1))) ∧ True := hw
  obtain ⟨hw, -⟩ := hw
  by_cases c2_ : n0 < 0
  · have b3_ : (-2147483648) ≤ Int32.toInt n0 ∧ Int32.toInt n0 ≤ (-1) := zr_lt_l (-1) c2_ (zbnd n0) (show 0 ≤ Int32.toInt 0 ∧ Int32.toInt 0 ≤ 0 from (by decide)) (by decide)
    rw [if_pos c2_] at hw
    subst r1_
    refine lv_if_eq (tgt := 24) hx hb dX10_isPlace_7 (by decide) (fun c4_ => ?_) (fun c4_ => absurd (by decide) c4_)
    refine lv_iconst (v := 0) hx hb dX10_isPlace_24 (by decide) ?_
    exact zret_z (v := 0) hx hb hr hlocks hS () rfl ⟨(by show _ = _; rw [if_pos c2_]), trivial⟩ hW (Nat.le_of_ble_eq_true rfl) (Nat.le_of_ble_eq_true rfl) dX10_isPlace_25
  · have b5_ : 0 ≤ Int32.toInt n0 ∧ Int32.toInt n0 ≤ 2147483647 := zr_nlt_l 0 c2_ (zbnd n0) (show 0 ≤ Int32.toInt 0 ∧ Int32.toInt 0 ≤ 0 from (by decide)) (by decide)
    rw [if_neg c2_] at hw
    by_cases c6_ : 3 < n0
    · have b7_ : 4 ≤ Int32.toInt n0 ∧ Int32.toInt n0 ≤ 2147483647 := zr_lt_r 4 c6_ b5_ (show 3 ≤ Int32.toInt 3 ∧ Int32.toInt 3 ≤ 3 from (by decide)) (by decide)
      rw [if_pos c6_] at hw
      subst r1_
      refine lv_if_eq (tgt := 24) hx hb dX10_isPlace_7 (by decide) (fun c8_ => ?_) (fun c8_ => absurd (by decide) c8_)
      refine lv_iconst (v := 0) hx hb dX10_isPlace_24 (by decide) ?_
      exact zret_z (v := 0) hx hb hr hlocks hS () rfl ⟨(by show _ = _; rw [if_neg c2_, if_pos c6_]), trivial⟩ hW (Nat.le_of_ble_eq_true rfl) (Nat.le_of_ble_eq_true rfl) dX10_isPlace_25
    · have b9_ : 0 ≤ Int32.toInt n0 ∧ Int32.toInt n0 ≤ 3 := zr_nlt_r 3 c6_ b5_ (show 3 ≤ Int32.toInt 3 ∧ Int32.toInt 3 ≤ 3 from (by decide)) (by decide)
      rw [if_neg c6_] at hw
      subst r1_
      refine lv_if_eq (tgt := 24) hx hb dX10_isPlace_7 (by decide) (fun c10_ => absurd c10_ (by decide)) (fun c10_ => ?_)
      refine lv_aload_n hx hb dX10_isPlace_10 rfl (lv_at hl 0 rfl) ?_
      refine lv_iload_n hx hb dX10_isPlace_11 rfl (lv_at hl 2 rfl) ?_
      refine lv_iconst (v := 0) hx hb dX10_isPlace_12 (by decide) ?_
      refine lv_iconst (v := 4) hx hb dX10_isPlace_13 (by decide) ?_
      refine zgo_i (wr := []) (zrunV (As := [.int n1, .int 0, .int 4]) (rest := []) ⟨hx, hb, hml, hown, ht⟩ (zd_X10_in_x_0_4 l D y a_this w_windows w_minutes w_wet w_comes w_side w_herFloor w_herRoom w_kind w_v w_floor w_room w_takes w_rows w_isShut w_houses w_the w_fed w_at w_digits w_text w_clauses w_word w_number w_from w_to w_sign w_waits w_signs w_waiting w_open w_letters w_pile w_since w_rain w_shutAt w_ways w_path w_rounds w_round w_bestPath w_seen w_seenWho w_seenHarm w_books w_bookWho w_bookWhen w_hasImage w_imageThe w_imageWindows w_imageMinutes w_imageWet w_imageComes w_imageSide w_imageFloor w_imageRoom w_imageRounds w_imageSeen w_imageBooks w_imageKind w_imageV w_imageFloors w_imageRooms w_imageTakes w_imageRows w_imageRound w_imageWho w_imageHarm w_imageBookWho w_imageWhen w_imageShut w_ran w_bodies w_sort w_length w_item w_aside n1) (cwV 3 ht (zgV zm_240 zm_241 zm_242 zm_5 zm_243) rfl rfl rfl (by decide +kernel) ⟨(Nat.le_of_ble_eq_true rfl), (Nat.le_of_ble_eq_true rfl)⟩) hK hE hS hA hW [0] (by decide) rfl 0 rfl rfl rfl rfl hl.1 rfl (Nat.le_of_ble_eq_true rfl) dX10_isPlace_14 (Nat.le_of_ble_eq_true rfl) (Nat.le_of_ble_eq_true rfl)) hS hA hW [0] [] rfl rfl (by decide) (by decide) (fun r11_ u H locs hw hW hS => ?_)
      replace hW : zPD D A [(a_this, .inr (9, [w_windows, w_minutes, w_wet, w_comes, w_side, w_herFloor, w_herRoom, w_kind, w_v, w_floor, w_room, w_takes, w_rows, w_isShut, w_houses, w_the, w_fed, w_at, w_digits, w_text, w_clauses, w_word, w_number, w_from, w_to, w_sign, w_waits, w_signs, w_waiting, w_open, w_letters, w_pile, w_since, w_rain, w_shutAt, w_ways, w_path, w_rounds, w_round, w_bestPath, w_seen, w_seenWho, w_seenHarm, w_books, w_bookWho, w_bookWhen, w_hasImage, w_imageThe, w_imageWindows, w_imageMinutes, w_imageWet, w_imageComes, w_imageSide, w_imageFloor, w_imageRoom, w_imageRounds, w_imageSeen, w_imageBooks, w_imageKind, w_imageV, w_imageFloors, w_imageRooms, w_imageTakes, w_imageRows, w_imageRound, w_imageWho, w_imageHarm, w_imageBookWho, w_imageWhen, w_imageShut, w_ran, w_bodies, w_sort, w_length, w_item, w_aside]))] H := hW
      replace hw : (r11_ = (if n1 < 0 then 0 else (if 4 < n1 then 0 else 1))) ∧ True := hw
      obtain ⟨hw, -⟩ := hw
      by_cases c12_ : n1 < 0
      · have b13_ : (-2147483648) ≤ Int32.toInt n1 ∧ Int32.toInt n1 ≤ (-1) := zr_lt_l (-1) c12_ (zbnd n1) (show 0 ≤ Int32.toInt 0 ∧ Int32.toInt 0 ≤ 0 from (by decide)) (by decide)
        rw [if_pos c12_] at hw
        subst r11_
        refine lv_if_eq (tgt := 24) hx hb dX10_isPlace_17 (by decide) (fun c14_ => ?_) (fun c14_ => absurd (by decide) c14_)
        refine lv_iconst (v := 0) hx hb dX10_isPlace_24 (by decide) ?_
        exact zret_z (v := 0) hx hb hr hlocks hS () rfl ⟨(by show _ = _; rw [if_neg c2_, if_neg c6_, if_pos c12_]), trivial⟩ hW (Nat.le_of_ble_eq_true rfl) (Nat.le_of_ble_eq_true rfl) dX10_isPlace_25
      · have b15_ : 0 ≤ Int32.toInt n1 ∧ Int32.toInt n1 ≤ 2147483647 := zr_nlt_l 0 c12_ (zbnd n1) (show 0 ≤ Int32.toInt 0 ∧ Int32.toInt 0 ≤ 0 from (by decide)) (by decide)
        rw [if_neg c12_] at hw
        by_cases c16_ : 4 < n1
        · have b17_ : 5 ≤ Int32.toInt n1 ∧ Int32.toInt n1 ≤ 2147483647 := zr_lt_r 5 c16_ b15_ (show 4 ≤ Int32.toInt 4 ∧ Int32.toInt 4 ≤ 4 from (by decide)) (by decide)
          rw [if_pos c16_] at hw
          subst r11_
          refine lv_if_eq (tgt := 24) hx hb dX10_isPlace_17 (by decide) (fun c18_ => ?_) (fun c18_ => absurd (by decide) c18_)
          refine lv_iconst (v := 0) hx hb dX10_isPlace_24 (by decide) ?_
          exact zret_z (v := 0) hx hb hr hlocks hS () rfl ⟨(by show _ = _; rw [if_neg c2_, if_neg c6_, if_neg c12_, if_pos c16_]), trivial⟩ hW (Nat.le_of_ble_eq_true rfl) (Nat.le_of_ble_eq_true rfl) dX10_isPlace_25
        · have b19_ : 0 ≤ Int32.toInt n1 ∧ Int32.toInt n1 ≤ 4 := zr_nlt_r 4 c16_ b15_ (show 4 ≤ Int32.toInt 4 ∧ Int32.toInt 4 ≤ 4 from (by decide)) (by decide)
          rw [if_neg c16_] at hw
          subst r11_
          refine lv_if_eq (tgt := 24) hx hb dX10_isPlace_17 (by decide) (fun c20_ => absurd c20_ (by decide)) (fun c20_ => ?_)
          refine lv_iconst (v := 1) hx hb dX10_isPlace_20 (by decide) ?_
          refine lv_goto (tgt := 25) hx hb dX10_isPlace_21 (by decide) ?_
          exact zret_z (v := 1) hx hb hr hlocks hS () rfl ⟨(by show _ = _; rw [if_neg c2_, if_neg c6_, if_neg c12_, if_neg c16_]), trivial⟩ hW (Nat.le_of_ble_eq_true rfl) (Nat.le_of_ble_eq_true rfl) dX10_isPlace_25
set_option maxHeartbeats 8000000 in
set_option maxRecDepth 100000 in
theorem zd_X10_in_x_0_6 (l : Launch) (D : va_G) (y : Nat → ClassId) (a_this : Nat) (w_windows : Value) (w_minutes : Value) (w_wet : Value) (w_comes : Value) (w_side : Value) (w_herFloor : Value) (w_herRoom : Value) (w_kind : Value) (w_v : Value) (w_floor : Value) (w_room : Value) (w_takes : Value) (w_rows : Value) (w_isShut : Value) (w_houses : Value) (w_the : Value) (w_fed : Value) (w_at : Value) (w_digits : Value) (w_text : Value) (w_clauses : Value) (w_word : Value) (w_number : Value) (w_from : Value) (w_to : Value) (w_sign : Value) (w_waits : Value) (w_signs : Value) (w_waiting : Value) (w_open : Value) (w_letters : Value) (w_pile : Value) (w_since : Value) (w_rain : Value) (w_shutAt : Value) (w_ways : Value) (w_path : Value) (w_rounds : Value) (w_round : Value) (w_bestPath : Value) (w_seen : Value) (w_seenWho : Value) (w_seenHarm : Value) (w_books : Value) (w_bookWho : Value) (w_bookWhen : Value) (w_hasImage : Value) (w_imageThe : Value) (w_imageWindows : Value) (w_imageMinutes : Value) (w_imageWet : Value) (w_imageComes : Value) (w_imageSide : Value) (w_imageFloor : Value) (w_imageRoom : Value) (w_imageRounds : Value) (w_imageSeen : Value) (w_imageBooks : Value) (w_imageKind : Value) (w_imageV : Value) (w_imageFloors : Value) (w_imageRooms : Value) (w_imageTakes : Value) (w_imageRows : Value) (w_imageRound : Value) (w_imageWho : Value) (w_imageHarm : Value) (w_imageBookWho : Value) (w_imageWhen : Value) (w_imageShut : Value) (w_ran : Value) (w_bodies : Value) (w_sort : Value) (w_length : Value) (w_item : Value) (w_aside : Value) (n0 : Int32) : zM l D y yX10_in (Cond.code yX10_in cX10_in 4 (some .boolean) :: zT) { frames := 0, cells := 0, slots := 0, locals := 0 } [.ref a_this, .int n0, .int 0, .int 6] [(a_this, .inr (9, [w_windows, w_minutes, w_wet, w_comes, w_side, w_herFloor, w_herRoom, w_kind, w_v, w_floor, w_room, w_takes, w_rows, w_isShut, w_houses, w_the, w_fed, w_at, w_digits, w_text, w_clauses, w_word, w_number, w_from, w_to, w_sign, w_waits, w_signs, w_waiting, w_open, w_letters, w_pile, w_since, w_rain, w_shutAt, w_ways, w_path, w_rounds, w_round, w_bestPath, w_seen, w_seenWho, w_seenHarm, w_books, w_bookWho, w_bookWhen, w_hasImage, w_imageThe, w_imageWindows, w_imageMinutes, w_imageWet, w_imageComes, w_imageSide, w_imageFloor, w_imageRoom, w_imageRounds, w_imageSeen, w_imageBooks, w_imageKind, w_imageV, w_imageFloors, w_imageRooms, w_imageTakes, w_imageRows, w_imageRound, w_imageWho, w_imageHarm, w_imageBookWho, w_imageWhen, w_imageShut, w_ran, w_bodies, w_sort, w_length, w_item, w_aside]))] (zQi (S := Unit) D (fun r_ _ => (r_ = (if n0 < 0 then 0 else (if 6 < n0 then 0 else 1))) ∧ True) (fun _ => [(a_this, .inr (9, [w_windows, w_minutes, w_wet, w_comes, w_side, w_herFloor, w_herRoom, w_kind, w_v, w_floor, w_room, w_takes, w_rows, w_isShut, w_houses, w_the, w_fed, w_at, w_digits, w_text, w_clauses, w_word, w_number, w_from, w_to, w_sign, w_waits, w_signs, w_waiting, w_open, w_letters, w_pile, w_since, w_rain, w_shutAt, w_ways, w_path, w_rounds, w_round, w_bestPath, w_seen, w_seenWho, w_seenHarm, w_books, w_bookWho, w_bookWhen, w_hasImage, w_imageThe, w_imageWindows, w_imageMinutes, w_imageWet, w_imageComes, w_imageSide, w_imageFloor, w_imageRoom, w_imageRounds, w_imageSeen, w_imageBooks, w_imageKind, w_imageV, w_imageFloors, w_imageRooms, w_imageTakes, w_imageRows, w_imageRound, w_imageWho, w_imageHarm, w_imageBookWho, w_imageWhen, w_imageShut, w_ran, w_bodies, w_sort, w_length, w_item, w_aside]))])) := by
  refine zent (cc := cX10_in) (maxL := 4) (ret := (some .boolean)) (by decide) (Nat.le_of_ble_eq_true rfl) ?_
  intro p e s m below meth c A H locs ls hx hb hml hr ht hown hlocks hin hA hK hE hS hW hl
  replace hown : s.vm.findClass RX10 = some m.cls := hown
  replace hW : zPD D A [(a_this, .inr (9, [w_windows, w_minutes, w_wet, w_comes, w_side, w_herFloor, w_herRoom, w_kind, w_v, w_floor, w_room, w_takes, w_rows, w_isShut, w_houses, w_the, w_fed, w_at, w_digits, w_text, w_clauses, w_word, w_number, w_from, w_to, w_sign, w_waits, w_signs, w_waiting, w_open, w_letters, w_pile, w_since, w_rain, w_shutAt, w_ways, w_path, w_rounds, w_round, w_bestPath, w_seen, w_seenWho, w_seenHarm, w_books, w_bookWho, w_bookWhen, w_hasImage, w_imageThe, w_imageWindows, w_imageMinutes, w_imageWet, w_imageComes, w_imageSide, w_imageFloor, w_imageRoom, w_imageRounds, w_imageSeen, w_imageBooks, w_imageKind, w_imageV, w_imageFloors, w_imageRooms, w_imageTakes, w_imageRows, w_imageRound, w_imageWho, w_imageHarm, w_imageBookWho, w_imageWhen, w_imageShut, w_ran, w_bodies, w_sort, w_length, w_item, w_aside]))] H := hW
  replace hl : lv_has ls 4 [(0, .ref a_this), (1, .int n0), (2, .int 0), (3, .int 6)] := hl
  refine lv_iload_n hx hb dX10_in_0 rfl (lv_at hl 1 rfl) ?_
  refine lv_iload_n hx hb dX10_in_1 rfl (lv_at hl 2 rfl) ?_
  refine lv_icmp_lt (tgt := 14) hx hb dX10_in_2 (by decide) (fun c1_ => ?_) (fun c1_ => ?_)
  · have b2_ : (-2147483648) ≤ Int32.toInt n0 ∧ Int32.toInt n0 ≤ (-1) := zr_lt_l (-1) c1_ (zbnd n0) (show 0 ≤ Int32.toInt 0 ∧ Int32.toInt 0 ≤ 0 from (by decide)) (by decide)
    refine lv_iconst (v := 0) hx hb dX10_in_14 (by decide) ?_
    exact zret_z (v := 0) hx hb hr hlocks hS () rfl ⟨(by show _ = _; rw [if_pos c1_]), trivial⟩ hW (Nat.le_of_ble_eq_true rfl) (Nat.le_of_ble_eq_true rfl) dX10_in_15
  · have b3_ : 0 ≤ Int32.toInt n0 ∧ Int32.toInt n0 ≤ 2147483647 := zr_nlt_l 0 c1_ (zbnd n0) (show 0 ≤ Int32.toInt 0 ∧ Int32.toInt 0 ≤ 0 from (by decide)) (by decide)
    refine lv_iload_n hx hb dX10_in_5 rfl (lv_at hl 1 rfl) ?_
    refine lv_iload_n hx hb dX10_in_6 rfl (lv_at hl 3 rfl) ?_
    refine lv_icmp_gt (tgt := 14) hx hb dX10_in_7 (by decide) (fun c4_ => ?_) (fun c4_ => ?_)
    · have b5_ : 7 ≤ Int32.toInt n0 ∧ Int32.toInt n0 ≤ 2147483647 := zr_lt_r 7 c4_ b3_ (show 6 ≤ Int32.toInt 6 ∧ Int32.toInt 6 ≤ 6 from (by decide)) (by decide)
      refine lv_iconst (v := 0) hx hb dX10_in_14 (by decide) ?_
      exact zret_z (v := 0) hx hb hr hlocks hS () rfl ⟨(by show _ = _; rw [if_neg c1_, if_pos c4_]), trivial⟩ hW (Nat.le_of_ble_eq_true rfl) (Nat.le_of_ble_eq_true rfl) dX10_in_15
    · have b6_ : 0 ≤ Int32.toInt n0 ∧ Int32.toInt n0 ≤ 6 := zr_nlt_r 6 c4_ b3_ (show 6 ≤ Int32.toInt 6 ∧ Int32.toInt 6 ≤ 6 from (by decide)) (by decide)
      refine lv_iconst (v := 1) hx hb dX10_in_10 (by decide) ?_
      refine lv_goto (tgt := 15) hx hb dX10_in_11 (by decide) ?_
      exact zret_z (v := 1) hx hb hr hlocks hS () rfl ⟨(by show _ = _; rw [if_neg c1_, if_neg c4_]), trivial⟩ hW (Nat.le_of_ble_eq_true rfl) (Nat.le_of_ble_eq_true rfl) dX10_in_15
set_option maxHeartbeats 8000000 in
set_option maxRecDepth 100000 in
theorem zd_X10_in_x_0_9 (l : Launch) (D : va_G) (y : Nat → ClassId) (a_this : Nat) (w_windows : Value) (w_minutes : Value) (w_wet : Value) (w_comes : Value) (w_side : Value) (w_herFloor : Value) (w_herRoom : Value) (w_kind : Value) (w_v : Value) (w_floor : Value) (w_room : Value) (w_takes : Value) (w_rows : Value) (w_isShut : Value) (w_houses : Value) (w_the : Value) (w_fed : Value) (w_at : Value) (w_digits : Value) (w_text : Value) (w_clauses : Value) (w_word : Value) (w_number : Value) (w_from : Value) (w_to : Value) (w_sign : Value) (w_waits : Value) (w_signs : Value) (w_waiting : Value) (w_open : Value) (w_letters : Value) (w_pile : Value) (w_since : Value) (w_rain : Value) (w_shutAt : Value) (w_ways : Value) (w_path : Value) (w_rounds : Value) (w_round : Value) (w_bestPath : Value) (w_seen : Value) (w_seenWho : Value) (w_seenHarm : Value) (w_books : Value) (w_bookWho : Value) (w_bookWhen : Value) (w_hasImage : Value) (w_imageThe : Value) (w_imageWindows : Value) (w_imageMinutes : Value) (w_imageWet : Value) (w_imageComes : Value) (w_imageSide : Value) (w_imageFloor : Value) (w_imageRoom : Value) (w_imageRounds : Value) (w_imageSeen : Value) (w_imageBooks : Value) (w_imageKind : Value) (w_imageV : Value) (w_imageFloors : Value) (w_imageRooms : Value) (w_imageTakes : Value) (w_imageRows : Value) (w_imageRound : Value) (w_imageWho : Value) (w_imageHarm : Value) (w_imageBookWho : Value) (w_imageWhen : Value) (w_imageShut : Value) (w_ran : Value) (w_bodies : Value) (w_sort : Value) (w_length : Value) (w_item : Value) (w_aside : Value) (n0 : Int32) : zM l D y yX10_in (Cond.code yX10_in cX10_in 4 (some .boolean) :: zT) { frames := 0, cells := 0, slots := 0, locals := 0 } [.ref a_this, .int n0, .int 0, .int 9] [(a_this, .inr (9, [w_windows, w_minutes, w_wet, w_comes, w_side, w_herFloor, w_herRoom, w_kind, w_v, w_floor, w_room, w_takes, w_rows, w_isShut, w_houses, w_the, w_fed, w_at, w_digits, w_text, w_clauses, w_word, w_number, w_from, w_to, w_sign, w_waits, w_signs, w_waiting, w_open, w_letters, w_pile, w_since, w_rain, w_shutAt, w_ways, w_path, w_rounds, w_round, w_bestPath, w_seen, w_seenWho, w_seenHarm, w_books, w_bookWho, w_bookWhen, w_hasImage, w_imageThe, w_imageWindows, w_imageMinutes, w_imageWet, w_imageComes, w_imageSide, w_imageFloor, w_imageRoom, w_imageRounds, w_imageSeen, w_imageBooks, w_imageKind, w_imageV, w_imageFloors, w_imageRooms, w_imageTakes, w_imageRows, w_imageRound, w_imageWho, w_imageHarm, w_imageBookWho, w_imageWhen, w_imageShut, w_ran, w_bodies, w_sort, w_length, w_item, w_aside]))] (zQi (S := Unit) D (fun r_ _ => (r_ = (if n0 < 0 then 0 else (if 9 < n0 then 0 else 1))) ∧ True) (fun _ => [(a_this, .inr (9, [w_windows, w_minutes, w_wet, w_comes, w_side, w_herFloor, w_herRoom, w_kind, w_v, w_floor, w_room, w_takes, w_rows, w_isShut, w_houses, w_the, w_fed, w_at, w_digits, w_text, w_clauses, w_word, w_number, w_from, w_to, w_sign, w_waits, w_signs, w_waiting, w_open, w_letters, w_pile, w_since, w_rain, w_shutAt, w_ways, w_path, w_rounds, w_round, w_bestPath, w_seen, w_seenWho, w_seenHarm, w_books, w_bookWho, w_bookWhen, w_hasImage, w_imageThe, w_imageWindows, w_imageMinutes, w_imageWet, w_imageComes, w_imageSide, w_imageFloor, w_imageRoom, w_imageRounds, w_imageSeen, w_imageBooks, w_imageKind, w_imageV, w_imageFloors, w_imageRooms, w_imageTakes, w_imageRows, w_imageRound, w_imageWho, w_imageHarm, w_imageBookWho, w_imageWhen, w_imageShut, w_ran, w_bodies, w_sort, w_length, w_item, w_aside]))])) := by
  refine zent (cc := cX10_in) (maxL := 4) (ret := (some .boolean)) (by decide) (Nat.le_of_ble_eq_true rfl) ?_
  intro p e s m below meth c A H locs ls hx hb hml hr ht hown hlocks hin hA hK hE hS hW hl
  replace hown : s.vm.findClass RX10 = some m.cls := hown
  replace hW : zPD D A [(a_this, .inr (9, [w_windows, w_minutes, w_wet, w_comes, w_side, w_herFloor, w_herRoom, w_kind, w_v, w_floor, w_room, w_takes, w_rows, w_isShut, w_houses, w_the, w_fed, w_at, w_digits, w_text, w_clauses, w_word, w_number, w_from, w_to, w_sign, w_waits, w_signs, w_waiting, w_open, w_letters, w_pile, w_since, w_rain, w_shutAt, w_ways, w_path, w_rounds, w_round, w_bestPath, w_seen, w_seenWho, w_seenHarm, w_books, w_bookWho, w_bookWhen, w_hasImage, w_imageThe, w_imageWindows, w_imageMinutes, w_imageWet, w_imageComes, w_imageSide, w_imageFloor, w_imageRoom, w_imageRounds, w_imageSeen, w_imageBooks, w_imageKind, w_imageV, w_imageFloors, w_imageRooms, w_imageTakes, w_imageRows, w_imageRound, w_imageWho, w_imageHarm, w_imageBookWho, w_imageWhen, w_imageShut, w_ran, w_bodies, w_sort, w_length, w_item, w_aside]))] H := hW
  replace hl : lv_has ls 4 [(0, .ref a_this), (1, .int n0), (2, .int 0), (3, .int 9)] := hl
  refine lv_iload_n hx hb dX10_in_0 rfl (lv_at hl 1 rfl) ?_
  refine lv_iload_n hx hb dX10_in_1 rfl (lv_at hl 2 rfl) ?_
  refine lv_icmp_lt (tgt := 14) hx hb dX10_in_2 (by decide) (fun c1_ => ?_) (fun c1_ => ?_)
  · have b2_ : (-2147483648) ≤ Int32.toInt n0 ∧ Int32.toInt n0 ≤ (-1) := zr_lt_l (-1) c1_ (zbnd n0) (show 0 ≤ Int32.toInt 0 ∧ Int32.toInt 0 ≤ 0 from (by decide)) (by decide)
    refine lv_iconst (v := 0) hx hb dX10_in_14 (by decide) ?_
    exact zret_z (v := 0) hx hb hr hlocks hS () rfl ⟨(by show _ = _; rw [if_pos c1_]), trivial⟩ hW (Nat.le_of_ble_eq_true rfl) (Nat.le_of_ble_eq_true rfl) dX10_in_15
  · have b3_ : 0 ≤ Int32.toInt n0 ∧ Int32.toInt n0 ≤ 2147483647 := zr_nlt_l 0 c1_ (zbnd n0) (show 0 ≤ Int32.toInt 0 ∧ Int32.toInt 0 ≤ 0 from (by decide)) (by decide)
    refine lv_iload_n hx hb dX10_in_5 rfl (lv_at hl 1 rfl) ?_
    refine lv_iload_n hx hb dX10_in_6 rfl (lv_at hl 3 rfl) ?_
    refine lv_icmp_gt (tgt := 14) hx hb dX10_in_7 (by decide) (fun c4_ => ?_) (fun c4_ => ?_)
    · have b5_ : 10 ≤ Int32.toInt n0 ∧ Int32.toInt n0 ≤ 2147483647 := zr_lt_r 10 c4_ b3_ (show 9 ≤ Int32.toInt 9 ∧ Int32.toInt 9 ≤ 9 from (by decide)) (by decide)
      refine lv_iconst (v := 0) hx hb dX10_in_14 (by decide) ?_
      exact zret_z (v := 0) hx hb hr hlocks hS () rfl ⟨(by show _ = _; rw [if_neg c1_, if_pos c4_]), trivial⟩ hW (Nat.le_of_ble_eq_true rfl) (Nat.le_of_ble_eq_true rfl) dX10_in_15
    · have b6_ : 0 ≤ Int32.toInt n0 ∧ Int32.toInt n0 ≤ 9 := zr_nlt_r 9 c4_ b3_ (show 9 ≤ Int32.toInt 9 ∧ Int32.toInt 9 ≤ 9 from (by decide)) (by decide)
      refine lv_iconst (v := 1) hx hb dX10_in_10 (by decide) ?_
      refine lv_goto (tgt := 15) hx hb dX10_in_11 (by decide) ?_
      exact zret_z (v := 1) hx hb hr hlocks hS () rfl ⟨(by show _ = _; rw [if_neg c1_, if_neg c4_]), trivial⟩ hW (Nat.le_of_ble_eq_true rfl) (Nat.le_of_ble_eq_true rfl) dX10_in_15
set_option maxHeartbeats 8000000 in
set_option maxRecDepth 100000 in
theorem zd_X10_in_x_1_9 (l : Launch) (D : va_G) (y : Nat → ClassId) (a_this : Nat) (w_windows : Value) (w_minutes : Value) (w_wet : Value) (w_comes : Value) (w_side : Value) (w_herFloor : Value) (w_herRoom : Value) (w_kind : Value) (w_v : Value) (w_floor : Value) (w_room : Value) (w_takes : Value) (w_rows : Value) (w_isShut : Value) (w_houses : Value) (w_the : Value) (w_fed : Value) (w_at : Value) (w_digits : Value) (w_text : Value) (w_clauses : Value) (w_word : Value) (w_number : Value) (w_from : Value) (w_to : Value) (w_sign : Value) (w_waits : Value) (w_signs : Value) (w_waiting : Value) (w_open : Value) (w_letters : Value) (w_pile : Value) (w_since : Value) (w_rain : Value) (w_shutAt : Value) (w_ways : Value) (w_path : Value) (w_rounds : Value) (w_round : Value) (w_bestPath : Value) (w_seen : Value) (w_seenWho : Value) (w_seenHarm : Value) (w_books : Value) (w_bookWho : Value) (w_bookWhen : Value) (w_hasImage : Value) (w_imageThe : Value) (w_imageWindows : Value) (w_imageMinutes : Value) (w_imageWet : Value) (w_imageComes : Value) (w_imageSide : Value) (w_imageFloor : Value) (w_imageRoom : Value) (w_imageRounds : Value) (w_imageSeen : Value) (w_imageBooks : Value) (w_imageKind : Value) (w_imageV : Value) (w_imageFloors : Value) (w_imageRooms : Value) (w_imageTakes : Value) (w_imageRows : Value) (w_imageRound : Value) (w_imageWho : Value) (w_imageHarm : Value) (w_imageBookWho : Value) (w_imageWhen : Value) (w_imageShut : Value) (w_ran : Value) (w_bodies : Value) (w_sort : Value) (w_length : Value) (w_item : Value) (w_aside : Value) (n0 : Int32) : zM l D y yX10_in (Cond.code yX10_in cX10_in 4 (some .boolean) :: zT) { frames := 0, cells := 0, slots := 0, locals := 0 } [.ref a_this, .int n0, .int 1, .int 9] [(a_this, .inr (9, [w_windows, w_minutes, w_wet, w_comes, w_side, w_herFloor, w_herRoom, w_kind, w_v, w_floor, w_room, w_takes, w_rows, w_isShut, w_houses, w_the, w_fed, w_at, w_digits, w_text, w_clauses, w_word, w_number, w_from, w_to, w_sign, w_waits, w_signs, w_waiting, w_open, w_letters, w_pile, w_since, w_rain, w_shutAt, w_ways, w_path, w_rounds, w_round, w_bestPath, w_seen, w_seenWho, w_seenHarm, w_books, w_bookWho, w_bookWhen, w_hasImage, w_imageThe, w_imageWindows, w_imageMinutes, w_imageWet, w_imageComes, w_imageSide, w_imageFloor, w_imageRoom, w_imageRounds, w_imageSeen, w_imageBooks, w_imageKind, w_imageV, w_imageFloors, w_imageRooms, w_imageTakes, w_imageRows, w_imageRound, w_imageWho, w_imageHarm, w_imageBookWho, w_imageWhen, w_imageShut, w_ran, w_bodies, w_sort, w_length, w_item, w_aside]))] (zQi (S := Unit) D (fun r_ _ => (r_ = (if n0 < 1 then 0 else (if 9 < n0 then 0 else 1))) ∧ True) (fun _ => [(a_this, .inr (9, [w_windows, w_minutes, w_wet, w_comes, w_side, w_herFloor, w_herRoom, w_kind, w_v, w_floor, w_room, w_takes, w_rows, w_isShut, w_houses, w_the, w_fed, w_at, w_digits, w_text, w_clauses, w_word, w_number, w_from, w_to, w_sign, w_waits, w_signs, w_waiting, w_open, w_letters, w_pile, w_since, w_rain, w_shutAt, w_ways, w_path, w_rounds, w_round, w_bestPath, w_seen, w_seenWho, w_seenHarm, w_books, w_bookWho, w_bookWhen, w_hasImage, w_imageThe, w_imageWindows, w_imageMinutes, w_imageWet, w_imageComes, w_imageSide, w_imageFloor, w_imageRoom, w_imageRounds, w_imageSeen, w_imageBooks, w_imageKind, w_imageV, w_imageFloors, w_imageRooms, w_imageTakes, w_imageRows, w_imageRound, w_imageWho, w_imageHarm, w_imageBookWho, w_imageWhen, w_imageShut, w_ran, w_bodies, w_sort, w_length, w_item, w_aside]))])) := by
  refine zent (cc := cX10_in) (maxL := 4) (ret := (some .boolean)) (by decide) (Nat.le_of_ble_eq_true rfl) ?_
  intro p e s m below meth c A H locs ls hx hb hml hr ht hown hlocks hin hA hK hE hS hW hl
  replace hown : s.vm.findClass RX10 = some m.cls := hown
  replace hW : zPD D A [(a_this, .inr (9, [w_windows, w_minutes, w_wet, w_comes, w_side, w_herFloor, w_herRoom, w_kind, w_v, w_floor, w_room, w_takes, w_rows, w_isShut, w_houses, w_the, w_fed, w_at, w_digits, w_text, w_clauses, w_word, w_number, w_from, w_to, w_sign, w_waits, w_signs, w_waiting, w_open, w_letters, w_pile, w_since, w_rain, w_shutAt, w_ways, w_path, w_rounds, w_round, w_bestPath, w_seen, w_seenWho, w_seenHarm, w_books, w_bookWho, w_bookWhen, w_hasImage, w_imageThe, w_imageWindows, w_imageMinutes, w_imageWet, w_imageComes, w_imageSide, w_imageFloor, w_imageRoom, w_imageRounds, w_imageSeen, w_imageBooks, w_imageKind, w_imageV, w_imageFloors, w_imageRooms, w_imageTakes, w_imageRows, w_imageRound, w_imageWho, w_imageHarm, w_imageBookWho, w_imageWhen, w_imageShut, w_ran, w_bodies, w_sort, w_length, w_item, w_aside]))] H := hW
  replace hl : lv_has ls 4 [(0, .ref a_this), (1, .int n0), (2, .int 1), (3, .int 9)] := hl
  refine lv_iload_n hx hb dX10_in_0 rfl (lv_at hl 1 rfl) ?_
  refine lv_iload_n hx hb dX10_in_1 rfl (lv_at hl 2 rfl) ?_
  refine lv_icmp_lt (tgt := 14) hx hb dX10_in_2 (by decide) (fun c1_ => ?_) (fun c1_ => ?_)
  · have b2_ : (-2147483648) ≤ Int32.toInt n0 ∧ Int32.toInt n0 ≤ 0 := zr_lt_l 0 c1_ (zbnd n0) (show 1 ≤ Int32.toInt 1 ∧ Int32.toInt 1 ≤ 1 from (by decide)) (by decide)
    refine lv_iconst (v := 0) hx hb dX10_in_14 (by decide) ?_
    exact zret_z (v := 0) hx hb hr hlocks hS () rfl ⟨(by show _ = _; rw [if_pos c1_]), trivial⟩ hW (Nat.le_of_ble_eq_true rfl) (Nat.le_of_ble_eq_true rfl) dX10_in_15
  · have b3_ : 1 ≤ Int32.toInt n0 ∧ Int32.toInt n0 ≤ 2147483647 := zr_nlt_l 1 c1_ (zbnd n0) (show 1 ≤ Int32.toInt 1 ∧ Int32.toInt 1 ≤ 1 from (by decide)) (by decide)
    refine lv_iload_n hx hb dX10_in_5 rfl (lv_at hl 1 rfl) ?_
    refine lv_iload_n hx hb dX10_in_6 rfl (lv_at hl 3 rfl) ?_
    refine lv_icmp_gt (tgt := 14) hx hb dX10_in_7 (by decide) (fun c4_ => ?_) (fun c4_ => ?_)
    · have b5_ : 10 ≤ Int32.toInt n0 ∧ Int32.toInt n0 ≤ 2147483647 := zr_lt_r 10 c4_ b3_ (show 9 ≤ Int32.toInt 9 ∧ Int32.toInt 9 ≤ 9 from (by decide)) (by decide)
      refine lv_iconst (v := 0) hx hb dX10_in_14 (by decide) ?_
      exact zret_z (v := 0) hx hb hr hlocks hS () rfl ⟨(by show _ = _; rw [if_neg c1_, if_pos c4_]), trivial⟩ hW (Nat.le_of_ble_eq_true rfl) (Nat.le_of_ble_eq_true rfl) dX10_in_15
    · have b6_ : 1 ≤ Int32.toInt n0 ∧ Int32.toInt n0 ≤ 9 := zr_nlt_r 9 c4_ b3_ (show 9 ≤ Int32.toInt 9 ∧ Int32.toInt 9 ≤ 9 from (by decide)) (by decide)
      refine lv_iconst (v := 1) hx hb dX10_in_10 (by decide) ?_
      refine lv_goto (tgt := 15) hx hb dX10_in_11 (by decide) ?_
      exact zret_z (v := 1) hx hb hr hlocks hS () rfl ⟨(by show _ = _; rw [if_neg c1_, if_neg c4_]), trivial⟩ hW (Nat.le_of_ble_eq_true rfl) (Nat.le_of_ble_eq_true rfl) dX10_in_15
set_option maxHeartbeats 8000000 in
set_option maxRecDepth 100000 in
theorem zd_X10_window_x_x_x_x_x (l : Launch) (D : va_G) (y : Nat → ClassId) (a_this : Nat) (a_kind : Nat) (a_v : Nat) (a_floor : Nat) (a_room : Nat) (a_takes : Nat) (a_rows : Nat) (a_isShut : Nat) (p_windows : Int32) (w_minutes : Value) (w_wet : Value) (w_comes : Value) (w_side : Value) (w_herFloor : Value) (w_herRoom : Value) (w_houses : Value) (w_the : Value) (w_fed : Value) (w_at : Value) (w_digits : Value) (w_text : Value) (w_clauses : Value) (w_word : Value) (w_number : Value) (w_from : Value) (w_to : Value) (w_sign : Value) (w_waits : Value) (w_signs : Value) (w_waiting : Value) (w_open : Value) (w_letters : Value) (w_pile : Value) (w_since : Value) (w_rain : Value) (w_shutAt : Value) (w_ways : Value) (w_path : Value) (w_rounds : Value) (w_round : Value) (w_bestPath : Value) (w_seen : Value) (w_seenWho : Value) (w_seenHarm : Value) (w_books : Value) (w_bookWho : Value) (w_bookWhen : Value) (w_hasImage : Value) (w_imageThe : Value) (w_imageWindows : Value) (w_imageMinutes : Value) (w_imageWet : Value) (w_imageComes : Value) (w_imageSide : Value) (w_imageFloor : Value) (w_imageRoom : Value) (w_imageRounds : Value) (w_imageSeen : Value) (w_imageBooks : Value) (w_imageKind : Value) (w_imageV : Value) (w_imageFloors : Value) (w_imageRooms : Value) (w_imageTakes : Value) (w_imageRows : Value) (w_imageRound : Value) (w_imageWho : Value) (w_imageHarm : Value) (w_imageBookWho : Value) (w_imageWhen : Value) (w_imageShut : Value) (w_ran : Value) (w_bodies : Value) (w_sort : Value) (w_length : Value) (w_item : Value) (w_aside : Value) (f_kind : Nat → Int32) (f_v : Nat → Int32) (f_floor : Nat → Int32) (f_room : Nat → Int32) (f_takes : Nat → Int32) (f_rows : Nat → Int32) (f_isShut : Nat → Int32) (n0 : Int32) (n1 : Int32) (n2 : Int32) (n3 : Int32) (n4 : Int32) (hp_windows : 0 ≤ Int32.toInt p_windows ∧ Int32.toInt p_windows ≤ 7) (hf_kind : ∀ j_, 0 ≤ Int32.toInt (f_kind j_) ∧ Int32.toInt (f_kind j_) ≤ 6) (hf_v : ∀ j_, 0 ≤ Int32.toInt (f_v j_) ∧ Int32.toInt (f_v j_) ≤ 9) (hf_floor : ∀ j_, 0 ≤ Int32.toInt (f_floor j_) ∧ Int32.toInt (f_floor j_) ≤ 3) (hf_room : ∀ j_, 0 ≤ Int32.toInt (f_room j_) ∧ Int32.toInt (f_room j_) ≤ 4) (hf_takes : ∀ j_, 0 ≤ Int32.toInt (f_takes j_) ∧ Int32.toInt (f_takes j_) ≤ 9) (hf_rows : ∀ j_, 0 ≤ Int32.toInt (f_rows j_) ∧ Int32.toInt (f_rows j_) ≤ 9) (hf_isShut : ∀ j_, 0 ≤ Int32.toInt (f_isShut j_) ∧ Int32.toInt (f_isShut j_) ≤ 1) : zM l D y yX10_window (Cond.code yX10_window cX10_window 7 (some .int) :: zT) { frames := 2, cells := 0, slots := 0, locals := 45 } [.ref a_this, .int n0, .int n1, .int n2, .int n3, .int n4] [(a_this, .inr (9, [.int p_windows, w_minutes, w_wet, w_comes, w_side, w_herFloor, w_herRoom, .ref a_kind, .ref a_v, .ref a_floor, .ref a_room, .ref a_takes, .ref a_rows, .ref a_isShut, w_houses, w_the, w_fed, w_at, w_digits, w_text, w_clauses, w_word, w_number, w_from, w_to, w_sign, w_waits, w_signs, w_waiting, w_open, w_letters, w_pile, w_since, w_rain, w_shutAt, w_ways, w_path, w_rounds, w_round, w_bestPath, w_seen, w_seenWho, w_seenHarm, w_books, w_bookWho, w_bookWhen, w_hasImage, w_imageThe, w_imageWindows, w_imageMinutes, w_imageWet, w_imageComes, w_imageSide, w_imageFloor, w_imageRoom, w_imageRounds, w_imageSeen, w_imageBooks, w_imageKind, w_imageV, w_imageFloors, w_imageRooms, w_imageTakes, w_imageRows, w_imageRound, w_imageWho, w_imageHarm, w_imageBookWho, w_imageWhen, w_imageShut, w_ran, w_bodies, w_sort, w_length, w_item, w_aside])), (a_kind, .inl (y 0, 7, .inl f_kind)), (a_v, .inl (y 0, 7, .inl f_v)), (a_floor, .inl (y 0, 7, .inl f_floor)), (a_room, .inl (y 0, 7, .inl f_room)), (a_takes, .inl (y 0, 7, .inl f_takes)), (a_rows, .inl (y 0, 28, .inl f_rows)), (a_isShut, .inl (y 2, 7, .inl f_isShut))] (zQi (S := Int32 × (Nat → Int32) × (Nat → Int32) × (Nat → Int32) × (Nat → Int32) × (Nat → Int32) × (Nat → Int32) × (Nat → Int32)) D (fun r_ z_ => match z_ with | (x_windows_, g_kind_, g_v_, g_floor_, g_room_, g_takes_, g_rows_, g_isShut_) => ((-4) ≤ Int32.toInt r_ ∧ Int32.toInt r_ ≤ 6) ∧ (0 ≤ Int32.toInt x_windows_ ∧ Int32.toInt x_windows_ ≤ 7) ∧ (∀ j_, 0 ≤ Int32.toInt (g_kind_ j_) ∧ Int32.toInt (g_kind_ j_) ≤ 6) ∧ (∀ j_, 0 ≤ Int32.toInt (g_v_ j_) ∧ Int32.toInt (g_v_ j_) ≤ 9) ∧ (∀ j_, 0 ≤ Int32.toInt (g_floor_ j_) ∧ Int32.toInt (g_floor_ j_) ≤ 3) ∧ (∀ j_, 0 ≤ Int32.toInt (g_room_ j_) ∧ Int32.toInt (g_room_ j_) ≤ 4) ∧ (∀ j_, 0 ≤ Int32.toInt (g_takes_ j_) ∧ Int32.toInt (g_takes_ j_) ≤ 9) ∧ (∀ j_, 0 ≤ Int32.toInt (g_rows_ j_) ∧ Int32.toInt (g_rows_ j_) ≤ 9) ∧ (∀ j_, 0 ≤ Int32.toInt (g_isShut_ j_) ∧ Int32.toInt (g_isShut_ j_) ≤ 1) ∧ True) (fun z_ => match z_ with | (x_windows_, g_kind_, g_v_, g_floor_, g_room_, g_takes_, g_rows_, g_isShut_) => [(a_this, .inr (9, [.int x_windows_, w_minutes, w_wet, w_comes, w_side, w_herFloor, w_herRoom, .ref a_kind, .ref a_v, .ref a_floor, .ref a_room, .ref a_takes, .ref a_rows, .ref a_isShut, w_houses, w_the, w_fed, w_at, w_digits, w_text, w_clauses, w_word, w_number, w_from, w_to, w_sign, w_waits, w_signs, w_waiting, w_open, w_letters, w_pile, w_since, w_rain, w_shutAt, w_ways, w_path, w_rounds, w_round, w_bestPath, w_seen, w_seenWho, w_seenHarm, w_books, w_bookWho, w_bookWhen, w_hasImage, w_imageThe, w_imageWindows, w_imageMinutes, w_imageWet, w_imageComes, w_imageSide, w_imageFloor, w_imageRoom, w_imageRounds, w_imageSeen, w_imageBooks, w_imageKind, w_imageV, w_imageFloors, w_imageRooms, w_imageTakes, w_imageRows, w_imageRound, w_imageWho, w_imageHarm, w_imageBookWho, w_imageWhen, w_imageShut, w_ran, w_bodies, w_sort, w_length, w_item, w_aside])), (a_kind, .inl (y 0, 7, .inl g_kind_)), (a_v, .inl (y 0, 7, .inl g_v_)), (a_floor, .inl (y 0, 7, .inl g_floor_)), (a_room, .inl (y 0, 7, .inl g_room_)), (a_takes, .inl (y 0, 7, .inl g_takes_)), (a_rows, .inl (y 0, 28, .inl g_rows_)), (a_isShut, .inl (y 2, 7, .inl g_isShut_))])) := by
  refine zent (cc := cX10_window) (maxL := 7) (ret := (some .int)) (by decide) (Nat.le_of_ble_eq_true rfl) ?_
  intro p e s m below meth c A H locs ls hx hb hml hr ht hown hlocks hin hA hK hE hS hW hl
  replace hown : s.vm.findClass RX10 = some m.cls := hown
  replace hW : zPD D A [(a_this, .inr (9, [.int p_windows, w_minutes, w_wet, w_comes, w_side, w_herFloor, w_herRoom, .ref a_kind, .ref a_v, .ref a_floor, .ref a_room, .ref a_takes, .ref a_rows, .ref a_isShut, w_houses, w_the, w_fed, w_at, w_digits, w_text, w_clauses, w_word, w_number, w_from, w_to, w_sign, w_waits, w_signs, w_waiting, w_open, w_letters, w_pile, w_since, w_rain, w_shutAt, w_ways, w_path, w_rounds, w_round, w_bestPath, w_seen, w_seenWho, w_seenHarm, w_books, w_bookWho, w_bookWhen, w_hasImage, w_imageThe, w_imageWindows, w_imageMinutes, w_imageWet, w_imageComes, w_imageSide, w_imageFloor, w_imageRoom, w_imageRounds, w_imageSeen, w_imageBooks, w_imageKind, w_imageV, w_imageFloors, w_imageRooms, w_imageTakes, w_imageRows, w_imageRound, w_imageWho, w_imageHarm, w_imageBookWho, w_imageWhen, w_imageShut, w_ran, w_bodies, w_sort, w_length, w_item, w_aside])), (a_kind, .inl (y 0, 7, .inl f_kind)), (a_v, .inl (y 0, 7, .inl f_v)), (a_floor, .inl (y 0, 7, .inl f_floor)), (a_room, .inl (y 0, 7, .inl f_room)), (a_takes, .inl (y 0, 7, .inl f_takes)), (a_rows, .inl (y 0, 28, .inl f_rows)), (a_isShut, .inl (y 2, 7, .inl f_isShut))] H := hW
  replace hl : lv_has ls 7 [(0, .ref a_this), (1, .int n0), (2, .int n1), (3, .int n2), (4, .int n3), (5, .int n4)] := hl
  refine lv_aload_n hx hb dX10_window_0 rfl (lv_at hl 0 rfl) ?_
  refine lv_iload_n hx hb dX10_window_1 rfl (lv_at hl 1 rfl) ?_
  refine lv_iconst (v := 0) hx hb dX10_window_2 (by decide) ?_
  refine lv_bipush (v := 6) hx hb dX10_window_3 (by decide) ?_
  refine zgo_i (wr := [(a_kind, .inl (y 0, 7, .inl f_kind)), (a_v, .inl (y 0, 7, .inl f_v)), (a_floor, .inl (y 0, 7, .inl f_floor)), (a_room, .inl (y 0, 7, .inl f_room)), (a_takes, .inl (y 0, 7, .inl f_takes)), (a_rows, .inl (y 0, 28, .inl f_rows)), (a_isShut, .inl (y 2, 7, .inl f_isShut))]) (zrunV (As := [.int n0, .int 0, .int 6]) (rest := []) ⟨hx, hb, hml, hown, ht⟩ (zd_X10_in_x_0_6 l D y a_this (.int p_windows) w_minutes w_wet w_comes w_side w_herFloor w_herRoom (.ref a_kind) (.ref a_v) (.ref a_floor) (.ref a_room) (.ref a_takes) (.ref a_rows) (.ref a_isShut) w_houses w_the w_fed w_at w_digits w_text w_clauses w_word w_number w_from w_to w_sign w_waits w_signs w_waiting w_open w_letters w_pile w_since w_rain w_shutAt w_ways w_path w_rounds w_round w_bestPath w_seen w_seenWho w_seenHarm w_books w_bookWho w_bookWhen w_hasImage w_imageThe w_imageWindows w_imageMinutes w_imageWet w_imageComes w_imageSide w_imageFloor w_imageRoom w_imageRounds w_imageSeen w_imageBooks w_imageKind w_imageV w_imageFloors w_imageRooms w_imageTakes w_imageRows w_imageRound w_imageWho w_imageHarm w_imageBookWho w_imageWhen w_imageShut w_ran w_bodies w_sort w_length w_item w_aside n0) (cwV 3 ht (zgV zm_240 zm_241 zm_242 zm_5 zm_243) rfl rfl rfl (by decide +kernel) ⟨(Nat.le_of_ble_eq_true rfl), (Nat.le_of_ble_eq_true rfl)⟩) hK hE hS hA hW [0] (by decide) rfl 0 rfl rfl rfl rfl hl.1 rfl (Nat.le_of_ble_eq_true rfl) dX10_window_5 (Nat.le_of_ble_eq_true rfl) (Nat.le_of_ble_eq_true rfl)) hS hA hW [0] [1, 2, 3, 4, 5, 6, 7] rfl rfl (by decide) (by decide) (fun r1_ u H locs hw hW hS => ?_)
  replace hW : zPD D A [(a_this, .inr (9, [.int p_windows, w_minutes, w_wet, w_comes, w_side, w_herFloor, w_herRoom, .ref a_kind, .ref a_v, .ref a_floor, .ref a_room, .ref a_takes, .ref a_rows, .ref a_isShut, w_houses, w_the, w_fed, w_at, w_digits, w_text, w_clauses, w_word, w_number, w_from, w_to, w_sign, w_waits, w_signs, w_waiting, w_open, w_letters, w_pile, w_since, w_rain, w_shutAt, w_ways, w_path, w_rounds, w_round, w_bestPath, w_seen, w_seenWho, w_seenHarm, w_books, w_bookWho, w_bookWhen, w_hasImage, w_imageThe, w_imageWindows, w_imageMinutes, w_imageWet, w_imageComes, w_imageSide, w_imageFloor, w_imageRoom, w_imageRounds, w_imageSeen, w_imageBooks, w_imageKind, w_imageV, w_imageFloors, w_imageRooms, w_imageTakes, w_imageRows, w_imageRound, w_imageWho, w_imageHarm, w_imageBookWho, w_imageWhen, w_imageShut, w_ran, w_bodies, w_sort, w_length, w_item, w_aside])), (a_kind, .inl (y 0, 7, .inl f_kind)), (a_v, .inl (y 0, 7, .inl f_v)), (a_floor, .inl (y 0, 7, .inl f_floor)), (a_room, .inl (y 0, 7, .inl f_room)), (a_takes, .inl (y 0, 7, .inl f_takes)), (a_rows, .inl (y 0, 28, .inl f_rows)), (a_isShut, .inl (y 2, 7, .inl f_isShut))] H := hW.sub [7, 0, 1, 2, 3, 4, 5, 6] (by decide) rfl
  replace hw : (r1_ = (if n0 < 0 then 0 else (if 6 < n0 then 0 else 1))) ∧ True := hw
  obtain ⟨hw, -⟩ := hw
  by_cases c2_ : n0 < 0
  · have b3_ : (-2147483648) ≤ Int32.toInt n0 ∧ Int32.toInt n0 ≤ (-1) := zr_lt_l (-1) c2_ (zbnd n0) (show 0 ≤ Int32.toInt 0 ∧ Int32.toInt 0 ≤ 0 from (by decide)) (by decide)
    rw [if_pos c2_] at hw
    subst r1_
    refine lv_if_ne (tgt := 13) hx hb dX10_window_8 (by decide) (fun c4_ => absurd (by decide) c4_) (fun c4_ => ?_)
    refine lv_iconst (v := (-1)) hx hb dX10_window_11 (by decide) ?_
    exact zret_i (v := (-1)) hx hb hr hlocks hS (p_windows, f_kind, f_v, f_floor, f_room, f_takes, f_rows, f_isShut) ⟨(by decide), (zr_wide hp_windows (by decide) (by decide)), hf_kind, hf_v, hf_floor, hf_room, hf_takes, hf_rows, hf_isShut, trivial⟩ hW (Nat.le_of_ble_eq_true rfl) (Nat.le_of_ble_eq_true rfl) dX10_window_12
  · have b5_ : 0 ≤ Int32.toInt n0 ∧ Int32.toInt n0 ≤ 2147483647 := zr_nlt_l 0 c2_ (zbnd n0) (show 0 ≤ Int32.toInt 0 ∧ Int32.toInt 0 ≤ 0 from (by decide)) (by decide)
    rw [if_neg c2_] at hw
    by_cases c6_ : 6 < n0
    · have b7_ : 7 ≤ Int32.toInt n0 ∧ Int32.toInt n0 ≤ 2147483647 := zr_lt_r 7 c6_ b5_ (show 6 ≤ Int32.toInt 6 ∧ Int32.toInt 6 ≤ 6 from (by decide)) (by decide)
      rw [if_pos c6_] at hw
      subst r1_
      refine lv_if_ne (tgt := 13) hx hb dX10_window_8 (by decide) (fun c8_ => absurd (by decide) c8_) (fun c8_ => ?_)
      refine lv_iconst (v := (-1)) hx hb dX10_window_11 (by decide) ?_
      exact zret_i (v := (-1)) hx hb hr hlocks hS (p_windows, f_kind, f_v, f_floor, f_room, f_takes, f_rows, f_isShut) ⟨(by decide), (zr_wide hp_windows (by decide) (by decide)), hf_kind, hf_v, hf_floor, hf_room, hf_takes, hf_rows, hf_isShut, trivial⟩ hW (Nat.le_of_ble_eq_true rfl) (Nat.le_of_ble_eq_true rfl) dX10_window_12
    · have b9_ : 0 ≤ Int32.toInt n0 ∧ Int32.toInt n0 ≤ 6 := zr_nlt_r 6 c6_ b5_ (show 6 ≤ Int32.toInt 6 ∧ Int32.toInt 6 ≤ 6 from (by decide)) (by decide)
      rw [if_neg c6_] at hw
      subst r1_
      refine lv_if_ne (tgt := 13) hx hb dX10_window_8 (by decide) (fun c10_ => ?_) (fun c10_ => absurd c10_ (by decide))
      refine lv_aload_n hx hb dX10_window_13 rfl (lv_at hl 0 rfl) ?_
      refine lv_iload_n hx hb dX10_window_14 rfl (lv_at hl 2 rfl) ?_
      refine lv_iconst (v := 0) hx hb dX10_window_15 (by decide) ?_
      refine lv_bipush (v := 9) hx hb dX10_window_16 (by decide) ?_
      refine zgo_i (wr := [(a_kind, .inl (y 0, 7, .inl f_kind)), (a_v, .inl (y 0, 7, .inl f_v)), (a_floor, .inl (y 0, 7, .inl f_floor)), (a_room, .inl (y 0, 7, .inl f_room)), (a_takes, .inl (y 0, 7, .inl f_takes)), (a_rows, .inl (y 0, 28, .inl f_rows)), (a_isShut, .inl (y 2, 7, .inl f_isShut))]) (zrunV (As := [.int n1, .int 0, .int 9]) (rest := []) ⟨hx, hb, hml, hown, ht⟩ (zd_X10_in_x_0_9 l D y a_this (.int p_windows) w_minutes w_wet w_comes w_side w_herFloor w_herRoom (.ref a_kind) (.ref a_v) (.ref a_floor) (.ref a_room) (.ref a_takes) (.ref a_rows) (.ref a_isShut) w_houses w_the w_fed w_at w_digits w_text w_clauses w_word w_number w_from w_to w_sign w_waits w_signs w_waiting w_open w_letters w_pile w_since w_rain w_shutAt w_ways w_path w_rounds w_round w_bestPath w_seen w_seenWho w_seenHarm w_books w_bookWho w_bookWhen w_hasImage w_imageThe w_imageWindows w_imageMinutes w_imageWet w_imageComes w_imageSide w_imageFloor w_imageRoom w_imageRounds w_imageSeen w_imageBooks w_imageKind w_imageV w_imageFloors w_imageRooms w_imageTakes w_imageRows w_imageRound w_imageWho w_imageHarm w_imageBookWho w_imageWhen w_imageShut w_ran w_bodies w_sort w_length w_item w_aside n1) (cwV 3 ht (zgV zm_240 zm_241 zm_242 zm_5 zm_243) rfl rfl rfl (by decide +kernel) ⟨(Nat.le_of_ble_eq_true rfl), (Nat.le_of_ble_eq_true rfl)⟩) hK hE hS hA hW [0] (by decide) rfl 0 rfl rfl rfl rfl hl.1 rfl (Nat.le_of_ble_eq_true rfl) dX10_window_18 (Nat.le_of_ble_eq_true rfl) (Nat.le_of_ble_eq_true rfl)) hS hA hW [0] [1, 2, 3, 4, 5, 6, 7] rfl rfl (by decide) (by decide) (fun r11_ u H locs hw hW hS => ?_)
      replace hW : zPD D A [(a_this, .inr (9, [.int p_windows, w_minutes, w_wet, w_comes, w_side, w_herFloor, w_herRoom, .ref a_kind, .ref a_v, .ref a_floor, .ref a_room, .ref a_takes, .ref a_rows, .ref a_isShut, w_houses, w_the, w_fed, w_at, w_digits, w_text, w_clauses, w_word, w_number, w_from, w_to, w_sign, w_waits, w_signs, w_waiting, w_open, w_letters, w_pile, w_since, w_rain, w_shutAt, w_ways, w_path, w_rounds, w_round, w_bestPath, w_seen, w_seenWho, w_seenHarm, w_books, w_bookWho, w_bookWhen, w_hasImage, w_imageThe, w_imageWindows, w_imageMinutes, w_imageWet, w_imageComes, w_imageSide, w_imageFloor, w_imageRoom, w_imageRounds, w_imageSeen, w_imageBooks, w_imageKind, w_imageV, w_imageFloors, w_imageRooms, w_imageTakes, w_imageRows, w_imageRound, w_imageWho, w_imageHarm, w_imageBookWho, w_imageWhen, w_imageShut, w_ran, w_bodies, w_sort, w_length, w_item, w_aside])), (a_kind, .inl (y 0, 7, .inl f_kind)), (a_v, .inl (y 0, 7, .inl f_v)), (a_floor, .inl (y 0, 7, .inl f_floor)), (a_room, .inl (y 0, 7, .inl f_room)), (a_takes, .inl (y 0, 7, .inl f_takes)), (a_rows, .inl (y 0, 28, .inl f_rows)), (a_isShut, .inl (y 2, 7, .inl f_isShut))] H := hW.sub [7, 0, 1, 2, 3, 4, 5, 6] (by decide) rfl
      replace hw : (r11_ = (if n1 < 0 then 0 else (if 9 < n1 then 0 else 1))) ∧ True := hw
      obtain ⟨hw, -⟩ := hw
      by_cases c12_ : n1 < 0
      · have b13_ : (-2147483648) ≤ Int32.toInt n1 ∧ Int32.toInt n1 ≤ (-1) := zr_lt_l (-1) c12_ (zbnd n1) (show 0 ≤ Int32.toInt 0 ∧ Int32.toInt 0 ≤ 0 from (by decide)) (by decide)
        rw [if_pos c12_] at hw
        subst r11_
        refine lv_if_eq (tgt := 46) hx hb dX10_window_21 (by decide) (fun c14_ => ?_) (fun c14_ => absurd (by decide) c14_)
        refine lv_bipush (v := (-2)) hx hb dX10_window_46 (by decide) ?_
        exact zret_i (v := (-2)) hx hb hr hlocks hS (p_windows, f_kind, f_v, f_floor, f_room, f_takes, f_rows, f_isShut) ⟨(by decide), (zr_wide hp_windows (by decide) (by decide)), hf_kind, hf_v, hf_floor, hf_room, hf_takes, hf_rows, hf_isShut, trivial⟩ hW (Nat.le_of_ble_eq_true rfl) (Nat.le_of_ble_eq_true rfl) dX10_window_48
      · have b15_ : 0 ≤ Int32.toInt n1 ∧ Int32.toInt n1 ≤ 2147483647 := zr_nlt_l 0 c12_ (zbnd n1) (show 0 ≤ Int32.toInt 0 ∧ Int32.toInt 0 ≤ 0 from (by decide)) (by decide)
        rw [if_neg c12_] at hw
        by_cases c16_ : 9 < n1
        · have b17_ : 10 ≤ Int32.toInt n1 ∧ Int32.toInt n1 ≤ 2147483647 := zr_lt_r 10 c16_ b15_ (show 9 ≤ Int32.toInt 9 ∧ Int32.toInt 9 ≤ 9 from (by decide)) (by decide)
          rw [if_pos c16_] at hw
          subst r11_
          refine lv_if_eq (tgt := 46) hx hb dX10_window_21 (by decide) (fun c18_ => ?_) (fun c18_ => absurd (by decide) c18_)
          refine lv_bipush (v := (-2)) hx hb dX10_window_46 (by decide) ?_
          exact zret_i (v := (-2)) hx hb hr hlocks hS (p_windows, f_kind, f_v, f_floor, f_room, f_takes, f_rows, f_isShut) ⟨(by decide), (zr_wide hp_windows (by decide) (by decide)), hf_kind, hf_v, hf_floor, hf_room, hf_takes, hf_rows, hf_isShut, trivial⟩ hW (Nat.le_of_ble_eq_true rfl) (Nat.le_of_ble_eq_true rfl) dX10_window_48
        · have b19_ : 0 ≤ Int32.toInt n1 ∧ Int32.toInt n1 ≤ 9 := zr_nlt_r 9 c16_ b15_ (show 9 ≤ Int32.toInt 9 ∧ Int32.toInt 9 ≤ 9 from (by decide)) (by decide)
          rw [if_neg c16_] at hw
          subst r11_
          refine lv_if_eq (tgt := 46) hx hb dX10_window_21 (by decide) (fun c20_ => absurd c20_ (by decide)) (fun c20_ => ?_)
          refine lv_aload_n hx hb dX10_window_24 rfl (lv_at hl 0 rfl) ?_
          refine lv_iload_n hx hb dX10_window_25 rfl (lv_at hl 3 rfl) ?_
          refine lv_iload hx hb dX10_window_26 (lv_at hl 4 rfl) ?_
          refine zgo_i (wr := [(a_kind, .inl (y 0, 7, .inl f_kind)), (a_v, .inl (y 0, 7, .inl f_v)), (a_floor, .inl (y 0, 7, .inl f_floor)), (a_room, .inl (y 0, 7, .inl f_room)), (a_takes, .inl (y 0, 7, .inl f_takes)), (a_rows, .inl (y 0, 28, .inl f_rows)), (a_isShut, .inl (y 2, 7, .inl f_isShut))]) (zrunV (As := [.int n2, .int n3]) (rest := []) ⟨hx, hb, hml, hown, ht⟩ (zd_X10_isPlace_x_x l D y a_this (.int p_windows) w_minutes w_wet w_comes w_side w_herFloor w_herRoom (.ref a_kind) (.ref a_v) (.ref a_floor) (.ref a_room) (.ref a_takes) (.ref a_rows) (.ref a_isShut) w_houses w_the w_fed w_at w_digits w_text w_clauses w_word w_number w_from w_to w_sign w_waits w_signs w_waiting w_open w_letters w_pile w_since w_rain w_shutAt w_ways w_path w_rounds w_round w_bestPath w_seen w_seenWho w_seenHarm w_books w_bookWho w_bookWhen w_hasImage w_imageThe w_imageWindows w_imageMinutes w_imageWet w_imageComes w_imageSide w_imageFloor w_imageRoom w_imageRounds w_imageSeen w_imageBooks w_imageKind w_imageV w_imageFloors w_imageRooms w_imageTakes w_imageRows w_imageRound w_imageWho w_imageHarm w_imageBookWho w_imageWhen w_imageShut w_ran w_bodies w_sort w_length w_item w_aside n2 n3) (cwV 2 ht (zgV zm_244 zm_245 zm_246 zm_5 zm_247) rfl rfl rfl (by decide +kernel) ⟨(Nat.le_of_ble_eq_true rfl), (Nat.le_of_ble_eq_true rfl)⟩) hK hE hS hA hW [0] (by decide) rfl 0 rfl rfl rfl rfl hl.1 rfl (Nat.le_of_ble_eq_true rfl) dX10_window_28 (Nat.le_of_ble_eq_true rfl) (Nat.le_of_ble_eq_true rfl)) hS hA hW [0] [1, 2, 3, 4, 5, 6, 7] rfl rfl (by decide) (by decide) (fun r21_ u H locs hw hW hS => ?_)
          replace hW : zPD D A [(a_this, .inr (9, [.int p_windows, w_minutes, w_wet, w_comes, w_side, w_herFloor, w_herRoom, .ref a_kind, .ref a_v, .ref a_floor, .ref a_room, .ref a_takes, .ref a_rows, .ref a_isShut, w_houses, w_the, w_fed, w_at, w_digits, w_text, w_clauses, w_word, w_number, w_from, w_to, w_sign, w_waits, w_signs, w_waiting, w_open, w_letters, w_pile, w_since, w_rain, w_shutAt, w_ways, w_path, w_rounds, w_round, w_bestPath, w_seen, w_seenWho, w_seenHarm, w_books, w_bookWho, w_bookWhen, w_hasImage, w_imageThe, w_imageWindows, w_imageMinutes, w_imageWet, w_imageComes, w_imageSide, w_imageFloor, w_imageRoom, w_imageRounds, w_imageSeen, w_imageBooks, w_imageKind, w_imageV, w_imageFloors, w_imageRooms, w_imageTakes, w_imageRows, w_imageRound, w_imageWho, w_imageHarm, w_imageBookWho, w_imageWhen, w_imageShut, w_ran, w_bodies, w_sort, w_length, w_item, w_aside])), (a_kind, .inl (y 0, 7, .inl f_kind)), (a_v, .inl (y 0, 7, .inl f_v)), (a_floor, .inl (y 0, 7, .inl f_floor)), (a_room, .inl (y 0, 7, .inl f_room)), (a_takes, .inl (y 0, 7, .inl f_takes)), (a_rows, .inl (y 0, 28, .inl f_rows)), (a_isShut, .inl (y 2, 7, .inl f_isShut))] H := hW.sub [7, 0, 1, 2, 3, 4, 5, 6] (by decide) rfl
          replace hw : (r21_ = (if n2 < 0 then 0 else (if 3 < n2 then 0 else (if n3 < 0 then 0 else (if 4 < n3 then 0 else 1))))) ∧ True := hw
          obtain ⟨hw, -⟩ := hw
          by_cases c22_ : n2 < 0
          · have b23_ : (-2147483648) ≤ Int32.toInt n2 ∧ Int32.toInt n2 ≤ (-1) := zr_lt_l (-1) c22_ (zbnd n2) (show 0 ≤ Int32.toInt 0 ∧ Int32.toInt 0 ≤ 0 from (by decide)) (by decide)
            rw [if_pos c22_] at hw
            subst r21_
            refine lv_if_eq (tgt := 46) hx hb dX10_window_31 (by decide) (fun c24_ => ?_) (fun c24_ => absurd (by decide) c24_)
            refine lv_bipush (v := (-2)) hx hb dX10_window_46 (by decide) ?_
            exact zret_i (v := (-2)) hx hb hr hlocks hS (p_windows, f_kind, f_v, f_floor, f_room, f_takes, f_rows, f_isShut) ⟨(by decide), (zr_wide hp_windows (by decide) (by decide)), hf_kind, hf_v, hf_floor, hf_room, hf_takes, hf_rows, hf_isShut, trivial⟩ hW (Nat.le_of_ble_eq_true rfl) (Nat.le_of_ble_eq_true rfl) dX10_window_48
          · have b25_ : 0 ≤ Int32.toInt n2 ∧ Int32.toInt n2 ≤ 2147483647 := zr_nlt_l 0 c22_ (zbnd n2) (show 0 ≤ Int32.toInt 0 ∧ Int32.toInt 0 ≤ 0 from (by decide)) (by decide)
            rw [if_neg c22_] at hw
            by_cases c26_ : 3 < n2
            · have b27_ : 4 ≤ Int32.toInt n2 ∧ Int32.toInt n2 ≤ 2147483647 := zr_lt_r 4 c26_ b25_ (show 3 ≤ Int32.toInt 3 ∧ Int32.toInt 3 ≤ 3 from (by decide)) (by decide)
              rw [if_pos c26_] at hw
              subst r21_
              refine lv_if_eq (tgt := 46) hx hb dX10_window_31 (by decide) (fun c28_ => ?_) (fun c28_ => absurd (by decide) c28_)
              refine lv_bipush (v := (-2)) hx hb dX10_window_46 (by decide) ?_
              exact zret_i (v := (-2)) hx hb hr hlocks hS (p_windows, f_kind, f_v, f_floor, f_room, f_takes, f_rows, f_isShut) ⟨(by decide), (zr_wide hp_windows (by decide) (by decide)), hf_kind, hf_v, hf_floor, hf_room, hf_takes, hf_rows, hf_isShut, trivial⟩ hW (Nat.le_of_ble_eq_true rfl) (Nat.le_of_ble_eq_true rfl) dX10_window_48
            · have b29_ : 0 ≤ Int32.toInt n2 ∧ Int32.toInt n2 ≤ 3 := zr_nlt_r 3 c26_ b25_ (show 3 ≤ Int32.toInt 3 ∧ Int32.toInt 3 ≤ 3 from (by decide)) (by decide)
              rw [if_neg c26_] at hw
              by_cases c30_ : n3 < 0
              · have b31_ : (-2147483648) ≤ Int32.toInt n3 ∧ Int32.toInt n3 ≤ (-1) := zr_lt_l (-1) c30_ (zbnd n3) (show 0 ≤ Int32.toInt 0 ∧ Int32.toInt 0 ≤ 0 from (by decide)) (by decide)
                rw [if_pos c30_] at hw
                subst r21_
                refine lv_if_eq (tgt := 46) hx hb dX10_window_31 (by decide) (fun c32_ => ?_) (fun c32_ => absurd (by decide) c32_)
                refine lv_bipush (v := (-2)) hx hb dX10_window_46 (by decide) ?_
                exact zret_i (v := (-2)) hx hb hr hlocks hS (p_windows, f_kind, f_v, f_floor, f_room, f_takes, f_rows, f_isShut) ⟨(by decide), (zr_wide hp_windows (by decide) (by decide)), hf_kind, hf_v, hf_floor, hf_room, hf_takes, hf_rows, hf_isShut, trivial⟩ hW (Nat.le_of_ble_eq_true rfl) (Nat.le_of_ble_eq_true rfl) dX10_window_48
              · have b33_ : 0 ≤ Int32.toInt n3 ∧ Int32.toInt n3 ≤ 2147483647 := zr_nlt_l 0 c30_ (zbnd n3) (show 0 ≤ Int32.toInt 0 ∧ Int32.toInt 0 ≤ 0 from (by decide)) (by decide)
                rw [if_neg c30_] at hw
                by_cases c34_ : 4 < n3
                · have b35_ : 5 ≤ Int32.toInt n3 ∧ Int32.toInt n3 ≤ 2147483647 := zr_lt_r 5 c34_ b33_ (show 4 ≤ Int32.toInt 4 ∧ Int32.toInt 4 ≤ 4 from (by decide)) (by decide)
                  rw [if_pos c34_] at hw
                  subst r21_
                  refine lv_if_eq (tgt := 46) hx hb dX10_window_31 (by decide) (fun c36_ => ?_) (fun c36_ => absurd (by decide) c36_)
                  refine lv_bipush (v := (-2)) hx hb dX10_window_46 (by decide) ?_
                  exact zret_i (v := (-2)) hx hb hr hlocks hS (p_windows, f_kind, f_v, f_floor, f_room, f_takes, f_rows, f_isShut) ⟨(by decide), (zr_wide hp_windows (by decide) (by decide)), hf_kind, hf_v, hf_floor, hf_room, hf_takes, hf_rows, hf_isShut, trivial⟩ hW (Nat.le_of_ble_eq_true rfl) (Nat.le_of_ble_eq_true rfl) dX10_window_48
                · have b37_ : 0 ≤ Int32.toInt n3 ∧ Int32.toInt n3 ≤ 4 := zr_nlt_r 4 c34_ b33_ (show 4 ≤ Int32.toInt 4 ∧ Int32.toInt 4 ≤ 4 from (by decide)) (by decide)
                  rw [if_neg c34_] at hw
                  subst r21_
                  refine lv_if_eq (tgt := 46) hx hb dX10_window_31 (by decide) (fun c38_ => absurd c38_ (by decide)) (fun c38_ => ?_)
                  refine lv_aload_n hx hb dX10_window_34 rfl (lv_at hl 0 rfl) ?_
                  refine lv_iload hx hb dX10_window_35 (lv_at hl 5 rfl) ?_
                  refine lv_iconst (v := 1) hx hb dX10_window_37 (by decide) ?_
                  refine lv_bipush (v := 9) hx hb dX10_window_38 (by decide) ?_
                  refine zgo_i (wr := [(a_kind, .inl (y 0, 7, .inl f_kind)), (a_v, .inl (y 0, 7, .inl f_v)), (a_floor, .inl (y 0, 7, .inl f_floor)), (a_room, .inl (y 0, 7, .inl f_room)), (a_takes, .inl (y 0, 7, .inl f_takes)), (a_rows, .inl (y 0, 28, .inl f_rows)), (a_isShut, .inl (y 2, 7, .inl f_isShut))]) (zrunV (As := [.int n4, .int 1, .int 9]) (rest := []) ⟨hx, hb, hml, hown, ht⟩ (zd_X10_in_x_1_9 l D y a_this (.int p_windows) w_minutes w_wet w_comes w_side w_herFloor w_herRoom (.ref a_kind) (.ref a_v) (.ref a_floor) (.ref a_room) (.ref a_takes) (.ref a_rows) (.ref a_isShut) w_houses w_the w_fed w_at w_digits w_text w_clauses w_word w_number w_from w_to w_sign w_waits w_signs w_waiting w_open w_letters w_pile w_since w_rain w_shutAt w_ways w_path w_rounds w_round w_bestPath w_seen w_seenWho w_seenHarm w_books w_bookWho w_bookWhen w_hasImage w_imageThe w_imageWindows w_imageMinutes w_imageWet w_imageComes w_imageSide w_imageFloor w_imageRoom w_imageRounds w_imageSeen w_imageBooks w_imageKind w_imageV w_imageFloors w_imageRooms w_imageTakes w_imageRows w_imageRound w_imageWho w_imageHarm w_imageBookWho w_imageWhen w_imageShut w_ran w_bodies w_sort w_length w_item w_aside n4) (cwV 3 ht (zgV zm_240 zm_241 zm_242 zm_5 zm_243) rfl rfl rfl (by decide +kernel) ⟨(Nat.le_of_ble_eq_true rfl), (Nat.le_of_ble_eq_true rfl)⟩) hK hE hS hA hW [0] (by decide) rfl 0 rfl rfl rfl rfl hl.1 rfl (Nat.le_of_ble_eq_true rfl) dX10_window_40 (Nat.le_of_ble_eq_true rfl) (Nat.le_of_ble_eq_true rfl)) hS hA hW [0] [1, 2, 3, 4, 5, 6, 7] rfl rfl (by decide) (by decide) (fun r39_ u H locs hw hW hS => ?_)
                  replace hW : zPD D A [(a_this, .inr (9, [.int p_windows, w_minutes, w_wet, w_comes, w_side, w_herFloor, w_herRoom, .ref a_kind, .ref a_v, .ref a_floor, .ref a_room, .ref a_takes, .ref a_rows, .ref a_isShut, w_houses, w_the, w_fed, w_at, w_digits, w_text, w_clauses, w_word, w_number, w_from, w_to, w_sign, w_waits, w_signs, w_waiting, w_open, w_letters, w_pile, w_since, w_rain, w_shutAt, w_ways, w_path, w_rounds, w_round, w_bestPath, w_seen, w_seenWho, w_seenHarm, w_books, w_bookWho, w_bookWhen, w_hasImage, w_imageThe, w_imageWindows, w_imageMinutes, w_imageWet, w_imageComes, w_imageSide, w_imageFloor, w_imageRoom, w_imageRounds, w_imageSeen, w_imageBooks, w_imageKind, w_imageV, w_imageFloors, w_imageRooms, w_imageTakes, w_imageRows, w_imageRound, w_imageWho, w_imageHarm, w_imageBookWho, w_imageWhen, w_imageShut, w_ran, w_bodies, w_sort, w_length, w_item, w_aside])), (a_kind, .inl (y 0, 7, .inl f_kind)), (a_v, .inl (y 0, 7, .inl f_v)), (a_floor, .inl (y 0, 7, .inl f_floor)), (a_room, .inl (y 0, 7, .inl f_room)), (a_takes, .inl (y 0, 7, .inl f_takes)), (a_rows, .inl (y 0, 28, .inl f_rows)), (a_isShut, .inl (y 2, 7, .inl f_isShut))] H := hW.sub [7, 0, 1, 2, 3, 4, 5, 6] (by decide) rfl
                  replace hw : (r39_ = (if n4 < 1 then 0 else (if 9 < n4 then 0 else 1))) ∧ True := hw
                  obtain ⟨hw, -⟩ := hw
                  by_cases c40_ : n4 < 1
                  · have b41_ : (-2147483648) ≤ Int32.toInt n4 ∧ Int32.toInt n4 ≤ 0 := zr_lt_l 0 c40_ (zbnd n4) (show 1 ≤ Int32.toInt 1 ∧ Int32.toInt 1 ≤ 1 from (by decide)) (by decide)
                    rw [if_pos c40_] at hw
                    subst r39_
                    refine lv_if_ne (tgt := 49) hx hb dX10_window_43 (by decide) (fun c42_ => absurd (by decide) c42_) (fun c42_ => ?_)
                    refine lv_bipush (v := (-2)) hx hb dX10_window_46 (by decide) ?_
                    exact zret_i (v := (-2)) hx hb hr hlocks hS (p_windows, f_kind, f_v, f_floor, f_room, f_takes, f_rows, f_isShut) ⟨(by decide), (zr_wide hp_windows (by decide) (by decide)), hf_kind, hf_v, hf_floor, hf_room, hf_takes, hf_rows, hf_isShut, trivial⟩ hW (Nat.le_of_ble_eq_true rfl) (Nat.le_of_ble_eq_true rfl) dX10_window_48
                  · have b43_ : 1 ≤ Int32.toInt n4 ∧ Int32.toInt n4 ≤ 2147483647 := zr_nlt_l 1 c40_ (zbnd n4) (show 1 ≤ Int32.toInt 1 ∧ Int32.toInt 1 ≤ 1 from (by decide)) (by decide)
                    rw [if_neg c40_] at hw
                    by_cases c44_ : 9 < n4
                    · have b45_ : 10 ≤ Int32.toInt n4 ∧ Int32.toInt n4 ≤ 2147483647 := zr_lt_r 10 c44_ b43_ (show 9 ≤ Int32.toInt 9 ∧ Int32.toInt 9 ≤ 9 from (by decide)) (by decide)
                      rw [if_pos c44_] at hw
                      subst r39_
                      refine lv_if_ne (tgt := 49) hx hb dX10_window_43 (by decide) (fun c46_ => absurd (by decide) c46_) (fun c46_ => ?_)
                      refine lv_bipush (v := (-2)) hx hb dX10_window_46 (by decide) ?_
                      exact zret_i (v := (-2)) hx hb hr hlocks hS (p_windows, f_kind, f_v, f_floor, f_room, f_takes, f_rows, f_isShut) ⟨(by decide), (zr_wide hp_windows (by decide) (by decide)), hf_kind, hf_v, hf_floor, hf_room, hf_takes, hf_rows, hf_isShut, trivial⟩ hW (Nat.le_of_ble_eq_true rfl) (Nat.le_of_ble_eq_true rfl) dX10_window_48
                    · have b47_ : 1 ≤ Int32.toInt n4 ∧ Int32.toInt n4 ≤ 9 := zr_nlt_r 9 c44_ b43_ (show 9 ≤ Int32.toInt 9 ∧ Int32.toInt 9 ≤ 9 from (by decide)) (by decide)
                      rw [if_neg c44_] at hw
                      subst r39_
                      refine lv_if_ne (tgt := 49) hx hb dX10_window_43 (by decide) (fun c48_ => ?_) (fun c48_ => absurd c48_ (by decide))
                      refine lv_aload_n hx hb dX10_window_49 rfl (lv_at hl 0 rfl) ?_
                      refine zget hx hb ht inlX10 hown hK hW 0 rfl rfl 0 (by decide) zm_140 rfl dX10_window_50 ?_
                      refine lv_bipush (v := 7) hx hb dX10_window_53 (by decide) ?_
                      refine lv_icmp_ne (tgt := 61) hx hb dX10_window_55 (by decide) (fun c49_ => ?_) (fun c49_ => ?_)
                      · have b50_ : 0 ≤ Int32.toInt p_windows ∧ Int32.toInt p_windows ≤ 6 := (by have u0 := hp_windows; have u1 := (not_congr (zi_eq _ _)).mp c49_; have u2 := (show 7 ≤ Int32.toInt 7 ∧ Int32.toInt 7 ≤ 7 from (by decide)); omega)
                        refine lv_aload_n hx hb dX10_window_61 rfl (lv_at hl 0 rfl) ?_
                        refine zget hx hb ht inlX10 hown hK hW 0 rfl rfl 7 (by decide) zm_147 rfl dX10_window_62 ?_
                        refine lv_aload_n hx hb dX10_window_65 rfl (lv_at hl 0 rfl) ?_
                        refine zget hx hb ht inlX10 hown hK hW 0 rfl rfl 0 (by decide) zm_140 rfl dX10_window_66 ?_
                        refine lv_iload_n hx hb dX10_window_69 rfl (lv_at hl 1 rfl) ?_
                        refine ziastN (ws' := fun g51_ => [(a_this, .inr (9, [.int p_windows, w_minutes, w_wet, w_comes, w_side, w_herFloor, w_herRoom, .ref a_kind, .ref a_v, .ref a_floor, .ref a_room, .ref a_takes, .ref a_rows, .ref a_isShut, w_houses, w_the, w_fed, w_at, w_digits, w_text, w_clauses, w_word, w_number, w_from, w_to, w_sign, w_waits, w_signs, w_waiting, w_open, w_letters, w_pile, w_since, w_rain, w_shutAt, w_ways, w_path, w_rounds, w_round, w_bestPath, w_seen, w_seenWho, w_seenHarm, w_books, w_bookWho, w_bookWhen, w_hasImage, w_imageThe, w_imageWindows, w_imageMinutes, w_imageWet, w_imageComes, w_imageSide, w_imageFloor, w_imageRoom, w_imageRounds, w_imageSeen, w_imageBooks, w_imageKind, w_imageV, w_imageFloors, w_imageRooms, w_imageTakes, w_imageRows, w_imageRound, w_imageWho, w_imageHarm, w_imageBookWho, w_imageWhen, w_imageShut, w_ran, w_bodies, w_sort, w_length, w_item, w_aside])), (a_kind, .inl (y 0, 7, .inl g51_)), (a_v, .inl (y 0, 7, .inl f_v)), (a_floor, .inl (y 0, 7, .inl f_floor)), (a_room, .inl (y 0, 7, .inl f_room)), (a_takes, .inl (y 0, 7, .inl f_takes)), (a_rows, .inl (y 0, 28, .inl f_rows)), (a_isShut, .inl (y 2, 7, .inl f_isShut))]) hx hb hK hS hW 1 rfl (zr_in b50_ (by decide) (by decide)) (fun _ => rfl) dX10_window_70 (fun g51_ H locs eg51_ hW hS => ?_)
                        have b52_ : ∀ j_, 0 ≤ Int32.toInt (g51_ j_) ∧ Int32.toInt (g51_ j_) ≤ 6 := zall_upd eg51_ hf_kind (zr_wide b9_ (by decide) (by decide))
                        refine lv_aload_n hx hb dX10_window_71 rfl (lv_at hl 0 rfl) ?_
                        refine zget hx hb ht inlX10 hown hK hW 0 rfl rfl 8 (by decide) zm_148 rfl dX10_window_72 ?_
                        refine lv_aload_n hx hb dX10_window_75 rfl (lv_at hl 0 rfl) ?_
                        refine zget hx hb ht inlX10 hown hK hW 0 rfl rfl 0 (by decide) zm_140 rfl dX10_window_76 ?_
                        refine lv_iload_n hx hb dX10_window_79 rfl (lv_at hl 2 rfl) ?_
                        refine ziastN (ws' := fun g53_ => [(a_this, .inr (9, [.int p_windows, w_minutes, w_wet, w_comes, w_side, w_herFloor, w_herRoom, .ref a_kind, .ref a_v, .ref a_floor, .ref a_room, .ref a_takes, .ref a_rows, .ref a_isShut, w_houses, w_the, w_fed, w_at, w_digits, w_text, w_clauses, w_word, w_number, w_from, w_to, w_sign, w_waits, w_signs, w_waiting, w_open, w_letters, w_pile, w_since, w_rain, w_shutAt, w_ways, w_path, w_rounds, w_round, w_bestPath, w_seen, w_seenWho, w_seenHarm, w_books, w_bookWho, w_bookWhen, w_hasImage, w_imageThe, w_imageWindows, w_imageMinutes, w_imageWet, w_imageComes, w_imageSide, w_imageFloor, w_imageRoom, w_imageRounds, w_imageSeen, w_imageBooks, w_imageKind, w_imageV, w_imageFloors, w_imageRooms, w_imageTakes, w_imageRows, w_imageRound, w_imageWho, w_imageHarm, w_imageBookWho, w_imageWhen, w_imageShut, w_ran, w_bodies, w_sort, w_length, w_item, w_aside])), (a_kind, .inl (y 0, 7, .inl g51_)), (a_v, .inl (y 0, 7, .inl g53_)), (a_floor, .inl (y 0, 7, .inl f_floor)), (a_room, .inl (y 0, 7, .inl f_room)), (a_takes, .inl (y 0, 7, .inl f_takes)), (a_rows, .inl (y 0, 28, .inl f_rows)), (a_isShut, .inl (y 2, 7, .inl f_isShut))]) hx hb hK hS hW 2 rfl (zr_in b50_ (by decide) (by decide)) (fun _ => rfl) dX10_window_80 (fun g53_ H locs eg53_ hW hS => ?_)
                        have b54_ : ∀ j_, 0 ≤ Int32.toInt (g53_ j_) ∧ Int32.toInt (g53_ j_) ≤ 9 := zall_upd eg53_ hf_v (zr_wide b19_ (by decide) (by decide))
                        refine lv_aload_n hx hb dX10_window_81 rfl (lv_at hl 0 rfl) ?_
                        refine zget hx hb ht inlX10 hown hK hW 0 rfl rfl 9 (by decide) zm_149 rfl dX10_window_82 ?_
                        refine lv_aload_n hx hb dX10_window_85 rfl (lv_at hl 0 rfl) ?_
                        refine zget hx hb ht inlX10 hown hK hW 0 rfl rfl 0 (by decide) zm_140 rfl dX10_window_86 ?_
                        refine lv_iload_n hx hb dX10_window_89 rfl (lv_at hl 3 rfl) ?_
                        refine ziastN (ws' := fun g55_ => [(a_this, .inr (9, [.int p_windows, w_minutes, w_wet, w_comes, w_side, w_herFloor, w_herRoom, .ref a_kind, .ref a_v, .ref a_floor, .ref a_room, .ref a_takes, .ref a_rows, .ref a_isShut, w_houses, w_the, w_fed, w_at, w_digits, w_text, w_clauses, w_word, w_number, w_from, w_to, w_sign, w_waits, w_signs, w_waiting, w_open, w_letters, w_pile, w_since, w_rain, w_shutAt, w_ways, w_path, w_rounds, w_round, w_bestPath, w_seen, w_seenWho, w_seenHarm, w_books, w_bookWho, w_bookWhen, w_hasImage, w_imageThe, w_imageWindows, w_imageMinutes, w_imageWet, w_imageComes, w_imageSide, w_imageFloor, w_imageRoom, w_imageRounds, w_imageSeen, w_imageBooks, w_imageKind, w_imageV, w_imageFloors, w_imageRooms, w_imageTakes, w_imageRows, w_imageRound, w_imageWho, w_imageHarm, w_imageBookWho, w_imageWhen, w_imageShut, w_ran, w_bodies, w_sort, w_length, w_item, w_aside])), (a_kind, .inl (y 0, 7, .inl g51_)), (a_v, .inl (y 0, 7, .inl g53_)), (a_floor, .inl (y 0, 7, .inl g55_)), (a_room, .inl (y 0, 7, .inl f_room)), (a_takes, .inl (y 0, 7, .inl f_takes)), (a_rows, .inl (y 0, 28, .inl f_rows)), (a_isShut, .inl (y 2, 7, .inl f_isShut))]) hx hb hK hS hW 3 rfl (zr_in b50_ (by decide) (by decide)) (fun _ => rfl) dX10_window_90 (fun g55_ H locs eg55_ hW hS => ?_)
                        have b56_ : ∀ j_, 0 ≤ Int32.toInt (g55_ j_) ∧ Int32.toInt (g55_ j_) ≤ 3 := zall_upd eg55_ hf_floor (zr_wide b29_ (by decide) (by decide))
                        refine lv_aload_n hx hb dX10_window_91 rfl (lv_at hl 0 rfl) ?_
                        refine zget hx hb ht inlX10 hown hK hW 0 rfl rfl 10 (by decide) zm_150 rfl dX10_window_92 ?_
                        refine lv_aload_n hx hb dX10_window_95 rfl (lv_at hl 0 rfl) ?_
                        refine zget hx hb ht inlX10 hown hK hW 0 rfl rfl 0 (by decide) zm_140 rfl dX10_window_96 ?_
                        refine lv_iload hx hb dX10_window_99 (lv_at hl 4 rfl) ?_
                        refine ziastN (ws' := fun g57_ => [(a_this, .inr (9, [.int p_windows, w_minutes, w_wet, w_comes, w_side, w_herFloor, w_herRoom, .ref a_kind, .ref a_v, .ref a_floor, .ref a_room, .ref a_takes, .ref a_rows, .ref a_isShut, w_houses, w_the, w_fed, w_at, w_digits, w_text, w_clauses, w_word, w_number, w_from, w_to, w_sign, w_waits, w_signs, w_waiting, w_open, w_letters, w_pile, w_since, w_rain, w_shutAt, w_ways, w_path, w_rounds, w_round, w_bestPath, w_seen, w_seenWho, w_seenHarm, w_books, w_bookWho, w_bookWhen, w_hasImage, w_imageThe, w_imageWindows, w_imageMinutes, w_imageWet, w_imageComes, w_imageSide, w_imageFloor, w_imageRoom, w_imageRounds, w_imageSeen, w_imageBooks, w_imageKind, w_imageV, w_imageFloors, w_imageRooms, w_imageTakes, w_imageRows, w_imageRound, w_imageWho, w_imageHarm, w_imageBookWho, w_imageWhen, w_imageShut, w_ran, w_bodies, w_sort, w_length, w_item, w_aside])), (a_kind, .inl (y 0, 7, .inl g51_)), (a_v, .inl (y 0, 7, .inl g53_)), (a_floor, .inl (y 0, 7, .inl g55_)), (a_room, .inl (y 0, 7, .inl g57_)), (a_takes, .inl (y 0, 7, .inl f_takes)), (a_rows, .inl (y 0, 28, .inl f_rows)), (a_isShut, .inl (y 2, 7, .inl f_isShut))]) hx hb hK hS hW 4 rfl (zr_in b50_ (by decide) (by decide)) (fun _ => rfl) dX10_window_101 (fun g57_ H locs eg57_ hW hS => ?_)
                        have b58_ : ∀ j_, 0 ≤ Int32.toInt (g57_ j_) ∧ Int32.toInt (g57_ j_) ≤ 4 := zall_upd eg57_ hf_room (zr_wide b37_ (by decide) (by decide))
                        refine lv_aload_n hx hb dX10_window_102 rfl (lv_at hl 0 rfl) ?_
                        refine zget hx hb ht inlX10 hown hK hW 0 rfl rfl 11 (by decide) zm_151 rfl dX10_window_103 ?_
                        refine lv_aload_n hx hb dX10_window_106 rfl (lv_at hl 0 rfl) ?_
                        refine zget hx hb ht inlX10 hown hK hW 0 rfl rfl 0 (by decide) zm_140 rfl dX10_window_107 ?_
                        refine lv_iload hx hb dX10_window_110 (lv_at hl 5 rfl) ?_
                        refine ziastN (ws' := fun g59_ => [(a_this, .inr (9, [.int p_windows, w_minutes, w_wet, w_comes, w_side, w_herFloor, w_herRoom, .ref a_kind, .ref a_v, .ref a_floor, .ref a_room, .ref a_takes, .ref a_rows, .ref a_isShut, w_houses, w_the, w_fed, w_at, w_digits, w_text, w_clauses, w_word, w_number, w_from, w_to, w_sign, w_waits, w_signs, w_waiting, w_open, w_letters, w_pile, w_since, w_rain, w_shutAt, w_ways, w_path, w_rounds, w_round, w_bestPath, w_seen, w_seenWho, w_seenHarm, w_books, w_bookWho, w_bookWhen, w_hasImage, w_imageThe, w_imageWindows, w_imageMinutes, w_imageWet, w_imageComes, w_imageSide, w_imageFloor, w_imageRoom, w_imageRounds, w_imageSeen, w_imageBooks, w_imageKind, w_imageV, w_imageFloors, w_imageRooms, w_imageTakes, w_imageRows, w_imageRound, w_imageWho, w_imageHarm, w_imageBookWho, w_imageWhen, w_imageShut, w_ran, w_bodies, w_sort, w_length, w_item, w_aside])), (a_kind, .inl (y 0, 7, .inl g51_)), (a_v, .inl (y 0, 7, .inl g53_)), (a_floor, .inl (y 0, 7, .inl g55_)), (a_room, .inl (y 0, 7, .inl g57_)), (a_takes, .inl (y 0, 7, .inl g59_)), (a_rows, .inl (y 0, 28, .inl f_rows)), (a_isShut, .inl (y 2, 7, .inl f_isShut))]) hx hb hK hS hW 5 rfl (zr_in b50_ (by decide) (by decide)) (fun _ => rfl) dX10_window_112 (fun g59_ H locs eg59_ hW hS => ?_)
                        have b60_ : ∀ j_, 0 ≤ Int32.toInt (g59_ j_) ∧ Int32.toInt (g59_ j_) ≤ 9 := zall_upd eg59_ hf_takes (zr_wide b47_ (by decide) (by decide))
                        refine lv_aload_n hx hb dX10_window_113 rfl (lv_at hl 0 rfl) ?_
                        refine zget hx hb ht inlX10 hown hK hW 0 rfl rfl 13 (by decide) zm_153 rfl dX10_window_114 ?_
                        refine lv_aload_n hx hb dX10_window_117 rfl (lv_at hl 0 rfl) ?_
                        refine zget hx hb ht inlX10 hown hK hW 0 rfl rfl 0 (by decide) zm_140 rfl dX10_window_118 ?_
                        refine lv_iconst (v := 0) hx hb dX10_window_121 (by decide) ?_
                        refine zzastN (ws' := fun g61_ => [(a_this, .inr (9, [.int p_windows, w_minutes, w_wet, w_comes, w_side, w_herFloor, w_herRoom, .ref a_kind, .ref a_v, .ref a_floor, .ref a_room, .ref a_takes, .ref a_rows, .ref a_isShut, w_houses, w_the, w_fed, w_at, w_digits, w_text, w_clauses, w_word, w_number, w_from, w_to, w_sign, w_waits, w_signs, w_waiting, w_open, w_letters, w_pile, w_since, w_rain, w_shutAt, w_ways, w_path, w_rounds, w_round, w_bestPath, w_seen, w_seenWho, w_seenHarm, w_books, w_bookWho, w_bookWhen, w_hasImage, w_imageThe, w_imageWindows, w_imageMinutes, w_imageWet, w_imageComes, w_imageSide, w_imageFloor, w_imageRoom, w_imageRounds, w_imageSeen, w_imageBooks, w_imageKind, w_imageV, w_imageFloors, w_imageRooms, w_imageTakes, w_imageRows, w_imageRound, w_imageWho, w_imageHarm, w_imageBookWho, w_imageWhen, w_imageShut, w_ran, w_bodies, w_sort, w_length, w_item, w_aside])), (a_kind, .inl (y 0, 7, .inl g51_)), (a_v, .inl (y 0, 7, .inl g53_)), (a_floor, .inl (y 0, 7, .inl g55_)), (a_room, .inl (y 0, 7, .inl g57_)), (a_takes, .inl (y 0, 7, .inl g59_)), (a_rows, .inl (y 0, 28, .inl f_rows)), (a_isShut, .inl (y 2, 7, .inl g61_))]) hx hb hK hS hW 7 rfl (zr_in b50_ (by decide) (by decide)) (fun _ => rfl) dX10_window_122 (fun g61_ H locs eg61_ hW hS => ?_)
                        have b62_ : ∀ j_, 0 ≤ Int32.toInt (g61_ j_) ∧ Int32.toInt (g61_ j_) ≤ 1 := zall_updZ eg61_ hf_isShut
                        refine lv_iconst (v := 0) hx hb dX10_window_123 (by decide) ?_
                        refine lv_istore (lv' := [(6, .int 0), (0, .ref a_this), (1, .int n0), (2, .int n1), (3, .int n2), (4, .int n3), (5, .int n4)]) hx hb dX10_window_124 hl (by decide) rfl (fun ls hl => ?_)
                        obtain ⟨x63_, ex63_⟩ : ∃ z : Int32, z = 0 := ⟨_, rfl⟩
                        obtain ⟨g64_, eg64_⟩ : ∃ z : Nat → Int32, z = f_rows := ⟨_, rfl⟩
                        obtain ⟨n126_, hI126_⟩ : ∃ n : Nat, (0 ≤ Int32.toInt x63_ ∧ Int32.toInt x63_ ≤ 4) ∧ (∀ j_, 0 ≤ Int32.toInt (g64_ j_) ∧ Int32.toInt (g64_ j_) ≤ 9) ∧ (4 - Int32.toInt x63_ < (n : Int)) ∧ zPD D A [(a_this, .inr (9, [.int p_windows, w_minutes, w_wet, w_comes, w_side, w_herFloor, w_herRoom, .ref a_kind, .ref a_v, .ref a_floor, .ref a_room, .ref a_takes, .ref a_rows, .ref a_isShut, w_houses, w_the, w_fed, w_at, w_digits, w_text, w_clauses, w_word, w_number, w_from, w_to, w_sign, w_waits, w_signs, w_waiting, w_open, w_letters, w_pile, w_since, w_rain, w_shutAt, w_ways, w_path, w_rounds, w_round, w_bestPath, w_seen, w_seenWho, w_seenHarm, w_books, w_bookWho, w_bookWhen, w_hasImage, w_imageThe, w_imageWindows, w_imageMinutes, w_imageWet, w_imageComes, w_imageSide, w_imageFloor, w_imageRoom, w_imageRounds, w_imageSeen, w_imageBooks, w_imageKind, w_imageV, w_imageFloors, w_imageRooms, w_imageTakes, w_imageRows, w_imageRound, w_imageWho, w_imageHarm, w_imageBookWho, w_imageWhen, w_imageShut, w_ran, w_bodies, w_sort, w_length, w_item, w_aside])), (a_kind, .inl (y 0, 7, .inl g51_)), (a_v, .inl (y 0, 7, .inl g53_)), (a_floor, .inl (y 0, 7, .inl g55_)), (a_room, .inl (y 0, 7, .inl g57_)), (a_takes, .inl (y 0, 7, .inl g59_)), (a_rows, .inl (y 0, 28, .inl g64_)), (a_isShut, .inl (y 2, 7, .inl g61_))] H ∧ va_S A s.heap H locs ∧ lv_has ls 7 [(6, .int x63_), (0, .ref a_this), (1, .int n0), (2, .int n1), (3, .int n2), (4, .int n3), (5, .int n4)] := ⟨(4 - Int32.toInt x63_ + 1).toNat, by (try rw [ex63_]); exact (by decide), by (try rw [eg64_]); exact hf_rows, by omega, by (try rw [ex63_]); (try rw [eg64_]); exact hW, hS, by (try rw [ex63_]); (try rw [eg64_]); exact hl⟩
                        clear hW hS hl ex63_ eg64_
                        induction n126_ generalizing x63_ g64_ H locs ls with
                        | zero => obtain ⟨bx63_, bg64_, hn, -⟩ := hI126_; exact absurd hn (by omega)
                        | succ n ih =>
                          obtain ⟨bx63_, bg64_, hn, hW, hS, hl⟩ := hI126_
                          refine lv_iload hx hb dX10_window_126 (lv_at hl 0 rfl) ?_
                          refine lv_iconst (v := 4) hx hb dX10_window_128 (by decide) ?_
                          refine lv_icmp_ge (tgt := 153) hx hb dX10_window_129 (by decide) (fun c65_ => ?_) (fun c65_ => ?_)
                          · have b66_ : 4 ≤ Int32.toInt x63_ ∧ Int32.toInt x63_ ≤ 4 := zr_le_r 4 c65_ bx63_ (show 4 ≤ Int32.toInt 4 ∧ Int32.toInt 4 ≤ 4 from (by decide)) (by decide)
                            refine lv_aload_n hx hb dX10_window_153 rfl (lv_at hl 1 rfl) ?_
                            refine lv_dup hx hb dX10_window_154 rfl ?_
                            refine zget hx hb ht inlX10 hown hK hW 0 rfl rfl 0 (by decide) zm_140 rfl dX10_window_155 ?_
                            refine lv_iconst (v := 1) hx hb dX10_window_158 (by decide) ?_
                            refine lv_iadd hx hb dX10_window_159 ?_
                            obtain ⟨q68_, b67_⟩ : (Int32.toInt (p_windows + 1) = Int32.toInt p_windows + 1) ∧ (1 ≤ Int32.toInt (p_windows + 1) ∧ Int32.toInt (p_windows + 1) ≤ 7) := zadd_k p_windows 1 1 1 7 b50_ (by decide) (by decide) (by decide) (by decide) (by decide)
                            refine zput (ws' := [(a_this, .inr (9, [.int (p_windows + 1), w_minutes, w_wet, w_comes, w_side, w_herFloor, w_herRoom, .ref a_kind, .ref a_v, .ref a_floor, .ref a_room, .ref a_takes, .ref a_rows, .ref a_isShut, w_houses, w_the, w_fed, w_at, w_digits, w_text, w_clauses, w_word, w_number, w_from, w_to, w_sign, w_waits, w_signs, w_waiting, w_open, w_letters, w_pile, w_since, w_rain, w_shutAt, w_ways, w_path, w_rounds, w_round, w_bestPath, w_seen, w_seenWho, w_seenHarm, w_books, w_bookWho, w_bookWhen, w_hasImage, w_imageThe, w_imageWindows, w_imageMinutes, w_imageWet, w_imageComes, w_imageSide, w_imageFloor, w_imageRoom, w_imageRounds, w_imageSeen, w_imageBooks, w_imageKind, w_imageV, w_imageFloors, w_imageRooms, w_imageTakes, w_imageRows, w_imageRound, w_imageWho, w_imageHarm, w_imageBookWho, w_imageWhen, w_imageShut, w_ran, w_bodies, w_sort, w_length, w_item, w_aside])), (a_kind, .inl (y 0, 7, .inl g51_)), (a_v, .inl (y 0, 7, .inl g53_)), (a_floor, .inl (y 0, 7, .inl g55_)), (a_room, .inl (y 0, 7, .inl g57_)), (a_takes, .inl (y 0, 7, .inl g59_)), (a_rows, .inl (y 0, 28, .inl g64_)), (a_isShut, .inl (y 2, 7, .inl g61_))]) hx hb ht inlX10 tyX10 tyX10_ok nmX10 hown hK hS hW 0 rfl rfl 0 (by decide) zm_140 rfl rfl rfl (Nat.le_of_ble_eq_true rfl) rfl dX10_window_160 (fun H locs hW hS => ?_)
                            refine lv_aload_n hx hb dX10_window_163 rfl (lv_at hl 1 rfl) ?_
                            refine zget hx hb ht inlX10 hown hK hW 0 rfl rfl 0 (by decide) zm_140 rfl dX10_window_164 ?_
                            refine lv_iconst (v := 1) hx hb dX10_window_167 (by decide) ?_
                            refine lv_isub hx hb dX10_window_168 ?_
                            obtain ⟨q70_, b69_⟩ : (Int32.toInt ((p_windows + 1) - 1) = Int32.toInt (p_windows + 1) - 1) ∧ (0 ≤ Int32.toInt ((p_windows + 1) - 1) ∧ Int32.toInt ((p_windows + 1) - 1) ≤ 6) := zsub_k (p_windows + 1) 1 1 0 6 b67_ (by decide) (by decide) (by decide) (by decide) (by decide)
                            exact zret_i (v := ((p_windows + 1) - 1)) hx hb hr hlocks hS ((p_windows + 1), g51_, g53_, g55_, g57_, g59_, g64_, g61_) ⟨(zr_wide b69_ (by decide) (by decide)), (zr_wide b67_ (by decide) (by decide)), b52_, b54_, b56_, b58_, b60_, bg64_, b62_, trivial⟩ hW (Nat.le_of_ble_eq_true rfl) (Nat.le_of_ble_eq_true rfl) dX10_window_169
                          · have b71_ : 0 ≤ Int32.toInt x63_ ∧ Int32.toInt x63_ ≤ 3 := zr_nle_r 3 c65_ bx63_ (show 4 ≤ Int32.toInt 4 ∧ Int32.toInt 4 ≤ 4 from (by decide)) (by decide)
                            refine lv_aload_n hx hb dX10_window_132 rfl (lv_at hl 1 rfl) ?_
                            refine zget hx hb ht inlX10 hown hK hW 0 rfl rfl 12 (by decide) zm_152 rfl dX10_window_133 ?_
                            refine lv_iconst (v := 4) hx hb dX10_window_136 (by decide) ?_
                            refine lv_aload_n hx hb dX10_window_137 rfl (lv_at hl 1 rfl) ?_
                            refine zget hx hb ht inlX10 hown hK hW 0 rfl rfl 0 (by decide) zm_140 rfl dX10_window_138 ?_
                            refine lv_imul hx hb dX10_window_141 ?_
                            have q73_ : Int32.toInt (4 * p_windows) = 4 * Int32.toInt p_windows := by have u0 := (show (4 : Int32).toInt = 4 from (by decide)); have u1 := b50_; have u2 := zmul 4 p_windows (by rw [u0]; omega) (by rw [u0]; omega); rw [u0] at u2; omega
                            have b72_ : 0 ≤ Int32.toInt (4 * p_windows) ∧ Int32.toInt (4 * p_windows) ≤ 24 := by have u0 := (show (4 : Int32).toInt = 4 from (by decide)); have u1 := b50_; omega
                            refine lv_iload hx hb dX10_window_142 (lv_at hl 0 rfl) ?_
                            refine lv_iadd hx hb dX10_window_144 ?_
                            obtain ⟨q75_, b74_⟩ : (Int32.toInt ((4 * p_windows) + x63_) = Int32.toInt (4 * p_windows) + Int32.toInt x63_) ∧ (0 ≤ Int32.toInt ((4 * p_windows) + x63_) ∧ Int32.toInt ((4 * p_windows) + x63_) ≤ 27) := zadd_r (4 * p_windows) x63_ 0 27 b72_ b71_ (by decide) (by decide) (by decide) (by decide)
                            refine lv_iconst (v := 0) hx hb dX10_window_145 (by decide) ?_
                            refine ziastN (ws' := fun g76_ => [(a_this, .inr (9, [.int p_windows, w_minutes, w_wet, w_comes, w_side, w_herFloor, w_herRoom, .ref a_kind, .ref a_v, .ref a_floor, .ref a_room, .ref a_takes, .ref a_rows, .ref a_isShut, w_houses, w_the, w_fed, w_at, w_digits, w_text, w_clauses, w_word, w_number, w_from, w_to, w_sign, w_waits, w_signs, w_waiting, w_open, w_letters, w_pile, w_since, w_rain, w_shutAt, w_ways, w_path, w_rounds, w_round, w_bestPath, w_seen, w_seenWho, w_seenHarm, w_books, w_bookWho, w_bookWhen, w_hasImage, w_imageThe, w_imageWindows, w_imageMinutes, w_imageWet, w_imageComes, w_imageSide, w_imageFloor, w_imageRoom, w_imageRounds, w_imageSeen, w_imageBooks, w_imageKind, w_imageV, w_imageFloors, w_imageRooms, w_imageTakes, w_imageRows, w_imageRound, w_imageWho, w_imageHarm, w_imageBookWho, w_imageWhen, w_imageShut, w_ran, w_bodies, w_sort, w_length, w_item, w_aside])), (a_kind, .inl (y 0, 7, .inl g51_)), (a_v, .inl (y 0, 7, .inl g53_)), (a_floor, .inl (y 0, 7, .inl g55_)), (a_room, .inl (y 0, 7, .inl g57_)), (a_takes, .inl (y 0, 7, .inl g59_)), (a_rows, .inl (y 0, 28, .inl g76_)), (a_isShut, .inl (y 2, 7, .inl g61_))]) hx hb hK hS hW 6 rfl (zr_in b74_ (by decide) (by decide)) (fun _ => rfl) dX10_window_146 (fun g76_ H locs eg76_ hW hS => ?_)
                            have b77_ : ∀ j_, 0 ≤ Int32.toInt (g76_ j_) ∧ Int32.toInt (g76_ j_) ≤ 9 := zall_upd eg76_ bg64_ (by decide)
                            refine lv_iinc (k := 0) (v := (x63_ + 1)) (lv' := [(6, .int (x63_ + 1)), (0, .ref a_this), (1, .int n0), (2, .int n1), (3, .int n2), (4, .int n3), (5, .int n4)]) hx hb dX10_window_147 hl rfl (by rfl) (by decide) rfl (fun ls hl => ?_)
                            obtain ⟨q79_, b78_⟩ : (Int32.toInt (x63_ + 1) = Int32.toInt x63_ + 1) ∧ (1 ≤ Int32.toInt (x63_ + 1) ∧ Int32.toInt (x63_ + 1) ≤ 4) := zadd_k x63_ 1 1 1 4 b71_ (by decide) (by decide) (by decide) (by decide) (by decide)
                            refine lv_goto (tgt := 126) hx hb dX10_window_150 (by decide) ?_
                            exact ih _ _ _ _ _ ⟨(zr_wide b78_ (by decide) (by decide)), b77_, by have u0 := q79_; omega, hW, hS, (lv_sub hl [0, 1, 2, 3, 4, 5, 6] rfl)⟩
                      · have b80_ : 7 ≤ Int32.toInt p_windows ∧ Int32.toInt p_windows ≤ 7 := zr_eq_l c49_ (show 7 ≤ Int32.toInt 7 ∧ Int32.toInt 7 ≤ 7 from (by decide))
                        refine lv_bipush (v := (-4)) hx hb dX10_window_58 (by decide) ?_
                        exact zret_i (v := (-4)) hx hb hr hlocks hS (p_windows, f_kind, f_v, f_floor, f_room, f_takes, f_rows, f_isShut) ⟨(by decide), (zr_wide b80_ (by decide) (by decide)), hf_kind, hf_v, hf_floor, hf_room, hf_takes, hf_rows, hf_isShut, trivial⟩ hW (Nat.le_of_ble_eq_true rfl) (Nat.le_of_ble_eq_true rfl) dX10_window_60
set_option maxHeartbeats 8000000 in
set_option maxRecDepth 100000 in
theorem zd_X10_put_x_x (l : Launch) (D : va_G) (y : Nat → ClassId) (a_this : Nat) (a_isShut : Nat) (p_windows : Int32) (w_minutes : Value) (w_wet : Value) (w_comes : Value) (w_side : Value) (w_herFloor : Value) (w_herRoom : Value) (w_kind : Value) (w_v : Value) (w_floor : Value) (w_room : Value) (w_takes : Value) (w_rows : Value) (w_houses : Value) (w_the : Value) (w_fed : Value) (w_at : Value) (w_digits : Value) (w_text : Value) (w_clauses : Value) (w_word : Value) (w_number : Value) (w_from : Value) (w_to : Value) (w_sign : Value) (w_waits : Value) (w_signs : Value) (w_waiting : Value) (w_open : Value) (w_letters : Value) (w_pile : Value) (w_since : Value) (w_rain : Value) (w_shutAt : Value) (w_ways : Value) (w_path : Value) (w_rounds : Value) (w_round : Value) (w_bestPath : Value) (w_seen : Value) (w_seenWho : Value) (w_seenHarm : Value) (w_books : Value) (w_bookWho : Value) (w_bookWhen : Value) (w_hasImage : Value) (w_imageThe : Value) (w_imageWindows : Value) (w_imageMinutes : Value) (w_imageWet : Value) (w_imageComes : Value) (w_imageSide : Value) (w_imageFloor : Value) (w_imageRoom : Value) (w_imageRounds : Value) (w_imageSeen : Value) (w_imageBooks : Value) (w_imageKind : Value) (w_imageV : Value) (w_imageFloors : Value) (w_imageRooms : Value) (w_imageTakes : Value) (w_imageRows : Value) (w_imageRound : Value) (w_imageWho : Value) (w_imageHarm : Value) (w_imageBookWho : Value) (w_imageWhen : Value) (w_imageShut : Value) (w_ran : Value) (w_bodies : Value) (w_sort : Value) (w_length : Value) (w_item : Value) (w_aside : Value) (f_isShut : Nat → Int32) (n0 : Int32) (n1 : Int32) (hp_windows : 0 ≤ Int32.toInt p_windows ∧ Int32.toInt p_windows ≤ 7) (hf_isShut : ∀ j_, 0 ≤ Int32.toInt (f_isShut j_) ∧ Int32.toInt (f_isShut j_) ≤ 1) : zM l D y yX10_put (Cond.code yX10_put cX10_put 4 (some .int) :: zT) { frames := 2, cells := 0, slots := 0, locals := 44 } [.ref a_this, .int n0, .int n1] [(a_this, .inr (9, [.int p_windows, w_minutes, w_wet, w_comes, w_side, w_herFloor, w_herRoom, w_kind, w_v, w_floor, w_room, w_takes, w_rows, .ref a_isShut, w_houses, w_the, w_fed, w_at, w_digits, w_text, w_clauses, w_word, w_number, w_from, w_to, w_sign, w_waits, w_signs, w_waiting, w_open, w_letters, w_pile, w_since, w_rain, w_shutAt, w_ways, w_path, w_rounds, w_round, w_bestPath, w_seen, w_seenWho, w_seenHarm, w_books, w_bookWho, w_bookWhen, w_hasImage, w_imageThe, w_imageWindows, w_imageMinutes, w_imageWet, w_imageComes, w_imageSide, w_imageFloor, w_imageRoom, w_imageRounds, w_imageSeen, w_imageBooks, w_imageKind, w_imageV, w_imageFloors, w_imageRooms, w_imageTakes, w_imageRows, w_imageRound, w_imageWho, w_imageHarm, w_imageBookWho, w_imageWhen, w_imageShut, w_ran, w_bodies, w_sort, w_length, w_item, w_aside])), (a_isShut, .inl (y 2, 7, .inl f_isShut))] (zQi (S := (Nat → Int32)) D (fun r_ g_isShut_ => (r_ = (if n0 < 0 then (-1) else (if (p_windows - 1) < n0 then (-1) else (if (f_isShut (Int32.toNatClampNeg n0)) = 0 then 0 else 1)))) ∧ (∀ j_, 0 ≤ Int32.toInt (g_isShut_ j_) ∧ Int32.toInt (g_isShut_ j_) ≤ 1) ∧ True) (fun g_isShut_ => [(a_this, .inr (9, [.int p_windows, w_minutes, w_wet, w_comes, w_side, w_herFloor, w_herRoom, w_kind, w_v, w_floor, w_room, w_takes, w_rows, .ref a_isShut, w_houses, w_the, w_fed, w_at, w_digits, w_text, w_clauses, w_word, w_number, w_from, w_to, w_sign, w_waits, w_signs, w_waiting, w_open, w_letters, w_pile, w_since, w_rain, w_shutAt, w_ways, w_path, w_rounds, w_round, w_bestPath, w_seen, w_seenWho, w_seenHarm, w_books, w_bookWho, w_bookWhen, w_hasImage, w_imageThe, w_imageWindows, w_imageMinutes, w_imageWet, w_imageComes, w_imageSide, w_imageFloor, w_imageRoom, w_imageRounds, w_imageSeen, w_imageBooks, w_imageKind, w_imageV, w_imageFloors, w_imageRooms, w_imageTakes, w_imageRows, w_imageRound, w_imageWho, w_imageHarm, w_imageBookWho, w_imageWhen, w_imageShut, w_ran, w_bodies, w_sort, w_length, w_item, w_aside])), (a_isShut, .inl (y 2, 7, .inl g_isShut_))])) := by
  refine zent (cc := cX10_put) (maxL := 4) (ret := (some .int)) (by decide) (Nat.le_of_ble_eq_true rfl) ?_
  intro p e s m below meth c A H locs ls hx hb hml hr ht hown hlocks hin hA hK hE hS hW hl
  replace hown : s.vm.findClass RX10 = some m.cls := hown
  replace hW : zPD D A [(a_this, .inr (9, [.int p_windows, w_minutes, w_wet, w_comes, w_side, w_herFloor, w_herRoom, w_kind, w_v, w_floor, w_room, w_takes, w_rows, .ref a_isShut, w_houses, w_the, w_fed, w_at, w_digits, w_text, w_clauses, w_word, w_number, w_from, w_to, w_sign, w_waits, w_signs, w_waiting, w_open, w_letters, w_pile, w_since, w_rain, w_shutAt, w_ways, w_path, w_rounds, w_round, w_bestPath, w_seen, w_seenWho, w_seenHarm, w_books, w_bookWho, w_bookWhen, w_hasImage, w_imageThe, w_imageWindows, w_imageMinutes, w_imageWet, w_imageComes, w_imageSide, w_imageFloor, w_imageRoom, w_imageRounds, w_imageSeen, w_imageBooks, w_imageKind, w_imageV, w_imageFloors, w_imageRooms, w_imageTakes, w_imageRows, w_imageRound, w_imageWho, w_imageHarm, w_imageBookWho, w_imageWhen, w_imageShut, w_ran, w_bodies, w_sort, w_length, w_item, w_aside])), (a_isShut, .inl (y 2, 7, .inl f_isShut))] H := hW
  replace hl : lv_has ls 4 [(0, .ref a_this), (1, .int n0), (2, .int n1)] := hl
  refine lv_aload_n hx hb dX10_put_0 rfl (lv_at hl 0 rfl) ?_
  refine lv_iload_n hx hb dX10_put_1 rfl (lv_at hl 1 rfl) ?_
  refine zgo_i (wr := [(a_isShut, .inl (y 2, 7, .inl f_isShut))]) (zrunV (As := [.int n0]) (rest := []) ⟨hx, hb, hml, hown, ht⟩ (zd_X10_isWindow_x l D y a_this p_windows w_minutes w_wet w_comes w_side w_herFloor w_herRoom w_kind w_v w_floor w_room w_takes w_rows (.ref a_isShut) w_houses w_the w_fed w_at w_digits w_text w_clauses w_word w_number w_from w_to w_sign w_waits w_signs w_waiting w_open w_letters w_pile w_since w_rain w_shutAt w_ways w_path w_rounds w_round w_bestPath w_seen w_seenWho w_seenHarm w_books w_bookWho w_bookWhen w_hasImage w_imageThe w_imageWindows w_imageMinutes w_imageWet w_imageComes w_imageSide w_imageFloor w_imageRoom w_imageRounds w_imageSeen w_imageBooks w_imageKind w_imageV w_imageFloors w_imageRooms w_imageTakes w_imageRows w_imageRound w_imageWho w_imageHarm w_imageBookWho w_imageWhen w_imageShut w_ran w_bodies w_sort w_length w_item w_aside n0 (zr_wide hp_windows (by decide) (by decide))) (cwV 1 ht (zgV zm_353 zm_354 zm_355 zm_5 zm_356) rfl rfl rfl (by decide +kernel) ⟨(Nat.le_of_ble_eq_true rfl), (Nat.le_of_ble_eq_true rfl)⟩) hK hE hS hA hW [0] (by decide) rfl 0 rfl rfl rfl rfl hl.1 rfl (Nat.le_of_ble_eq_true rfl) dX10_put_2 (Nat.le_of_ble_eq_true rfl) (Nat.le_of_ble_eq_true rfl)) hS hA hW [0] [1] rfl rfl (by decide) (by decide) (fun r1_ u H locs hw hW hS => ?_)
  replace hW : zPD D A [(a_this, .inr (9, [.int p_windows, w_minutes, w_wet, w_comes, w_side, w_herFloor, w_herRoom, w_kind, w_v, w_floor, w_room, w_takes, w_rows, .ref a_isShut, w_houses, w_the, w_fed, w_at, w_digits, w_text, w_clauses, w_word, w_number, w_from, w_to, w_sign, w_waits, w_signs, w_waiting, w_open, w_letters, w_pile, w_since, w_rain, w_shutAt, w_ways, w_path, w_rounds, w_round, w_bestPath, w_seen, w_seenWho, w_seenHarm, w_books, w_bookWho, w_bookWhen, w_hasImage, w_imageThe, w_imageWindows, w_imageMinutes, w_imageWet, w_imageComes, w_imageSide, w_imageFloor, w_imageRoom, w_imageRounds, w_imageSeen, w_imageBooks, w_imageKind, w_imageV, w_imageFloors, w_imageRooms, w_imageTakes, w_imageRows, w_imageRound, w_imageWho, w_imageHarm, w_imageBookWho, w_imageWhen, w_imageShut, w_ran, w_bodies, w_sort, w_length, w_item, w_aside])), (a_isShut, .inl (y 2, 7, .inl f_isShut))] H := hW.sub [1, 0] (by decide) rfl
  replace hw : (r1_ = (if n0 < 0 then 0 else (if (p_windows - 1) < n0 then 0 else 1))) ∧ True := hw
  obtain ⟨hw, -⟩ := hw
  by_cases c2_ : n0 < 0
  · have b3_ : (-2147483648) ≤ Int32.toInt n0 ∧ Int32.toInt n0 ≤ (-1) := zr_lt_l (-1) c2_ (zbnd n0) (show 0 ≤ Int32.toInt 0 ∧ Int32.toInt 0 ≤ 0 from (by decide)) (by decide)
    rw [if_pos c2_] at hw
    subst r1_
    refine lv_if_ne (tgt := 10) hx hb dX10_put_5 (by decide) (fun c4_ => absurd (by decide) c4_) (fun c4_ => ?_)
    refine lv_iconst (v := (-1)) hx hb dX10_put_8 (by decide) ?_
    exact zret_i (v := (-1)) hx hb hr hlocks hS f_isShut ⟨(by show _ = _; rw [if_pos c2_]), hf_isShut, trivial⟩ hW (Nat.le_of_ble_eq_true rfl) (Nat.le_of_ble_eq_true rfl) dX10_put_9
  · have b5_ : 0 ≤ Int32.toInt n0 ∧ Int32.toInt n0 ≤ 2147483647 := zr_nlt_l 0 c2_ (zbnd n0) (show 0 ≤ Int32.toInt 0 ∧ Int32.toInt 0 ≤ 0 from (by decide)) (by decide)
    rw [if_neg c2_] at hw
    obtain ⟨q7_, b6_⟩ : (Int32.toInt (p_windows - 1) = Int32.toInt p_windows - 1) ∧ ((-1) ≤ Int32.toInt (p_windows - 1) ∧ Int32.toInt (p_windows - 1) ≤ 6) := zsub_k p_windows 1 1 (-1) 6 hp_windows (by decide) (by decide) (by decide) (by decide) (by decide)
    by_cases c8_ : (p_windows - 1) < n0
    · have d9_ : Int32.toInt (p_windows - 1) < Int32.toInt n0 := (zi_lt _ _).mp c8_
      rw [if_pos c8_] at hw
      subst r1_
      refine lv_if_ne (tgt := 10) hx hb dX10_put_5 (by decide) (fun c10_ => absurd (by decide) c10_) (fun c10_ => ?_)
      refine lv_iconst (v := (-1)) hx hb dX10_put_8 (by decide) ?_
      exact zret_i (v := (-1)) hx hb hr hlocks hS f_isShut ⟨(by show _ = _; rw [if_neg c2_, if_pos c8_]), hf_isShut, trivial⟩ hW (Nat.le_of_ble_eq_true rfl) (Nat.le_of_ble_eq_true rfl) dX10_put_9
    · have b11_ : 0 ≤ Int32.toInt (p_windows - 1) ∧ Int32.toInt (p_windows - 1) ≤ 6 := zr_nlt_l 0 c8_ b6_ b5_ (by decide)
      have b12_ : 0 ≤ Int32.toInt n0 ∧ Int32.toInt n0 ≤ 6 := zr_nlt_r 6 c8_ b5_ b11_ (by decide)
      have d13_ : Int32.toInt (p_windows - 1) ≥ Int32.toInt n0 := Int.not_lt.mp ((not_congr (zi_lt _ _)).mp c8_)
      rw [if_neg c8_] at hw
      subst r1_
      refine lv_if_ne (tgt := 10) hx hb dX10_put_5 (by decide) (fun c14_ => ?_) (fun c14_ => absurd c14_ (by decide))
      refine lv_aload_n hx hb dX10_put_10 rfl (lv_at hl 0 rfl) ?_
      refine zget hx hb ht inlX10 hown hK hW 0 rfl rfl 13 (by decide) zm_153 rfl dX10_put_11 ?_
      refine lv_iload_n hx hb dX10_put_14 rfl (lv_at hl 1 rfl) ?_
      have b15_ : 0 ≤ Int32.toInt (f_isShut (Int32.toNatClampNeg n0)) ∧ Int32.toInt (f_isShut (Int32.toNatClampNeg n0)) ≤ 1 := hf_isShut (Int32.toNatClampNeg n0)
      refine zzald (v := (f_isShut (Int32.toNatClampNeg n0))) hx hb hK hW 1 rfl (zr_in b12_ (by decide) (by decide)) rfl dX10_put_15 ?_
      refine lv_if_eq (tgt := 23) hx hb dX10_put_16 (by decide) (fun c16_ => ?_) (fun c16_ => ?_)
      · have b17_ : 0 ≤ Int32.toInt (f_isShut (Int32.toNatClampNeg n0)) ∧ Int32.toInt (f_isShut (Int32.toNatClampNeg n0)) ≤ 0 := zr_eq_l c16_ (show 0 ≤ Int32.toInt 0 ∧ Int32.toInt 0 ≤ 0 from (by decide))
        refine lv_iconst (v := 0) hx hb dX10_put_23 (by decide) ?_
        refine lv_istore_n (lv' := [(3, .int 0), (0, .ref a_this), (1, .int n0), (2, .int n1)]) hx hb dX10_put_24 rfl hl (by decide) rfl (fun ls hl => ?_)
        refine lv_aload_n hx hb dX10_put_25 rfl (lv_at hl 1 rfl) ?_
        refine zget hx hb ht inlX10 hown hK hW 0 rfl rfl 13 (by decide) zm_153 rfl dX10_put_26 ?_
        refine lv_iload_n hx hb dX10_put_29 rfl (lv_at hl 2 rfl) ?_
        refine lv_iload_n hx hb dX10_put_30 rfl (lv_at hl 3 rfl) ?_
        refine zzastN (ws' := fun g18_ => [(a_this, .inr (9, [.int p_windows, w_minutes, w_wet, w_comes, w_side, w_herFloor, w_herRoom, w_kind, w_v, w_floor, w_room, w_takes, w_rows, .ref a_isShut, w_houses, w_the, w_fed, w_at, w_digits, w_text, w_clauses, w_word, w_number, w_from, w_to, w_sign, w_waits, w_signs, w_waiting, w_open, w_letters, w_pile, w_since, w_rain, w_shutAt, w_ways, w_path, w_rounds, w_round, w_bestPath, w_seen, w_seenWho, w_seenHarm, w_books, w_bookWho, w_bookWhen, w_hasImage, w_imageThe, w_imageWindows, w_imageMinutes, w_imageWet, w_imageComes, w_imageSide, w_imageFloor, w_imageRoom, w_imageRounds, w_imageSeen, w_imageBooks, w_imageKind, w_imageV, w_imageFloors, w_imageRooms, w_imageTakes, w_imageRows, w_imageRound, w_imageWho, w_imageHarm, w_imageBookWho, w_imageWhen, w_imageShut, w_ran, w_bodies, w_sort, w_length, w_item, w_aside])), (a_isShut, .inl (y 2, 7, .inl g18_))]) hx hb hK hS hW 1 rfl (zr_in b12_ (by decide) (by decide)) (fun _ => rfl) dX10_put_31 (fun g18_ H locs eg18_ hW hS => ?_)
        have b19_ : ∀ j_, 0 ≤ Int32.toInt (g18_ j_) ∧ Int32.toInt (g18_ j_) ≤ 1 := zall_updZ eg18_ hf_isShut
        refine lv_iload_n hx hb dX10_put_32 rfl (lv_at hl 0 rfl) ?_
        exact zret_i (v := 0) hx hb hr hlocks hS g18_ ⟨(by show _ = _; rw [if_neg c2_, if_neg c8_, if_pos c16_]), b19_, trivial⟩ hW (Nat.le_of_ble_eq_true rfl) (Nat.le_of_ble_eq_true rfl) dX10_put_33
      · have b20_ : 1 ≤ Int32.toInt (f_isShut (Int32.toNatClampNeg n0)) ∧ Int32.toInt (f_isShut (Int32.toNatClampNeg n0)) ≤ 1 := (by have u0 := b15_; have u1 := (not_congr (zi_eq _ _)).mp c16_; have u2 := (show 0 ≤ Int32.toInt 0 ∧ Int32.toInt 0 ≤ 0 from (by decide)); omega)
        refine lv_iconst (v := 1) hx hb dX10_put_19 (by decide) ?_
        refine lv_goto (tgt := 24) hx hb dX10_put_20 (by decide) ?_
        refine lv_istore_n (lv' := [(3, .int 1), (0, .ref a_this), (1, .int n0), (2, .int n1)]) hx hb dX10_put_24 rfl hl (by decide) rfl (fun ls hl => ?_)
        refine lv_aload_n hx hb dX10_put_25 rfl (lv_at hl 1 rfl) ?_
        refine zget hx hb ht inlX10 hown hK hW 0 rfl rfl 13 (by decide) zm_153 rfl dX10_put_26 ?_
        refine lv_iload_n hx hb dX10_put_29 rfl (lv_at hl 2 rfl) ?_
        refine lv_iload_n hx hb dX10_put_30 rfl (lv_at hl 3 rfl) ?_
        refine zzastN (ws' := fun g21_ => [(a_this, .inr (9, [.int p_windows, w_minutes, w_wet, w_comes, w_side, w_herFloor, w_herRoom, w_kind, w_v, w_floor, w_room, w_takes, w_rows, .ref a_isShut, w_houses, w_the, w_fed, w_at, w_digits, w_text, w_clauses, w_word, w_number, w_from, w_to, w_sign, w_waits, w_signs, w_waiting, w_open, w_letters, w_pile, w_since, w_rain, w_shutAt, w_ways, w_path, w_rounds, w_round, w_bestPath, w_seen, w_seenWho, w_seenHarm, w_books, w_bookWho, w_bookWhen, w_hasImage, w_imageThe, w_imageWindows, w_imageMinutes, w_imageWet, w_imageComes, w_imageSide, w_imageFloor, w_imageRoom, w_imageRounds, w_imageSeen, w_imageBooks, w_imageKind, w_imageV, w_imageFloors, w_imageRooms, w_imageTakes, w_imageRows, w_imageRound, w_imageWho, w_imageHarm, w_imageBookWho, w_imageWhen, w_imageShut, w_ran, w_bodies, w_sort, w_length, w_item, w_aside])), (a_isShut, .inl (y 2, 7, .inl g21_))]) hx hb hK hS hW 1 rfl (zr_in b12_ (by decide) (by decide)) (fun _ => rfl) dX10_put_31 (fun g21_ H locs eg21_ hW hS => ?_)
        have b22_ : ∀ j_, 0 ≤ Int32.toInt (g21_ j_) ∧ Int32.toInt (g21_ j_) ≤ 1 := zall_updZ eg21_ hf_isShut
        refine lv_iload_n hx hb dX10_put_32 rfl (lv_at hl 0 rfl) ?_
        exact zret_i (v := 1) hx hb hr hlocks hS g21_ ⟨(by show _ = _; rw [if_neg c2_, if_neg c8_, if_neg c16_]), b22_, trivial⟩ hW (Nat.le_of_ble_eq_true rfl) (Nat.le_of_ble_eq_true rfl) dX10_put_33
set_option maxHeartbeats 8000000 in
set_option maxRecDepth 100000 in
theorem zd_X10_row_x_x_x (l : Launch) (D : va_G) (y : Nat → ClassId) (a_this : Nat) (a_kind : Nat) (a_rows : Nat) (p_windows : Int32) (w_minutes : Value) (w_wet : Value) (w_comes : Value) (w_side : Value) (w_herFloor : Value) (w_herRoom : Value) (w_v : Value) (w_floor : Value) (w_room : Value) (w_takes : Value) (w_isShut : Value) (w_houses : Value) (w_the : Value) (w_fed : Value) (w_at : Value) (w_digits : Value) (w_text : Value) (w_clauses : Value) (w_word : Value) (w_number : Value) (w_from : Value) (w_to : Value) (w_sign : Value) (w_waits : Value) (w_signs : Value) (w_waiting : Value) (w_open : Value) (w_letters : Value) (w_pile : Value) (w_since : Value) (w_rain : Value) (w_shutAt : Value) (w_ways : Value) (w_path : Value) (w_rounds : Value) (w_round : Value) (w_bestPath : Value) (w_seen : Value) (w_seenWho : Value) (w_seenHarm : Value) (w_books : Value) (w_bookWho : Value) (w_bookWhen : Value) (w_hasImage : Value) (w_imageThe : Value) (w_imageWindows : Value) (w_imageMinutes : Value) (w_imageWet : Value) (w_imageComes : Value) (w_imageSide : Value) (w_imageFloor : Value) (w_imageRoom : Value) (w_imageRounds : Value) (w_imageSeen : Value) (w_imageBooks : Value) (w_imageKind : Value) (w_imageV : Value) (w_imageFloors : Value) (w_imageRooms : Value) (w_imageTakes : Value) (w_imageRows : Value) (w_imageRound : Value) (w_imageWho : Value) (w_imageHarm : Value) (w_imageBookWho : Value) (w_imageWhen : Value) (w_imageShut : Value) (w_ran : Value) (w_bodies : Value) (w_sort : Value) (w_length : Value) (w_item : Value) (w_aside : Value) (f_kind : Nat → Int32) (f_rows : Nat → Int32) (n0 : Int32) (n1 : Int32) (n2 : Int32) (hp_windows : 0 ≤ Int32.toInt p_windows ∧ Int32.toInt p_windows ≤ 7) (hf_kind : ∀ j_, 0 ≤ Int32.toInt (f_kind j_) ∧ Int32.toInt (f_kind j_) ≤ 6) (hf_rows : ∀ j_, 0 ≤ Int32.toInt (f_rows j_) ∧ Int32.toInt (f_rows j_) ≤ 9) : zM l D y yX10_row (Cond.code yX10_row cX10_row 5 (some .int) :: zT) { frames := 2, cells := 0, slots := 0, locals := 44 } [.ref a_this, .int n0, .int n1, .int n2] [(a_this, .inr (9, [.int p_windows, w_minutes, w_wet, w_comes, w_side, w_herFloor, w_herRoom, .ref a_kind, w_v, w_floor, w_room, w_takes, .ref a_rows, w_isShut, w_houses, w_the, w_fed, w_at, w_digits, w_text, w_clauses, w_word, w_number, w_from, w_to, w_sign, w_waits, w_signs, w_waiting, w_open, w_letters, w_pile, w_since, w_rain, w_shutAt, w_ways, w_path, w_rounds, w_round, w_bestPath, w_seen, w_seenWho, w_seenHarm, w_books, w_bookWho, w_bookWhen, w_hasImage, w_imageThe, w_imageWindows, w_imageMinutes, w_imageWet, w_imageComes, w_imageSide, w_imageFloor, w_imageRoom, w_imageRounds, w_imageSeen, w_imageBooks, w_imageKind, w_imageV, w_imageFloors, w_imageRooms, w_imageTakes, w_imageRows, w_imageRound, w_imageWho, w_imageHarm, w_imageBookWho, w_imageWhen, w_imageShut, w_ran, w_bodies, w_sort, w_length, w_item, w_aside])), (a_kind, .inl (y 0, 7, .inl f_kind)), (a_rows, .inl (y 0, 28, .inl f_rows))] (zQi (S := (Nat → Int32)) D (fun r_ g_rows_ => (r_ = (if n0 < 0 then (-1) else (if (p_windows - 1) < n0 then (-1) else (if n1 < 0 then (-1) else (if 3 < n1 then (-1) else (if n2 < 0 then (-2) else (if 9 < n2 then (-2) else (if (f_kind (Int32.toNatClampNeg n0)) = 6 then (f_rows (Int32.toNatClampNeg ((4 * n0) + n1))) else (-3))))))))) ∧ (∀ j_, 0 ≤ Int32.toInt (g_rows_ j_) ∧ Int32.toInt (g_rows_ j_) ≤ 9) ∧ True) (fun g_rows_ => [(a_this, .inr (9, [.int p_windows, w_minutes, w_wet, w_comes, w_side, w_herFloor, w_herRoom, .ref a_kind, w_v, w_floor, w_room, w_takes, .ref a_rows, w_isShut, w_houses, w_the, w_fed, w_at, w_digits, w_text, w_clauses, w_word, w_number, w_from, w_to, w_sign, w_waits, w_signs, w_waiting, w_open, w_letters, w_pile, w_since, w_rain, w_shutAt, w_ways, w_path, w_rounds, w_round, w_bestPath, w_seen, w_seenWho, w_seenHarm, w_books, w_bookWho, w_bookWhen, w_hasImage, w_imageThe, w_imageWindows, w_imageMinutes, w_imageWet, w_imageComes, w_imageSide, w_imageFloor, w_imageRoom, w_imageRounds, w_imageSeen, w_imageBooks, w_imageKind, w_imageV, w_imageFloors, w_imageRooms, w_imageTakes, w_imageRows, w_imageRound, w_imageWho, w_imageHarm, w_imageBookWho, w_imageWhen, w_imageShut, w_ran, w_bodies, w_sort, w_length, w_item, w_aside])), (a_kind, .inl (y 0, 7, .inl f_kind)), (a_rows, .inl (y 0, 28, .inl g_rows_))])) := by
  refine zent (cc := cX10_row) (maxL := 5) (ret := (some .int)) (by decide) (Nat.le_of_ble_eq_true rfl) ?_
  intro p e s m below meth c A H locs ls hx hb hml hr ht hown hlocks hin hA hK hE hS hW hl
  replace hown : s.vm.findClass RX10 = some m.cls := hown
  replace hW : zPD D A [(a_this, .inr (9, [.int p_windows, w_minutes, w_wet, w_comes, w_side, w_herFloor, w_herRoom, .ref a_kind, w_v, w_floor, w_room, w_takes, .ref a_rows, w_isShut, w_houses, w_the, w_fed, w_at, w_digits, w_text, w_clauses, w_word, w_number, w_from, w_to, w_sign, w_waits, w_signs, w_waiting, w_open, w_letters, w_pile, w_since, w_rain, w_shutAt, w_ways, w_path, w_rounds, w_round, w_bestPath, w_seen, w_seenWho, w_seenHarm, w_books, w_bookWho, w_bookWhen, w_hasImage, w_imageThe, w_imageWindows, w_imageMinutes, w_imageWet, w_imageComes, w_imageSide, w_imageFloor, w_imageRoom, w_imageRounds, w_imageSeen, w_imageBooks, w_imageKind, w_imageV, w_imageFloors, w_imageRooms, w_imageTakes, w_imageRows, w_imageRound, w_imageWho, w_imageHarm, w_imageBookWho, w_imageWhen, w_imageShut, w_ran, w_bodies, w_sort, w_length, w_item, w_aside])), (a_kind, .inl (y 0, 7, .inl f_kind)), (a_rows, .inl (y 0, 28, .inl f_rows))] H := hW
  replace hl : lv_has ls 5 [(0, .ref a_this), (1, .int n0), (2, .int n1), (3, .int n2)] := hl
  refine lv_aload_n hx hb dX10_row_0 rfl (lv_at hl 0 rfl) ?_
  refine lv_iload_n hx hb dX10_row_1 rfl (lv_at hl 1 rfl) ?_
  refine zgo_i (wr := [(a_kind, .inl (y 0, 7, .inl f_kind)), (a_rows, .inl (y 0, 28, .inl f_rows))]) (zrunV (As := [.int n0]) (rest := []) ⟨hx, hb, hml, hown, ht⟩ (zd_X10_isWindow_x l D y a_this p_windows w_minutes w_wet w_comes w_side w_herFloor w_herRoom (.ref a_kind) w_v w_floor w_room w_takes (.ref a_rows) w_isShut w_houses w_the w_fed w_at w_digits w_text w_clauses w_word w_number w_from w_to w_sign w_waits w_signs w_waiting w_open w_letters w_pile w_since w_rain w_shutAt w_ways w_path w_rounds w_round w_bestPath w_seen w_seenWho w_seenHarm w_books w_bookWho w_bookWhen w_hasImage w_imageThe w_imageWindows w_imageMinutes w_imageWet w_imageComes w_imageSide w_imageFloor w_imageRoom w_imageRounds w_imageSeen w_imageBooks w_imageKind w_imageV w_imageFloors w_imageRooms w_imageTakes w_imageRows w_imageRound w_imageWho w_imageHarm w_imageBookWho w_imageWhen w_imageShut w_ran w_bodies w_sort w_length w_item w_aside n0 (zr_wide hp_windows (by decide) (by decide))) (cwV 1 ht (zgV zm_353 zm_354 zm_355 zm_5 zm_356) rfl rfl rfl (by decide +kernel) ⟨(Nat.le_of_ble_eq_true rfl), (Nat.le_of_ble_eq_true rfl)⟩) hK hE hS hA hW [0] (by decide) rfl 0 rfl rfl rfl rfl hl.1 rfl (Nat.le_of_ble_eq_true rfl) dX10_row_2 (Nat.le_of_ble_eq_true rfl) (Nat.le_of_ble_eq_true rfl)) hS hA hW [0] [1, 2] rfl rfl (by decide) (by decide) (fun r1_ u H locs hw hW hS => ?_)
  replace hW : zPD D A [(a_this, .inr (9, [.int p_windows, w_minutes, w_wet, w_comes, w_side, w_herFloor, w_herRoom, .ref a_kind, w_v, w_floor, w_room, w_takes, .ref a_rows, w_isShut, w_houses, w_the, w_fed, w_at, w_digits, w_text, w_clauses, w_word, w_number, w_from, w_to, w_sign, w_waits, w_signs, w_waiting, w_open, w_letters, w_pile, w_since, w_rain, w_shutAt, w_ways, w_path, w_rounds, w_round, w_bestPath, w_seen, w_seenWho, w_seenHarm, w_books, w_bookWho, w_bookWhen, w_hasImage, w_imageThe, w_imageWindows, w_imageMinutes, w_imageWet, w_imageComes, w_imageSide, w_imageFloor, w_imageRoom, w_imageRounds, w_imageSeen, w_imageBooks, w_imageKind, w_imageV, w_imageFloors, w_imageRooms, w_imageTakes, w_imageRows, w_imageRound, w_imageWho, w_imageHarm, w_imageBookWho, w_imageWhen, w_imageShut, w_ran, w_bodies, w_sort, w_length, w_item, w_aside])), (a_kind, .inl (y 0, 7, .inl f_kind)), (a_rows, .inl (y 0, 28, .inl f_rows))] H := hW.sub [2, 0, 1] (by decide) rfl
  replace hw : (r1_ = (if n0 < 0 then 0 else (if (p_windows - 1) < n0 then 0 else 1))) ∧ True := hw
  obtain ⟨hw, -⟩ := hw
  by_cases c2_ : n0 < 0
  · have b3_ : (-2147483648) ≤ Int32.toInt n0 ∧ Int32.toInt n0 ≤ (-1) := zr_lt_l (-1) c2_ (zbnd n0) (show 0 ≤ Int32.toInt 0 ∧ Int32.toInt 0 ≤ 0 from (by decide)) (by decide)
    rw [if_pos c2_] at hw
    subst r1_
    refine lv_if_eq (tgt := 18) hx hb dX10_row_5 (by decide) (fun c4_ => ?_) (fun c4_ => absurd (by decide) c4_)
    refine lv_iconst (v := (-1)) hx hb dX10_row_18 (by decide) ?_
    exact zret_i (v := (-1)) hx hb hr hlocks hS f_rows ⟨(by show _ = _; rw [if_pos c2_]), hf_rows, trivial⟩ hW (Nat.le_of_ble_eq_true rfl) (Nat.le_of_ble_eq_true rfl) dX10_row_19
  · have b5_ : 0 ≤ Int32.toInt n0 ∧ Int32.toInt n0 ≤ 2147483647 := zr_nlt_l 0 c2_ (zbnd n0) (show 0 ≤ Int32.toInt 0 ∧ Int32.toInt 0 ≤ 0 from (by decide)) (by decide)
    rw [if_neg c2_] at hw
    obtain ⟨q7_, b6_⟩ : (Int32.toInt (p_windows - 1) = Int32.toInt p_windows - 1) ∧ ((-1) ≤ Int32.toInt (p_windows - 1) ∧ Int32.toInt (p_windows - 1) ≤ 6) := zsub_k p_windows 1 1 (-1) 6 hp_windows (by decide) (by decide) (by decide) (by decide) (by decide)
    by_cases c8_ : (p_windows - 1) < n0
    · have d9_ : Int32.toInt (p_windows - 1) < Int32.toInt n0 := (zi_lt _ _).mp c8_
      rw [if_pos c8_] at hw
      subst r1_
      refine lv_if_eq (tgt := 18) hx hb dX10_row_5 (by decide) (fun c10_ => ?_) (fun c10_ => absurd (by decide) c10_)
      refine lv_iconst (v := (-1)) hx hb dX10_row_18 (by decide) ?_
      exact zret_i (v := (-1)) hx hb hr hlocks hS f_rows ⟨(by show _ = _; rw [if_neg c2_, if_pos c8_]), hf_rows, trivial⟩ hW (Nat.le_of_ble_eq_true rfl) (Nat.le_of_ble_eq_true rfl) dX10_row_19
    · have b11_ : 0 ≤ Int32.toInt (p_windows - 1) ∧ Int32.toInt (p_windows - 1) ≤ 6 := zr_nlt_l 0 c8_ b6_ b5_ (by decide)
      have b12_ : 0 ≤ Int32.toInt n0 ∧ Int32.toInt n0 ≤ 6 := zr_nlt_r 6 c8_ b5_ b11_ (by decide)
      have d13_ : Int32.toInt (p_windows - 1) ≥ Int32.toInt n0 := Int.not_lt.mp ((not_congr (zi_lt _ _)).mp c8_)
      rw [if_neg c8_] at hw
      subst r1_
      refine lv_if_eq (tgt := 18) hx hb dX10_row_5 (by decide) (fun c14_ => absurd c14_ (by decide)) (fun c14_ => ?_)
      refine lv_aload_n hx hb dX10_row_8 rfl (lv_at hl 0 rfl) ?_
      refine lv_iload_n hx hb dX10_row_9 rfl (lv_at hl 2 rfl) ?_
      refine lv_iconst (v := 0) hx hb dX10_row_10 (by decide) ?_
      refine lv_iconst (v := 3) hx hb dX10_row_11 (by decide) ?_
      refine zgo_i (wr := [(a_kind, .inl (y 0, 7, .inl f_kind)), (a_rows, .inl (y 0, 28, .inl f_rows))]) (zrunV (As := [.int n1, .int 0, .int 3]) (rest := []) ⟨hx, hb, hml, hown, ht⟩ (zd_X10_in_x_0_3 l D y a_this (.int p_windows) w_minutes w_wet w_comes w_side w_herFloor w_herRoom (.ref a_kind) w_v w_floor w_room w_takes (.ref a_rows) w_isShut w_houses w_the w_fed w_at w_digits w_text w_clauses w_word w_number w_from w_to w_sign w_waits w_signs w_waiting w_open w_letters w_pile w_since w_rain w_shutAt w_ways w_path w_rounds w_round w_bestPath w_seen w_seenWho w_seenHarm w_books w_bookWho w_bookWhen w_hasImage w_imageThe w_imageWindows w_imageMinutes w_imageWet w_imageComes w_imageSide w_imageFloor w_imageRoom w_imageRounds w_imageSeen w_imageBooks w_imageKind w_imageV w_imageFloors w_imageRooms w_imageTakes w_imageRows w_imageRound w_imageWho w_imageHarm w_imageBookWho w_imageWhen w_imageShut w_ran w_bodies w_sort w_length w_item w_aside n1) (cwV 3 ht (zgV zm_240 zm_241 zm_242 zm_5 zm_243) rfl rfl rfl (by decide +kernel) ⟨(Nat.le_of_ble_eq_true rfl), (Nat.le_of_ble_eq_true rfl)⟩) hK hE hS hA hW [0] (by decide) rfl 0 rfl rfl rfl rfl hl.1 rfl (Nat.le_of_ble_eq_true rfl) dX10_row_12 (Nat.le_of_ble_eq_true rfl) (Nat.le_of_ble_eq_true rfl)) hS hA hW [0] [1, 2] rfl rfl (by decide) (by decide) (fun r15_ u H locs hw hW hS => ?_)
      replace hW : zPD D A [(a_this, .inr (9, [.int p_windows, w_minutes, w_wet, w_comes, w_side, w_herFloor, w_herRoom, .ref a_kind, w_v, w_floor, w_room, w_takes, .ref a_rows, w_isShut, w_houses, w_the, w_fed, w_at, w_digits, w_text, w_clauses, w_word, w_number, w_from, w_to, w_sign, w_waits, w_signs, w_waiting, w_open, w_letters, w_pile, w_since, w_rain, w_shutAt, w_ways, w_path, w_rounds, w_round, w_bestPath, w_seen, w_seenWho, w_seenHarm, w_books, w_bookWho, w_bookWhen, w_hasImage, w_imageThe, w_imageWindows, w_imageMinutes, w_imageWet, w_imageComes, w_imageSide, w_imageFloor, w_imageRoom, w_imageRounds, w_imageSeen, w_imageBooks, w_imageKind, w_imageV, w_imageFloors, w_imageRooms, w_imageTakes, w_imageRows, w_imageRound, w_imageWho, w_imageHarm, w_imageBookWho, w_imageWhen, w_imageShut, w_ran, w_bodies, w_sort, w_length, w_item, w_aside])), (a_kind, .inl (y 0, 7, .inl f_kind)), (a_rows, .inl (y 0, 28, .inl f_rows))] H := hW.sub [2, 0, 1] (by decide) rfl
      replace hw : (r15_ = (if n1 < 0 then 0 else (if 3 < n1 then 0 else 1))) ∧ True := hw
      obtain ⟨hw, -⟩ := hw
      by_cases c16_ : n1 < 0
      · have b17_ : (-2147483648) ≤ Int32.toInt n1 ∧ Int32.toInt n1 ≤ (-1) := zr_lt_l (-1) c16_ (zbnd n1) (show 0 ≤ Int32.toInt 0 ∧ Int32.toInt 0 ≤ 0 from (by decide)) (by decide)
        rw [if_pos c16_] at hw
        subst r15_
        refine lv_if_ne (tgt := 20) hx hb dX10_row_15 (by decide) (fun c18_ => absurd (by decide) c18_) (fun c18_ => ?_)
        refine lv_iconst (v := (-1)) hx hb dX10_row_18 (by decide) ?_
        exact zret_i (v := (-1)) hx hb hr hlocks hS f_rows ⟨(by show _ = _; rw [if_neg c2_, if_neg c8_, if_pos c16_]), hf_rows, trivial⟩ hW (Nat.le_of_ble_eq_true rfl) (Nat.le_of_ble_eq_true rfl) dX10_row_19
      · have b19_ : 0 ≤ Int32.toInt n1 ∧ Int32.toInt n1 ≤ 2147483647 := zr_nlt_l 0 c16_ (zbnd n1) (show 0 ≤ Int32.toInt 0 ∧ Int32.toInt 0 ≤ 0 from (by decide)) (by decide)
        rw [if_neg c16_] at hw
        by_cases c20_ : 3 < n1
        · have b21_ : 4 ≤ Int32.toInt n1 ∧ Int32.toInt n1 ≤ 2147483647 := zr_lt_r 4 c20_ b19_ (show 3 ≤ Int32.toInt 3 ∧ Int32.toInt 3 ≤ 3 from (by decide)) (by decide)
          rw [if_pos c20_] at hw
          subst r15_
          refine lv_if_ne (tgt := 20) hx hb dX10_row_15 (by decide) (fun c22_ => absurd (by decide) c22_) (fun c22_ => ?_)
          refine lv_iconst (v := (-1)) hx hb dX10_row_18 (by decide) ?_
          exact zret_i (v := (-1)) hx hb hr hlocks hS f_rows ⟨(by show _ = _; rw [if_neg c2_, if_neg c8_, if_neg c16_, if_pos c20_]), hf_rows, trivial⟩ hW (Nat.le_of_ble_eq_true rfl) (Nat.le_of_ble_eq_true rfl) dX10_row_19
        · have b23_ : 0 ≤ Int32.toInt n1 ∧ Int32.toInt n1 ≤ 3 := zr_nlt_r 3 c20_ b19_ (show 3 ≤ Int32.toInt 3 ∧ Int32.toInt 3 ≤ 3 from (by decide)) (by decide)
          rw [if_neg c20_] at hw
          subst r15_
          refine lv_if_ne (tgt := 20) hx hb dX10_row_15 (by decide) (fun c24_ => ?_) (fun c24_ => absurd c24_ (by decide))
          refine lv_aload_n hx hb dX10_row_20 rfl (lv_at hl 0 rfl) ?_
          refine lv_iload_n hx hb dX10_row_21 rfl (lv_at hl 3 rfl) ?_
          refine lv_iconst (v := 0) hx hb dX10_row_22 (by decide) ?_
          refine lv_bipush (v := 9) hx hb dX10_row_23 (by decide) ?_
          refine zgo_i (wr := [(a_kind, .inl (y 0, 7, .inl f_kind)), (a_rows, .inl (y 0, 28, .inl f_rows))]) (zrunV (As := [.int n2, .int 0, .int 9]) (rest := []) ⟨hx, hb, hml, hown, ht⟩ (zd_X10_in_x_0_9 l D y a_this (.int p_windows) w_minutes w_wet w_comes w_side w_herFloor w_herRoom (.ref a_kind) w_v w_floor w_room w_takes (.ref a_rows) w_isShut w_houses w_the w_fed w_at w_digits w_text w_clauses w_word w_number w_from w_to w_sign w_waits w_signs w_waiting w_open w_letters w_pile w_since w_rain w_shutAt w_ways w_path w_rounds w_round w_bestPath w_seen w_seenWho w_seenHarm w_books w_bookWho w_bookWhen w_hasImage w_imageThe w_imageWindows w_imageMinutes w_imageWet w_imageComes w_imageSide w_imageFloor w_imageRoom w_imageRounds w_imageSeen w_imageBooks w_imageKind w_imageV w_imageFloors w_imageRooms w_imageTakes w_imageRows w_imageRound w_imageWho w_imageHarm w_imageBookWho w_imageWhen w_imageShut w_ran w_bodies w_sort w_length w_item w_aside n2) (cwV 3 ht (zgV zm_240 zm_241 zm_242 zm_5 zm_243) rfl rfl rfl (by decide +kernel) ⟨(Nat.le_of_ble_eq_true rfl), (Nat.le_of_ble_eq_true rfl)⟩) hK hE hS hA hW [0] (by decide) rfl 0 rfl rfl rfl rfl hl.1 rfl (Nat.le_of_ble_eq_true rfl) dX10_row_25 (Nat.le_of_ble_eq_true rfl) (Nat.le_of_ble_eq_true rfl)) hS hA hW [0] [1, 2] rfl rfl (by decide) (by decide) (fun r25_ u H locs hw hW hS => ?_)
          replace hW : zPD D A [(a_this, .inr (9, [.int p_windows, w_minutes, w_wet, w_comes, w_side, w_herFloor, w_herRoom, .ref a_kind, w_v, w_floor, w_room, w_takes, .ref a_rows, w_isShut, w_houses, w_the, w_fed, w_at, w_digits, w_text, w_clauses, w_word, w_number, w_from, w_to, w_sign, w_waits, w_signs, w_waiting, w_open, w_letters, w_pile, w_since, w_rain, w_shutAt, w_ways, w_path, w_rounds, w_round, w_bestPath, w_seen, w_seenWho, w_seenHarm, w_books, w_bookWho, w_bookWhen, w_hasImage, w_imageThe, w_imageWindows, w_imageMinutes, w_imageWet, w_imageComes, w_imageSide, w_imageFloor, w_imageRoom, w_imageRounds, w_imageSeen, w_imageBooks, w_imageKind, w_imageV, w_imageFloors, w_imageRooms, w_imageTakes, w_imageRows, w_imageRound, w_imageWho, w_imageHarm, w_imageBookWho, w_imageWhen, w_imageShut, w_ran, w_bodies, w_sort, w_length, w_item, w_aside])), (a_kind, .inl (y 0, 7, .inl f_kind)), (a_rows, .inl (y 0, 28, .inl f_rows))] H := hW.sub [2, 0, 1] (by decide) rfl
          replace hw : (r25_ = (if n2 < 0 then 0 else (if 9 < n2 then 0 else 1))) ∧ True := hw
          obtain ⟨hw, -⟩ := hw
          by_cases c26_ : n2 < 0
          · have b27_ : (-2147483648) ≤ Int32.toInt n2 ∧ Int32.toInt n2 ≤ (-1) := zr_lt_l (-1) c26_ (zbnd n2) (show 0 ≤ Int32.toInt 0 ∧ Int32.toInt 0 ≤ 0 from (by decide)) (by decide)
            rw [if_pos c26_] at hw
            subst r25_
            refine lv_if_ne (tgt := 34) hx hb dX10_row_28 (by decide) (fun c28_ => absurd (by decide) c28_) (fun c28_ => ?_)
            refine lv_bipush (v := (-2)) hx hb dX10_row_31 (by decide) ?_
            exact zret_i (v := (-2)) hx hb hr hlocks hS f_rows ⟨(by show _ = _; rw [if_neg c2_, if_neg c8_, if_neg c16_, if_neg c20_, if_pos c26_]), hf_rows, trivial⟩ hW (Nat.le_of_ble_eq_true rfl) (Nat.le_of_ble_eq_true rfl) dX10_row_33
          · have b29_ : 0 ≤ Int32.toInt n2 ∧ Int32.toInt n2 ≤ 2147483647 := zr_nlt_l 0 c26_ (zbnd n2) (show 0 ≤ Int32.toInt 0 ∧ Int32.toInt 0 ≤ 0 from (by decide)) (by decide)
            rw [if_neg c26_] at hw
            by_cases c30_ : 9 < n2
            · have b31_ : 10 ≤ Int32.toInt n2 ∧ Int32.toInt n2 ≤ 2147483647 := zr_lt_r 10 c30_ b29_ (show 9 ≤ Int32.toInt 9 ∧ Int32.toInt 9 ≤ 9 from (by decide)) (by decide)
              rw [if_pos c30_] at hw
              subst r25_
              refine lv_if_ne (tgt := 34) hx hb dX10_row_28 (by decide) (fun c32_ => absurd (by decide) c32_) (fun c32_ => ?_)
              refine lv_bipush (v := (-2)) hx hb dX10_row_31 (by decide) ?_
              exact zret_i (v := (-2)) hx hb hr hlocks hS f_rows ⟨(by show _ = _; rw [if_neg c2_, if_neg c8_, if_neg c16_, if_neg c20_, if_neg c26_, if_pos c30_]), hf_rows, trivial⟩ hW (Nat.le_of_ble_eq_true rfl) (Nat.le_of_ble_eq_true rfl) dX10_row_33
            · have b33_ : 0 ≤ Int32.toInt n2 ∧ Int32.toInt n2 ≤ 9 := zr_nlt_r 9 c30_ b29_ (show 9 ≤ Int32.toInt 9 ∧ Int32.toInt 9 ≤ 9 from (by decide)) (by decide)
              rw [if_neg c30_] at hw
              subst r25_
              refine lv_if_ne (tgt := 34) hx hb dX10_row_28 (by decide) (fun c34_ => ?_) (fun c34_ => absurd c34_ (by decide))
              refine lv_aload_n hx hb dX10_row_34 rfl (lv_at hl 0 rfl) ?_
              refine zget hx hb ht inlX10 hown hK hW 0 rfl rfl 7 (by decide) zm_147 rfl dX10_row_35 ?_
              refine lv_iload_n hx hb dX10_row_38 rfl (lv_at hl 1 rfl) ?_
              have b35_ : 0 ≤ Int32.toInt (f_kind (Int32.toNatClampNeg n0)) ∧ Int32.toInt (f_kind (Int32.toNatClampNeg n0)) ≤ 6 := hf_kind (Int32.toNatClampNeg n0)
              refine ziald (v := (f_kind (Int32.toNatClampNeg n0))) hx hb hK hW 1 rfl (zr_in b12_ (by decide) (by decide)) rfl dX10_row_39 ?_
              refine lv_bipush (v := 6) hx hb dX10_row_40 (by decide) ?_
              refine lv_icmp_eq (tgt := 48) hx hb dX10_row_42 (by decide) (fun c36_ => ?_) (fun c36_ => ?_)
              · have b37_ : 6 ≤ Int32.toInt (f_kind (Int32.toNatClampNeg n0)) ∧ Int32.toInt (f_kind (Int32.toNatClampNeg n0)) ≤ 6 := zr_eq_l c36_ (show 6 ≤ Int32.toInt 6 ∧ Int32.toInt 6 ≤ 6 from (by decide))
                refine lv_aload_n hx hb dX10_row_48 rfl (lv_at hl 0 rfl) ?_
                refine zget hx hb ht inlX10 hown hK hW 0 rfl rfl 12 (by decide) zm_152 rfl dX10_row_49 ?_
                refine lv_iconst (v := 4) hx hb dX10_row_52 (by decide) ?_
                refine lv_iload_n hx hb dX10_row_53 rfl (lv_at hl 1 rfl) ?_
                refine lv_imul hx hb dX10_row_54 ?_
                have q39_ : Int32.toInt (4 * n0) = 4 * Int32.toInt n0 := by have u0 := (show (4 : Int32).toInt = 4 from (by decide)); have u1 := b12_; have u2 := zmul 4 n0 (by rw [u0]; omega) (by rw [u0]; omega); rw [u0] at u2; omega
                have b38_ : 0 ≤ Int32.toInt (4 * n0) ∧ Int32.toInt (4 * n0) ≤ 24 := by have u0 := (show (4 : Int32).toInt = 4 from (by decide)); have u1 := b12_; omega
                refine lv_iload_n hx hb dX10_row_55 rfl (lv_at hl 2 rfl) ?_
                refine lv_iadd hx hb dX10_row_56 ?_
                obtain ⟨q41_, b40_⟩ : (Int32.toInt ((4 * n0) + n1) = Int32.toInt (4 * n0) + Int32.toInt n1) ∧ (0 ≤ Int32.toInt ((4 * n0) + n1) ∧ Int32.toInt ((4 * n0) + n1) ≤ 27) := zadd_r (4 * n0) n1 0 27 b38_ b23_ (by decide) (by decide) (by decide) (by decide)
                have b42_ : 0 ≤ Int32.toInt (f_rows (Int32.toNatClampNeg ((4 * n0) + n1))) ∧ Int32.toInt (f_rows (Int32.toNatClampNeg ((4 * n0) + n1))) ≤ 9 := hf_rows (Int32.toNatClampNeg ((4 * n0) + n1))
                refine ziald (v := (f_rows (Int32.toNatClampNeg ((4 * n0) + n1)))) hx hb hK hW 2 rfl (zr_in b40_ (by decide) (by decide)) rfl dX10_row_57 ?_
                refine lv_istore (lv' := [(4, .int (f_rows (Int32.toNatClampNeg ((4 * n0) + n1)))), (0, .ref a_this), (1, .int n0), (2, .int n1), (3, .int n2)]) hx hb dX10_row_58 hl (by decide) rfl (fun ls hl => ?_)
                refine lv_aload_n hx hb dX10_row_60 rfl (lv_at hl 1 rfl) ?_
                refine zget hx hb ht inlX10 hown hK hW 0 rfl rfl 12 (by decide) zm_152 rfl dX10_row_61 ?_
                refine lv_iconst (v := 4) hx hb dX10_row_64 (by decide) ?_
                refine lv_iload_n hx hb dX10_row_65 rfl (lv_at hl 2 rfl) ?_
                refine lv_imul hx hb dX10_row_66 ?_
                refine lv_iload_n hx hb dX10_row_67 rfl (lv_at hl 3 rfl) ?_
                refine lv_iadd hx hb dX10_row_68 ?_
                refine lv_iload_n hx hb dX10_row_69 rfl (lv_at hl 4 rfl) ?_
                refine ziastN (ws' := fun g43_ => [(a_this, .inr (9, [.int p_windows, w_minutes, w_wet, w_comes, w_side, w_herFloor, w_herRoom, .ref a_kind, w_v, w_floor, w_room, w_takes, .ref a_rows, w_isShut, w_houses, w_the, w_fed, w_at, w_digits, w_text, w_clauses, w_word, w_number, w_from, w_to, w_sign, w_waits, w_signs, w_waiting, w_open, w_letters, w_pile, w_since, w_rain, w_shutAt, w_ways, w_path, w_rounds, w_round, w_bestPath, w_seen, w_seenWho, w_seenHarm, w_books, w_bookWho, w_bookWhen, w_hasImage, w_imageThe, w_imageWindows, w_imageMinutes, w_imageWet, w_imageComes, w_imageSide, w_imageFloor, w_imageRoom, w_imageRounds, w_imageSeen, w_imageBooks, w_imageKind, w_imageV, w_imageFloors, w_imageRooms, w_imageTakes, w_imageRows, w_imageRound, w_imageWho, w_imageHarm, w_imageBookWho, w_imageWhen, w_imageShut, w_ran, w_bodies, w_sort, w_length, w_item, w_aside])), (a_kind, .inl (y 0, 7, .inl f_kind)), (a_rows, .inl (y 0, 28, .inl g43_))]) hx hb hK hS hW 2 rfl (zr_in b40_ (by decide) (by decide)) (fun _ => rfl) dX10_row_70 (fun g43_ H locs eg43_ hW hS => ?_)
                have b44_ : ∀ j_, 0 ≤ Int32.toInt (g43_ j_) ∧ Int32.toInt (g43_ j_) ≤ 9 := zall_upd eg43_ hf_rows (zr_wide b33_ (by decide) (by decide))
                refine lv_iload hx hb dX10_row_71 (lv_at hl 0 rfl) ?_
                exact zret_i (v := (f_rows (Int32.toNatClampNeg ((4 * n0) + n1)))) hx hb hr hlocks hS g43_ ⟨(by show _ = _; rw [if_neg c2_, if_neg c8_, if_neg c16_, if_neg c20_, if_neg c26_, if_neg c30_, if_pos c36_]), b44_, trivial⟩ hW (Nat.le_of_ble_eq_true rfl) (Nat.le_of_ble_eq_true rfl) dX10_row_73
              · have b45_ : 0 ≤ Int32.toInt (f_kind (Int32.toNatClampNeg n0)) ∧ Int32.toInt (f_kind (Int32.toNatClampNeg n0)) ≤ 5 := (by have u0 := b35_; have u1 := (not_congr (zi_eq _ _)).mp c36_; have u2 := (show 6 ≤ Int32.toInt 6 ∧ Int32.toInt 6 ≤ 6 from (by decide)); omega)
                refine lv_bipush (v := (-3)) hx hb dX10_row_45 (by decide) ?_
                exact zret_i (v := (-3)) hx hb hr hlocks hS f_rows ⟨(by show _ = _; rw [if_neg c2_, if_neg c8_, if_neg c16_, if_neg c20_, if_neg c26_, if_neg c30_, if_neg c36_]), hf_rows, trivial⟩ hW (Nat.le_of_ble_eq_true rfl) (Nat.le_of_ble_eq_true rfl) dX10_row_47
set_option maxHeartbeats 8000000 in
set_option maxRecDepth 100000 in
theorem zd_X10_in_x_0_99 (l : Launch) (D : va_G) (y : Nat → ClassId) (a_this : Nat) (w_windows : Value) (w_minutes : Value) (w_wet : Value) (w_comes : Value) (w_side : Value) (w_herFloor : Value) (w_herRoom : Value) (w_kind : Value) (w_v : Value) (w_floor : Value) (w_room : Value) (w_takes : Value) (w_rows : Value) (w_isShut : Value) (w_houses : Value) (w_the : Value) (w_fed : Value) (w_at : Value) (w_digits : Value) (w_text : Value) (w_clauses : Value) (w_word : Value) (w_number : Value) (w_from : Value) (w_to : Value) (w_sign : Value) (w_waits : Value) (w_signs : Value) (w_waiting : Value) (w_open : Value) (w_letters : Value) (w_pile : Value) (w_since : Value) (w_rain : Value) (w_shutAt : Value) (w_ways : Value) (w_path : Value) (w_rounds : Value) (w_round : Value) (w_bestPath : Value) (w_seen : Value) (w_seenWho : Value) (w_seenHarm : Value) (w_books : Value) (w_bookWho : Value) (w_bookWhen : Value) (w_hasImage : Value) (w_imageThe : Value) (w_imageWindows : Value) (w_imageMinutes : Value) (w_imageWet : Value) (w_imageComes : Value) (w_imageSide : Value) (w_imageFloor : Value) (w_imageRoom : Value) (w_imageRounds : Value) (w_imageSeen : Value) (w_imageBooks : Value) (w_imageKind : Value) (w_imageV : Value) (w_imageFloors : Value) (w_imageRooms : Value) (w_imageTakes : Value) (w_imageRows : Value) (w_imageRound : Value) (w_imageWho : Value) (w_imageHarm : Value) (w_imageBookWho : Value) (w_imageWhen : Value) (w_imageShut : Value) (w_ran : Value) (w_bodies : Value) (w_sort : Value) (w_length : Value) (w_item : Value) (w_aside : Value) (n0 : Int32) : zM l D y yX10_in (Cond.code yX10_in cX10_in 4 (some .boolean) :: zT) { frames := 0, cells := 0, slots := 0, locals := 0 } [.ref a_this, .int n0, .int 0, .int 99] [(a_this, .inr (9, [w_windows, w_minutes, w_wet, w_comes, w_side, w_herFloor, w_herRoom, w_kind, w_v, w_floor, w_room, w_takes, w_rows, w_isShut, w_houses, w_the, w_fed, w_at, w_digits, w_text, w_clauses, w_word, w_number, w_from, w_to, w_sign, w_waits, w_signs, w_waiting, w_open, w_letters, w_pile, w_since, w_rain, w_shutAt, w_ways, w_path, w_rounds, w_round, w_bestPath, w_seen, w_seenWho, w_seenHarm, w_books, w_bookWho, w_bookWhen, w_hasImage, w_imageThe, w_imageWindows, w_imageMinutes, w_imageWet, w_imageComes, w_imageSide, w_imageFloor, w_imageRoom, w_imageRounds, w_imageSeen, w_imageBooks, w_imageKind, w_imageV, w_imageFloors, w_imageRooms, w_imageTakes, w_imageRows, w_imageRound, w_imageWho, w_imageHarm, w_imageBookWho, w_imageWhen, w_imageShut, w_ran, w_bodies, w_sort, w_length, w_item, w_aside]))] (zQi (S := Unit) D (fun r_ _ => (r_ = (if n0 < 0 then 0 else (if 99 < n0 then 0 else 1))) ∧ True) (fun _ => [(a_this, .inr (9, [w_windows, w_minutes, w_wet, w_comes, w_side, w_herFloor, w_herRoom, w_kind, w_v, w_floor, w_room, w_takes, w_rows, w_isShut, w_houses, w_the, w_fed, w_at, w_digits, w_text, w_clauses, w_word, w_number, w_from, w_to, w_sign, w_waits, w_signs, w_waiting, w_open, w_letters, w_pile, w_since, w_rain, w_shutAt, w_ways, w_path, w_rounds, w_round, w_bestPath, w_seen, w_seenWho, w_seenHarm, w_books, w_bookWho, w_bookWhen, w_hasImage, w_imageThe, w_imageWindows, w_imageMinutes, w_imageWet, w_imageComes, w_imageSide, w_imageFloor, w_imageRoom, w_imageRounds, w_imageSeen, w_imageBooks, w_imageKind, w_imageV, w_imageFloors, w_imageRooms, w_imageTakes, w_imageRows, w_imageRound, w_imageWho, w_imageHarm, w_imageBookWho, w_imageWhen, w_imageShut, w_ran, w_bodies, w_sort, w_length, w_item, w_aside]))])) := by
  refine zent (cc := cX10_in) (maxL := 4) (ret := (some .boolean)) (by decide) (Nat.le_of_ble_eq_true rfl) ?_
  intro p e s m below meth c A H locs ls hx hb hml hr ht hown hlocks hin hA hK hE hS hW hl
  replace hown : s.vm.findClass RX10 = some m.cls := hown
  replace hW : zPD D A [(a_this, .inr (9, [w_windows, w_minutes, w_wet, w_comes, w_side, w_herFloor, w_herRoom, w_kind, w_v, w_floor, w_room, w_takes, w_rows, w_isShut, w_houses, w_the, w_fed, w_at, w_digits, w_text, w_clauses, w_word, w_number, w_from, w_to, w_sign, w_waits, w_signs, w_waiting, w_open, w_letters, w_pile, w_since, w_rain, w_shutAt, w_ways, w_path, w_rounds, w_round, w_bestPath, w_seen, w_seenWho, w_seenHarm, w_books, w_bookWho, w_bookWhen, w_hasImage, w_imageThe, w_imageWindows, w_imageMinutes, w_imageWet, w_imageComes, w_imageSide, w_imageFloor, w_imageRoom, w_imageRounds, w_imageSeen, w_imageBooks, w_imageKind, w_imageV, w_imageFloors, w_imageRooms, w_imageTakes, w_imageRows, w_imageRound, w_imageWho, w_imageHarm, w_imageBookWho, w_imageWhen, w_imageShut, w_ran, w_bodies, w_sort, w_length, w_item, w_aside]))] H := hW
  replace hl : lv_has ls 4 [(0, .ref a_this), (1, .int n0), (2, .int 0), (3, .int 99)] := hl
  refine lv_iload_n hx hb dX10_in_0 rfl (lv_at hl 1 rfl) ?_
  refine lv_iload_n hx hb dX10_in_1 rfl (lv_at hl 2 rfl) ?_
  refine lv_icmp_lt (tgt := 14) hx hb dX10_in_2 (by decide) (fun c1_ => ?_) (fun c1_ => ?_)
  · have b2_ : (-2147483648) ≤ Int32.toInt n0 ∧ Int32.toInt n0 ≤ (-1) := zr_lt_l (-1) c1_ (zbnd n0) (show 0 ≤ Int32.toInt 0 ∧ Int32.toInt 0 ≤ 0 from (by decide)) (by decide)
    refine lv_iconst (v := 0) hx hb dX10_in_14 (by decide) ?_
    exact zret_z (v := 0) hx hb hr hlocks hS () rfl ⟨(by show _ = _; rw [if_pos c1_]), trivial⟩ hW (Nat.le_of_ble_eq_true rfl) (Nat.le_of_ble_eq_true rfl) dX10_in_15
  · have b3_ : 0 ≤ Int32.toInt n0 ∧ Int32.toInt n0 ≤ 2147483647 := zr_nlt_l 0 c1_ (zbnd n0) (show 0 ≤ Int32.toInt 0 ∧ Int32.toInt 0 ≤ 0 from (by decide)) (by decide)
    refine lv_iload_n hx hb dX10_in_5 rfl (lv_at hl 1 rfl) ?_
    refine lv_iload_n hx hb dX10_in_6 rfl (lv_at hl 3 rfl) ?_
    refine lv_icmp_gt (tgt := 14) hx hb dX10_in_7 (by decide) (fun c4_ => ?_) (fun c4_ => ?_)
    · have b5_ : 100 ≤ Int32.toInt n0 ∧ Int32.toInt n0 ≤ 2147483647 := zr_lt_r 100 c4_ b3_ (show 99 ≤ Int32.toInt 99 ∧ Int32.toInt 99 ≤ 99 from (by decide)) (by decide)
      refine lv_iconst (v := 0) hx hb dX10_in_14 (by decide) ?_
      exact zret_z (v := 0) hx hb hr hlocks hS () rfl ⟨(by show _ = _; rw [if_neg c1_, if_pos c4_]), trivial⟩ hW (Nat.le_of_ble_eq_true rfl) (Nat.le_of_ble_eq_true rfl) dX10_in_15
    · have b6_ : 0 ≤ Int32.toInt n0 ∧ Int32.toInt n0 ≤ 99 := zr_nlt_r 99 c4_ b3_ (show 99 ≤ Int32.toInt 99 ∧ Int32.toInt 99 ≤ 99 from (by decide)) (by decide)
      refine lv_iconst (v := 1) hx hb dX10_in_10 (by decide) ?_
      refine lv_goto (tgt := 15) hx hb dX10_in_11 (by decide) ?_
      exact zret_z (v := 1) hx hb hr hlocks hS () rfl ⟨(by show _ = _; rw [if_neg c1_, if_neg c4_]), trivial⟩ hW (Nat.le_of_ble_eq_true rfl) (Nat.le_of_ble_eq_true rfl) dX10_in_15
set_option maxHeartbeats 8000000 in
set_option maxRecDepth 100000 in
theorem zd_X10_storm_x_x (l : Launch) (D : va_G) (y : Nat → ClassId) (a_this : Nat) (w_windows : Value) (w_minutes : Value) (w_wet : Value) (p_comes : Int32) (p_side : Int32) (w_herFloor : Value) (w_herRoom : Value) (w_kind : Value) (w_v : Value) (w_floor : Value) (w_room : Value) (w_takes : Value) (w_rows : Value) (w_isShut : Value) (w_houses : Value) (w_the : Value) (w_fed : Value) (w_at : Value) (w_digits : Value) (w_text : Value) (w_clauses : Value) (w_word : Value) (w_number : Value) (w_from : Value) (w_to : Value) (w_sign : Value) (w_waits : Value) (w_signs : Value) (w_waiting : Value) (w_open : Value) (w_letters : Value) (w_pile : Value) (w_since : Value) (w_rain : Value) (w_shutAt : Value) (w_ways : Value) (w_path : Value) (w_rounds : Value) (w_round : Value) (w_bestPath : Value) (w_seen : Value) (w_seenWho : Value) (w_seenHarm : Value) (w_books : Value) (w_bookWho : Value) (w_bookWhen : Value) (w_hasImage : Value) (w_imageThe : Value) (w_imageWindows : Value) (w_imageMinutes : Value) (w_imageWet : Value) (w_imageComes : Value) (w_imageSide : Value) (w_imageFloor : Value) (w_imageRoom : Value) (w_imageRounds : Value) (w_imageSeen : Value) (w_imageBooks : Value) (w_imageKind : Value) (w_imageV : Value) (w_imageFloors : Value) (w_imageRooms : Value) (w_imageTakes : Value) (w_imageRows : Value) (w_imageRound : Value) (w_imageWho : Value) (w_imageHarm : Value) (w_imageBookWho : Value) (w_imageWhen : Value) (w_imageShut : Value) (w_ran : Value) (w_bodies : Value) (w_sort : Value) (w_length : Value) (w_item : Value) (w_aside : Value) (n0 : Int32) (n1 : Int32) (hp_comes : 0 ≤ Int32.toInt p_comes ∧ Int32.toInt p_comes ≤ 99) (hp_side : 0 ≤ Int32.toInt p_side ∧ Int32.toInt p_side ≤ 3) : zM l D y yX10_storm (Cond.code yX10_storm cX10_storm 4 (some .int) :: zT) { frames := 1, cells := 0, slots := 0, locals := 23 } [.ref a_this, .int n0, .int n1] [(a_this, .inr (9, [w_windows, w_minutes, w_wet, .int p_comes, .int p_side, w_herFloor, w_herRoom, w_kind, w_v, w_floor, w_room, w_takes, w_rows, w_isShut, w_houses, w_the, w_fed, w_at, w_digits, w_text, w_clauses, w_word, w_number, w_from, w_to, w_sign, w_waits, w_signs, w_waiting, w_open, w_letters, w_pile, w_since, w_rain, w_shutAt, w_ways, w_path, w_rounds, w_round, w_bestPath, w_seen, w_seenWho, w_seenHarm, w_books, w_bookWho, w_bookWhen, w_hasImage, w_imageThe, w_imageWindows, w_imageMinutes, w_imageWet, w_imageComes, w_imageSide, w_imageFloor, w_imageRoom, w_imageRounds, w_imageSeen, w_imageBooks, w_imageKind, w_imageV, w_imageFloors, w_imageRooms, w_imageTakes, w_imageRows, w_imageRound, w_imageWho, w_imageHarm, w_imageBookWho, w_imageWhen, w_imageShut, w_ran, w_bodies, w_sort, w_length, w_item, w_aside]))] (zQi (S := Int32 × Int32) D (fun r_ z_ => match z_ with | (x_comes_, x_side_) => (r_ = (if n1 < 0 then (-1) else (if 3 < n1 then (-1) else (if n0 < 0 then (-2) else (if 99 < n0 then (-2) else p_comes))))) ∧ (0 ≤ Int32.toInt x_comes_ ∧ Int32.toInt x_comes_ ≤ 99) ∧ (0 ≤ Int32.toInt x_side_ ∧ Int32.toInt x_side_ ≤ 3) ∧ True) (fun z_ => match z_ with | (x_comes_, x_side_) => [(a_this, .inr (9, [w_windows, w_minutes, w_wet, .int x_comes_, .int x_side_, w_herFloor, w_herRoom, w_kind, w_v, w_floor, w_room, w_takes, w_rows, w_isShut, w_houses, w_the, w_fed, w_at, w_digits, w_text, w_clauses, w_word, w_number, w_from, w_to, w_sign, w_waits, w_signs, w_waiting, w_open, w_letters, w_pile, w_since, w_rain, w_shutAt, w_ways, w_path, w_rounds, w_round, w_bestPath, w_seen, w_seenWho, w_seenHarm, w_books, w_bookWho, w_bookWhen, w_hasImage, w_imageThe, w_imageWindows, w_imageMinutes, w_imageWet, w_imageComes, w_imageSide, w_imageFloor, w_imageRoom, w_imageRounds, w_imageSeen, w_imageBooks, w_imageKind, w_imageV, w_imageFloors, w_imageRooms, w_imageTakes, w_imageRows, w_imageRound, w_imageWho, w_imageHarm, w_imageBookWho, w_imageWhen, w_imageShut, w_ran, w_bodies, w_sort, w_length, w_item, w_aside]))])) := by
  refine zent (cc := cX10_storm) (maxL := 4) (ret := (some .int)) (by decide) (Nat.le_of_ble_eq_true rfl) ?_
  intro p e s m below meth c A H locs ls hx hb hml hr ht hown hlocks hin hA hK hE hS hW hl
  replace hown : s.vm.findClass RX10 = some m.cls := hown
  replace hW : zPD D A [(a_this, .inr (9, [w_windows, w_minutes, w_wet, .int p_comes, .int p_side, w_herFloor, w_herRoom, w_kind, w_v, w_floor, w_room, w_takes, w_rows, w_isShut, w_houses, w_the, w_fed, w_at, w_digits, w_text, w_clauses, w_word, w_number, w_from, w_to, w_sign, w_waits, w_signs, w_waiting, w_open, w_letters, w_pile, w_since, w_rain, w_shutAt, w_ways, w_path, w_rounds, w_round, w_bestPath, w_seen, w_seenWho, w_seenHarm, w_books, w_bookWho, w_bookWhen, w_hasImage, w_imageThe, w_imageWindows, w_imageMinutes, w_imageWet, w_imageComes, w_imageSide, w_imageFloor, w_imageRoom, w_imageRounds, w_imageSeen, w_imageBooks, w_imageKind, w_imageV, w_imageFloors, w_imageRooms, w_imageTakes, w_imageRows, w_imageRound, w_imageWho, w_imageHarm, w_imageBookWho, w_imageWhen, w_imageShut, w_ran, w_bodies, w_sort, w_length, w_item, w_aside]))] H := hW
  replace hl : lv_has ls 4 [(0, .ref a_this), (1, .int n0), (2, .int n1)] := hl
  refine lv_aload_n hx hb dX10_storm_0 rfl (lv_at hl 0 rfl) ?_
  refine lv_iload_n hx hb dX10_storm_1 rfl (lv_at hl 2 rfl) ?_
  refine lv_iconst (v := 0) hx hb dX10_storm_2 (by decide) ?_
  refine lv_iconst (v := 3) hx hb dX10_storm_3 (by decide) ?_
  refine zgo_i (wr := []) (zrunV (As := [.int n1, .int 0, .int 3]) (rest := []) ⟨hx, hb, hml, hown, ht⟩ (zd_X10_in_x_0_3 l D y a_this w_windows w_minutes w_wet (.int p_comes) (.int p_side) w_herFloor w_herRoom w_kind w_v w_floor w_room w_takes w_rows w_isShut w_houses w_the w_fed w_at w_digits w_text w_clauses w_word w_number w_from w_to w_sign w_waits w_signs w_waiting w_open w_letters w_pile w_since w_rain w_shutAt w_ways w_path w_rounds w_round w_bestPath w_seen w_seenWho w_seenHarm w_books w_bookWho w_bookWhen w_hasImage w_imageThe w_imageWindows w_imageMinutes w_imageWet w_imageComes w_imageSide w_imageFloor w_imageRoom w_imageRounds w_imageSeen w_imageBooks w_imageKind w_imageV w_imageFloors w_imageRooms w_imageTakes w_imageRows w_imageRound w_imageWho w_imageHarm w_imageBookWho w_imageWhen w_imageShut w_ran w_bodies w_sort w_length w_item w_aside n1) (cwV 3 ht (zgV zm_240 zm_241 zm_242 zm_5 zm_243) rfl rfl rfl (by decide +kernel) ⟨(Nat.le_of_ble_eq_true rfl), (Nat.le_of_ble_eq_true rfl)⟩) hK hE hS hA hW [0] (by decide) rfl 0 rfl rfl rfl rfl hl.1 rfl (Nat.le_of_ble_eq_true rfl) dX10_storm_4 (Nat.le_of_ble_eq_true rfl) (Nat.le_of_ble_eq_true rfl)) hS hA hW [0] [] rfl rfl (by decide) (by decide) (fun r1_ u H locs hw hW hS => ?_)
  replace hW : zPD D A [(a_this, .inr (9, [w_windows, w_minutes, w_wet, .int p_comes, .int p_side, w_herFloor, w_herRoom, w_kind, w_v, w_floor, w_room, w_takes, w_rows, w_isShut, w_houses, w_the, w_fed, w_at, w_digits, w_text, w_clauses, w_word, w_number, w_from, w_to, w_sign, w_waits, w_signs, w_waiting, w_open, w_letters, w_pile, w_since, w_rain, w_shutAt, w_ways, w_path, w_rounds, w_round, w_bestPath, w_seen, w_seenWho, w_seenHarm, w_books, w_bookWho, w_bookWhen, w_hasImage, w_imageThe, w_imageWindows, w_imageMinutes, w_imageWet, w_imageComes, w_imageSide, w_imageFloor, w_imageRoom, w_imageRounds, w_imageSeen, w_imageBooks, w_imageKind, w_imageV, w_imageFloors, w_imageRooms, w_imageTakes, w_imageRows, w_imageRound, w_imageWho, w_imageHarm, w_imageBookWho, w_imageWhen, w_imageShut, w_ran, w_bodies, w_sort, w_length, w_item, w_aside]))] H := hW
  replace hw : (r1_ = (if n1 < 0 then 0 else (if 3 < n1 then 0 else 1))) ∧ True := hw
  obtain ⟨hw, -⟩ := hw
  by_cases c2_ : n1 < 0
  · have b3_ : (-2147483648) ≤ Int32.toInt n1 ∧ Int32.toInt n1 ≤ (-1) := zr_lt_l (-1) c2_ (zbnd n1) (show 0 ≤ Int32.toInt 0 ∧ Int32.toInt 0 ≤ 0 from (by decide)) (by decide)
    rw [if_pos c2_] at hw
    subst r1_
    refine lv_if_ne (tgt := 12) hx hb dX10_storm_7 (by decide) (fun c4_ => absurd (by decide) c4_) (fun c4_ => ?_)
    refine lv_iconst (v := (-1)) hx hb dX10_storm_10 (by decide) ?_
    exact zret_i (v := (-1)) hx hb hr hlocks hS (p_comes, p_side) ⟨(by show _ = _; rw [if_pos c2_]), (zr_wide hp_comes (by decide) (by decide)), (zr_wide hp_side (by decide) (by decide)), trivial⟩ hW (Nat.le_of_ble_eq_true rfl) (Nat.le_of_ble_eq_true rfl) dX10_storm_11
  · have b5_ : 0 ≤ Int32.toInt n1 ∧ Int32.toInt n1 ≤ 2147483647 := zr_nlt_l 0 c2_ (zbnd n1) (show 0 ≤ Int32.toInt 0 ∧ Int32.toInt 0 ≤ 0 from (by decide)) (by decide)
    rw [if_neg c2_] at hw
    by_cases c6_ : 3 < n1
    · have b7_ : 4 ≤ Int32.toInt n1 ∧ Int32.toInt n1 ≤ 2147483647 := zr_lt_r 4 c6_ b5_ (show 3 ≤ Int32.toInt 3 ∧ Int32.toInt 3 ≤ 3 from (by decide)) (by decide)
      rw [if_pos c6_] at hw
      subst r1_
      refine lv_if_ne (tgt := 12) hx hb dX10_storm_7 (by decide) (fun c8_ => absurd (by decide) c8_) (fun c8_ => ?_)
      refine lv_iconst (v := (-1)) hx hb dX10_storm_10 (by decide) ?_
      exact zret_i (v := (-1)) hx hb hr hlocks hS (p_comes, p_side) ⟨(by show _ = _; rw [if_neg c2_, if_pos c6_]), (zr_wide hp_comes (by decide) (by decide)), (zr_wide hp_side (by decide) (by decide)), trivial⟩ hW (Nat.le_of_ble_eq_true rfl) (Nat.le_of_ble_eq_true rfl) dX10_storm_11
    · have b9_ : 0 ≤ Int32.toInt n1 ∧ Int32.toInt n1 ≤ 3 := zr_nlt_r 3 c6_ b5_ (show 3 ≤ Int32.toInt 3 ∧ Int32.toInt 3 ≤ 3 from (by decide)) (by decide)
      rw [if_neg c6_] at hw
      subst r1_
      refine lv_if_ne (tgt := 12) hx hb dX10_storm_7 (by decide) (fun c10_ => ?_) (fun c10_ => absurd c10_ (by decide))
      refine lv_aload_n hx hb dX10_storm_12 rfl (lv_at hl 0 rfl) ?_
      refine lv_iload_n hx hb dX10_storm_13 rfl (lv_at hl 1 rfl) ?_
      refine lv_iconst (v := 0) hx hb dX10_storm_14 (by decide) ?_
      refine lv_bipush (v := 99) hx hb dX10_storm_15 (by decide) ?_
      refine zgo_i (wr := []) (zrunV (As := [.int n0, .int 0, .int 99]) (rest := []) ⟨hx, hb, hml, hown, ht⟩ (zd_X10_in_x_0_99 l D y a_this w_windows w_minutes w_wet (.int p_comes) (.int p_side) w_herFloor w_herRoom w_kind w_v w_floor w_room w_takes w_rows w_isShut w_houses w_the w_fed w_at w_digits w_text w_clauses w_word w_number w_from w_to w_sign w_waits w_signs w_waiting w_open w_letters w_pile w_since w_rain w_shutAt w_ways w_path w_rounds w_round w_bestPath w_seen w_seenWho w_seenHarm w_books w_bookWho w_bookWhen w_hasImage w_imageThe w_imageWindows w_imageMinutes w_imageWet w_imageComes w_imageSide w_imageFloor w_imageRoom w_imageRounds w_imageSeen w_imageBooks w_imageKind w_imageV w_imageFloors w_imageRooms w_imageTakes w_imageRows w_imageRound w_imageWho w_imageHarm w_imageBookWho w_imageWhen w_imageShut w_ran w_bodies w_sort w_length w_item w_aside n0) (cwV 3 ht (zgV zm_240 zm_241 zm_242 zm_5 zm_243) rfl rfl rfl (by decide +kernel) ⟨(Nat.le_of_ble_eq_true rfl), (Nat.le_of_ble_eq_true rfl)⟩) hK hE hS hA hW [0] (by decide) rfl 0 rfl rfl rfl rfl hl.1 rfl (Nat.le_of_ble_eq_true rfl) dX10_storm_17 (Nat.le_of_ble_eq_true rfl) (Nat.le_of_ble_eq_true rfl)) hS hA hW [0] [] rfl rfl (by decide) (by decide) (fun r11_ u H locs hw hW hS => ?_)
      replace hW : zPD D A [(a_this, .inr (9, [w_windows, w_minutes, w_wet, .int p_comes, .int p_side, w_herFloor, w_herRoom, w_kind, w_v, w_floor, w_room, w_takes, w_rows, w_isShut, w_houses, w_the, w_fed, w_at, w_digits, w_text, w_clauses, w_word, w_number, w_from, w_to, w_sign, w_waits, w_signs, w_waiting, w_open, w_letters, w_pile, w_since, w_rain, w_shutAt, w_ways, w_path, w_rounds, w_round, w_bestPath, w_seen, w_seenWho, w_seenHarm, w_books, w_bookWho, w_bookWhen, w_hasImage, w_imageThe, w_imageWindows, w_imageMinutes, w_imageWet, w_imageComes, w_imageSide, w_imageFloor, w_imageRoom, w_imageRounds, w_imageSeen, w_imageBooks, w_imageKind, w_imageV, w_imageFloors, w_imageRooms, w_imageTakes, w_imageRows, w_imageRound, w_imageWho, w_imageHarm, w_imageBookWho, w_imageWhen, w_imageShut, w_ran, w_bodies, w_sort, w_length, w_item, w_aside]))] H := hW
      replace hw : (r11_ = (if n0 < 0 then 0 else (if 99 < n0 then 0 else 1))) ∧ True := hw
      obtain ⟨hw, -⟩ := hw
      by_cases c12_ : n0 < 0
      · have b13_ : (-2147483648) ≤ Int32.toInt n0 ∧ Int32.toInt n0 ≤ (-1) := zr_lt_l (-1) c12_ (zbnd n0) (show 0 ≤ Int32.toInt 0 ∧ Int32.toInt 0 ≤ 0 from (by decide)) (by decide)
        rw [if_pos c12_] at hw
        subst r11_
        refine lv_if_ne (tgt := 26) hx hb dX10_storm_20 (by decide) (fun c14_ => absurd (by decide) c14_) (fun c14_ => ?_)
        refine lv_bipush (v := (-2)) hx hb dX10_storm_23 (by decide) ?_
        exact zret_i (v := (-2)) hx hb hr hlocks hS (p_comes, p_side) ⟨(by show _ = _; rw [if_neg c2_, if_neg c6_, if_pos c12_]), (zr_wide hp_comes (by decide) (by decide)), (zr_wide hp_side (by decide) (by decide)), trivial⟩ hW (Nat.le_of_ble_eq_true rfl) (Nat.le_of_ble_eq_true rfl) dX10_storm_25
      · have b15_ : 0 ≤ Int32.toInt n0 ∧ Int32.toInt n0 ≤ 2147483647 := zr_nlt_l 0 c12_ (zbnd n0) (show 0 ≤ Int32.toInt 0 ∧ Int32.toInt 0 ≤ 0 from (by decide)) (by decide)
        rw [if_neg c12_] at hw
        by_cases c16_ : 99 < n0
        · have b17_ : 100 ≤ Int32.toInt n0 ∧ Int32.toInt n0 ≤ 2147483647 := zr_lt_r 100 c16_ b15_ (show 99 ≤ Int32.toInt 99 ∧ Int32.toInt 99 ≤ 99 from (by decide)) (by decide)
          rw [if_pos c16_] at hw
          subst r11_
          refine lv_if_ne (tgt := 26) hx hb dX10_storm_20 (by decide) (fun c18_ => absurd (by decide) c18_) (fun c18_ => ?_)
          refine lv_bipush (v := (-2)) hx hb dX10_storm_23 (by decide) ?_
          exact zret_i (v := (-2)) hx hb hr hlocks hS (p_comes, p_side) ⟨(by show _ = _; rw [if_neg c2_, if_neg c6_, if_neg c12_, if_pos c16_]), (zr_wide hp_comes (by decide) (by decide)), (zr_wide hp_side (by decide) (by decide)), trivial⟩ hW (Nat.le_of_ble_eq_true rfl) (Nat.le_of_ble_eq_true rfl) dX10_storm_25
        · have b19_ : 0 ≤ Int32.toInt n0 ∧ Int32.toInt n0 ≤ 99 := zr_nlt_r 99 c16_ b15_ (show 99 ≤ Int32.toInt 99 ∧ Int32.toInt 99 ≤ 99 from (by decide)) (by decide)
          rw [if_neg c16_] at hw
          subst r11_
          refine lv_if_ne (tgt := 26) hx hb dX10_storm_20 (by decide) (fun c20_ => ?_) (fun c20_ => absurd c20_ (by decide))
          refine lv_aload_n hx hb dX10_storm_26 rfl (lv_at hl 0 rfl) ?_
          refine zget hx hb ht inlX10 hown hK hW 0 rfl rfl 3 (by decide) zm_143 rfl dX10_storm_27 ?_
          refine lv_istore_n (lv' := [(3, .int p_comes), (0, .ref a_this), (1, .int n0), (2, .int n1)]) hx hb dX10_storm_30 rfl hl (by decide) rfl (fun ls hl => ?_)
          refine lv_aload_n hx hb dX10_storm_31 rfl (lv_at hl 1 rfl) ?_
          refine lv_iload_n hx hb dX10_storm_32 rfl (lv_at hl 2 rfl) ?_
          refine zput (ws' := [(a_this, .inr (9, [w_windows, w_minutes, w_wet, .int n0, .int p_side, w_herFloor, w_herRoom, w_kind, w_v, w_floor, w_room, w_takes, w_rows, w_isShut, w_houses, w_the, w_fed, w_at, w_digits, w_text, w_clauses, w_word, w_number, w_from, w_to, w_sign, w_waits, w_signs, w_waiting, w_open, w_letters, w_pile, w_since, w_rain, w_shutAt, w_ways, w_path, w_rounds, w_round, w_bestPath, w_seen, w_seenWho, w_seenHarm, w_books, w_bookWho, w_bookWhen, w_hasImage, w_imageThe, w_imageWindows, w_imageMinutes, w_imageWet, w_imageComes, w_imageSide, w_imageFloor, w_imageRoom, w_imageRounds, w_imageSeen, w_imageBooks, w_imageKind, w_imageV, w_imageFloors, w_imageRooms, w_imageTakes, w_imageRows, w_imageRound, w_imageWho, w_imageHarm, w_imageBookWho, w_imageWhen, w_imageShut, w_ran, w_bodies, w_sort, w_length, w_item, w_aside]))]) hx hb ht inlX10 tyX10 tyX10_ok nmX10 hown hK hS hW 0 rfl rfl 3 (by decide) zm_143 rfl rfl rfl (Nat.le_of_ble_eq_true rfl) rfl dX10_storm_33 (fun H locs hW hS => ?_)
          refine lv_aload_n hx hb dX10_storm_36 rfl (lv_at hl 1 rfl) ?_
          refine lv_iload_n hx hb dX10_storm_37 rfl (lv_at hl 3 rfl) ?_
          refine zput (ws' := [(a_this, .inr (9, [w_windows, w_minutes, w_wet, .int n0, .int n1, w_herFloor, w_herRoom, w_kind, w_v, w_floor, w_room, w_takes, w_rows, w_isShut, w_houses, w_the, w_fed, w_at, w_digits, w_text, w_clauses, w_word, w_number, w_from, w_to, w_sign, w_waits, w_signs, w_waiting, w_open, w_letters, w_pile, w_since, w_rain, w_shutAt, w_ways, w_path, w_rounds, w_round, w_bestPath, w_seen, w_seenWho, w_seenHarm, w_books, w_bookWho, w_bookWhen, w_hasImage, w_imageThe, w_imageWindows, w_imageMinutes, w_imageWet, w_imageComes, w_imageSide, w_imageFloor, w_imageRoom, w_imageRounds, w_imageSeen, w_imageBooks, w_imageKind, w_imageV, w_imageFloors, w_imageRooms, w_imageTakes, w_imageRows, w_imageRound, w_imageWho, w_imageHarm, w_imageBookWho, w_imageWhen, w_imageShut, w_ran, w_bodies, w_sort, w_length, w_item, w_aside]))]) hx hb ht inlX10 tyX10 tyX10_ok nmX10 hown hK hS hW 0 rfl rfl 4 (by decide) zm_144 rfl rfl rfl (Nat.le_of_ble_eq_true rfl) rfl dX10_storm_38 (fun H locs hW hS => ?_)
          refine lv_iload_n hx hb dX10_storm_41 rfl (lv_at hl 0 rfl) ?_
          exact zret_i (v := p_comes) hx hb hr hlocks hS (n0, n1) ⟨(by show _ = _; rw [if_neg c2_, if_neg c6_, if_neg c12_, if_neg c16_]), (zr_wide b19_ (by decide) (by decide)), (zr_wide b9_ (by decide) (by decide)), trivial⟩ hW (Nat.le_of_ble_eq_true rfl) (Nat.le_of_ble_eq_true rfl) dX10_storm_42

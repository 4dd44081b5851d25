theorem dX10_count_0 : decode cX10_count 0 = .ok (.iload_n 1, 1) := by decide +kernel
theorem dX10_count_1 : decode cX10_count 1 = .ok (.tableswitch 78 0 6 #[43, 48, 53, 58, 63, 68, 73], 43) := by decide +kernel
theorem dX10_count_44 : decode cX10_count 44 = .ok (.aload_n 0, 1) := by decide +kernel
theorem dX10_count_45 : decode cX10_count 45 = .ok (.getfield 7, 3) := by decide +kernel
theorem dX10_count_48 : decode cX10_count 48 = .ok (.ireturn, 1) := by decide +kernel
theorem dX10_count_49 : decode cX10_count 49 = .ok (.aload_n 0, 1) := by decide +kernel
theorem dX10_count_50 : decode cX10_count 50 = .ok (.getfield 54, 3) := by decide +kernel
theorem dX10_count_53 : decode cX10_count 53 = .ok (.ireturn, 1) := by decide +kernel
theorem dX10_count_54 : decode cX10_count 54 = .ok (.aload_n 0, 1) := by decide +kernel
theorem dX10_count_55 : decode cX10_count 55 = .ok (.getfield 123, 3) := by decide +kernel
theorem dX10_count_58 : decode cX10_count 58 = .ok (.ireturn, 1) := by decide +kernel
theorem dX10_count_59 : decode cX10_count 59 = .ok (.aload_n 0, 1) := by decide +kernel
theorem dX10_count_60 : decode cX10_count 60 = .ok (.getfield 132, 3) := by decide +kernel
theorem dX10_count_63 : decode cX10_count 63 = .ok (.ireturn, 1) := by decide +kernel
theorem dX10_count_64 : decode cX10_count 64 = .ok (.aload_n 0, 1) := by decide +kernel
theorem dX10_count_65 : decode cX10_count 65 = .ok (.getfield 141, 3) := by decide +kernel
theorem dX10_count_68 : decode cX10_count 68 = .ok (.ireturn, 1) := by decide +kernel
theorem dX10_count_69 : decode cX10_count 69 = .ok (.aload_n 0, 1) := by decide +kernel
theorem dX10_count_70 : decode cX10_count 70 = .ok (.getfield 60, 3) := by decide +kernel
theorem dX10_count_73 : decode cX10_count 73 = .ok (.ireturn, 1) := by decide +kernel
theorem dX10_count_74 : decode cX10_count 74 = .ok (.aload_n 0, 1) := by decide +kernel
theorem dX10_count_75 : decode cX10_count 75 = .ok (.getfield 223, 3) := by decide +kernel
theorem dX10_count_78 : decode cX10_count 78 = .ok (.ireturn, 1) := by decide +kernel
theorem dX10_count_79 : decode cX10_count 79 = .ok (.bipush (-2), 2) := by decide +kernel
theorem dX10_count_81 : decode cX10_count 81 = .ok (.ireturn, 1) := by decide +kernel
theorem dX10_item_0 : decode cX10_item 0 = .ok (.aload_n 0, 1) := by decide +kernel
theorem dX10_item_1 : decode cX10_item 1 = .ok (.iload_n 1, 1) := by decide +kernel
theorem dX10_item_10 : decode cX10_item 10 = .ok (.aload_n 0, 1) := by decide +kernel
theorem dX10_item_11 : decode cX10_item 11 = .ok (.getfield 229, 3) := by decide +kernel
theorem dX10_item_14 : decode cX10_item 14 = .ok (.iload_n 1, 1) := by decide +kernel
theorem dX10_item_15 : decode cX10_item 15 = .ok (.iaload, 1) := by decide +kernel
theorem dX10_item_16 : decode cX10_item 16 = .ok (.ifCond .ge 6, 3) := by decide +kernel
theorem dX10_item_19 : decode cX10_item 19 = .ok (.bipush (-11), 2) := by decide +kernel
theorem dX10_item_2 : decode cX10_item 2 = .ok (.invokevirtual 399, 3) := by decide +kernel
theorem dX10_item_21 : decode cX10_item 21 = .ok (.ireturn, 1) := by decide +kernel
theorem dX10_item_22 : decode cX10_item 22 = .ok (.aload_n 0, 1) := by decide +kernel
theorem dX10_item_23 : decode cX10_item 23 = .ok (.iload_n 2, 1) := by decide +kernel
theorem dX10_item_24 : decode cX10_item 24 = .ok (.iconst 0, 1) := by decide +kernel
theorem dX10_item_25 : decode cX10_item 25 = .ok (.aload_n 0, 1) := by decide +kernel
theorem dX10_item_26 : decode cX10_item 26 = .ok (.getfield 232, 3) := by decide +kernel
theorem dX10_item_29 : decode cX10_item 29 = .ok (.iload_n 1, 1) := by decide +kernel
theorem dX10_item_30 : decode cX10_item 30 = .ok (.iaload, 1) := by decide +kernel
theorem dX10_item_31 : decode cX10_item 31 = .ok (.iconst 1, 1) := by decide +kernel
theorem dX10_item_32 : decode cX10_item 32 = .ok (.isub, 1) := by decide +kernel
theorem dX10_item_33 : decode cX10_item 33 = .ok (.invokevirtual 242, 3) := by decide +kernel
theorem dX10_item_36 : decode cX10_item 36 = .ok (.ifCond .ne 6, 3) := by decide +kernel
theorem dX10_item_39 : decode cX10_item 39 = .ok (.bipush (-13), 2) := by decide +kernel
theorem dX10_item_41 : decode cX10_item 41 = .ok (.ireturn, 1) := by decide +kernel
theorem dX10_item_42 : decode cX10_item 42 = .ok (.aload_n 0, 1) := by decide +kernel
theorem dX10_item_43 : decode cX10_item 43 = .ok (.getfield 235, 3) := by decide +kernel
theorem dX10_item_46 : decode cX10_item 46 = .ok (.bipush 60, 2) := by decide +kernel
theorem dX10_item_48 : decode cX10_item 48 = .ok (.iload_n 1, 1) := by decide +kernel
theorem dX10_item_49 : decode cX10_item 49 = .ok (.imul, 1) := by decide +kernel
theorem dX10_item_5 : decode cX10_item 5 = .ok (.ifCond .ne 5, 3) := by decide +kernel
theorem dX10_item_50 : decode cX10_item 50 = .ok (.iload_n 2, 1) := by decide +kernel
theorem dX10_item_51 : decode cX10_item 51 = .ok (.iadd, 1) := by decide +kernel
theorem dX10_item_52 : decode cX10_item 52 = .ok (.aload_n 0, 1) := by decide +kernel
theorem dX10_item_53 : decode cX10_item 53 = .ok (.aload_n 0, 1) := by decide +kernel
theorem dX10_item_54 : decode cX10_item 54 = .ok (.getfield 229, 3) := by decide +kernel
theorem dX10_item_57 : decode cX10_item 57 = .ok (.iload_n 1, 1) := by decide +kernel
theorem dX10_item_58 : decode cX10_item 58 = .ok (.iaload, 1) := by decide +kernel
theorem dX10_item_59 : decode cX10_item 59 = .ok (.lload_n 3, 1) := by decide +kernel
theorem dX10_item_60 : decode cX10_item 60 = .ok (.invokevirtual 426, 3) := by decide +kernel
theorem dX10_item_63 : decode cX10_item 63 = .ok (.lastore, 1) := by decide +kernel
theorem dX10_item_64 : decode cX10_item 64 = .ok (.iconst 1, 1) := by decide +kernel
theorem dX10_item_65 : decode cX10_item 65 = .ok (.ireturn, 1) := by decide +kernel
theorem dX10_item_8 : decode cX10_item 8 = .ok (.iconst (-1), 1) := by decide +kernel
theorem dX10_item_9 : decode cX10_item 9 = .ok (.ireturn, 1) := by decide +kernel
theorem dX10_narrow_0 : decode cX10_narrow 0 = .ok (.iload_n 1, 1) := by decide +kernel
theorem dX10_narrow_1 : decode cX10_narrow 1 = .ok (.ifCond .ne 10, 3) := by decide +kernel
theorem dX10_narrow_11 : decode cX10_narrow 11 = .ok (.iload_n 1, 1) := by decide +kernel
theorem dX10_narrow_12 : decode cX10_narrow 12 = .ok (.iconst 1, 1) := by decide +kernel
theorem dX10_narrow_13 : decode cX10_narrow 13 = .ok (.if_icmp .ne 10, 3) := by decide +kernel
theorem dX10_narrow_16 : decode cX10_narrow 16 = .ok (.lload_n 2, 1) := by decide +kernel
theorem dX10_narrow_17 : decode cX10_narrow 17 = .ok (.l2i, 1) := by decide +kernel
theorem dX10_narrow_18 : decode cX10_narrow 18 = .ok (.i2s, 1) := by decide +kernel
theorem dX10_narrow_19 : decode cX10_narrow 19 = .ok (.i2l, 1) := by decide +kernel
theorem dX10_narrow_20 : decode cX10_narrow 20 = .ok (.goto 34, 3) := by decide +kernel
theorem dX10_narrow_23 : decode cX10_narrow 23 = .ok (.iload_n 1, 1) := by decide +kernel
theorem dX10_narrow_24 : decode cX10_narrow 24 = .ok (.iconst 2, 1) := by decide +kernel
theorem dX10_narrow_25 : decode cX10_narrow 25 = .ok (.if_icmp .ne 9, 3) := by decide +kernel
theorem dX10_narrow_28 : decode cX10_narrow 28 = .ok (.lload_n 2, 1) := by decide +kernel
theorem dX10_narrow_29 : decode cX10_narrow 29 = .ok (.l2i, 1) := by decide +kernel
theorem dX10_narrow_30 : decode cX10_narrow 30 = .ok (.i2l, 1) := by decide +kernel
theorem dX10_narrow_31 : decode cX10_narrow 31 = .ok (.goto 23, 3) := by decide +kernel
theorem dX10_narrow_34 : decode cX10_narrow 34 = .ok (.iload_n 1, 1) := by decide +kernel
theorem dX10_narrow_35 : decode cX10_narrow 35 = .ok (.iconst 4, 1) := by decide +kernel
theorem dX10_narrow_36 : decode cX10_narrow 36 = .ok (.if_icmp .ne 17, 3) := by decide +kernel
theorem dX10_narrow_39 : decode cX10_narrow 39 = .ok (.lload_n 2, 1) := by decide +kernel
theorem dX10_narrow_4 : decode cX10_narrow 4 = .ok (.lload_n 2, 1) := by decide +kernel
theorem dX10_narrow_40 : decode cX10_narrow 40 = .ok (.lconst 0, 1) := by decide +kernel
theorem dX10_narrow_41 : decode cX10_narrow 41 = .ok (.lcmp, 1) := by decide +kernel
theorem dX10_narrow_42 : decode cX10_narrow 42 = .ok (.ifCond .eq 7, 3) := by decide +kernel
theorem dX10_narrow_45 : decode cX10_narrow 45 = .ok (.lconst 1, 1) := by decide +kernel
theorem dX10_narrow_46 : decode cX10_narrow 46 = .ok (.goto 8, 3) := by decide +kernel
theorem dX10_narrow_49 : decode cX10_narrow 49 = .ok (.lconst 0, 1) := by decide +kernel
theorem dX10_narrow_5 : decode cX10_narrow 5 = .ok (.l2i, 1) := by decide +kernel
theorem dX10_narrow_50 : decode cX10_narrow 50 = .ok (.goto 4, 3) := by decide +kernel
theorem dX10_narrow_53 : decode cX10_narrow 53 = .ok (.lload_n 2, 1) := by decide +kernel
theorem dX10_narrow_54 : decode cX10_narrow 54 = .ok (.lreturn, 1) := by decide +kernel
theorem dX10_narrow_6 : decode cX10_narrow 6 = .ok (.i2b, 1) := by decide +kernel
theorem dX10_narrow_7 : decode cX10_narrow 7 = .ok (.i2l, 1) := by decide +kernel
theorem dX10_narrow_8 : decode cX10_narrow 8 = .ok (.goto 46, 3) := by decide +kernel
theorem dX10_read_0 : decode cX10_read 0 = .ok (.aload_n 0, 1) := by decide +kernel
theorem dX10_read_1 : decode cX10_read 1 = .ok (.iload_n 1, 1) := by decide +kernel
theorem dX10_read_12 : decode cX10_read 12 = .ok (.iload_n 1, 1) := by decide +kernel
theorem dX10_read_13 : decode cX10_read 13 = .ok (.iaload, 1) := by decide +kernel
theorem dX10_read_14 : decode cX10_read 14 = .ok (.ifCond .lt 20, 3) := by decide +kernel
theorem dX10_read_17 : decode cX10_read 17 = .ok (.aload_n 0, 1) := by decide +kernel
theorem dX10_read_18 : decode cX10_read 18 = .ok (.iload_n 2, 1) := by decide +kernel
theorem dX10_read_19 : decode cX10_read 19 = .ok (.iconst 0, 1) := by decide +kernel
theorem dX10_read_2 : decode cX10_read 2 = .ok (.invokevirtual 399, 3) := by decide +kernel
theorem dX10_read_20 : decode cX10_read 20 = .ok (.aload_n 0, 1) := by decide +kernel
theorem dX10_read_21 : decode cX10_read 21 = .ok (.getfield 232, 3) := by decide +kernel
theorem dX10_read_24 : decode cX10_read 24 = .ok (.iload_n 1, 1) := by decide +kernel
theorem dX10_read_25 : decode cX10_read 25 = .ok (.iaload, 1) := by decide +kernel
theorem dX10_read_26 : decode cX10_read 26 = .ok (.iconst 1, 1) := by decide +kernel
theorem dX10_read_27 : decode cX10_read 27 = .ok (.isub, 1) := by decide +kernel
theorem dX10_read_28 : decode cX10_read 28 = .ok (.invokevirtual 242, 3) := by decide +kernel
theorem dX10_read_31 : decode cX10_read 31 = .ok (.ifCond .ne 9, 3) := by decide +kernel
theorem dX10_read_34 : decode cX10_read 34 = .ok (.ldc2_w 393, 3) := by decide +kernel
theorem dX10_read_37 : decode cX10_read 37 = .ok (.goto 14, 3) := by decide +kernel
theorem dX10_read_40 : decode cX10_read 40 = .ok (.aload_n 0, 1) := by decide +kernel
theorem dX10_read_41 : decode cX10_read 41 = .ok (.getfield 235, 3) := by decide +kernel
theorem dX10_read_44 : decode cX10_read 44 = .ok (.bipush 60, 2) := by decide +kernel
theorem dX10_read_46 : decode cX10_read 46 = .ok (.iload_n 1, 1) := by decide +kernel
theorem dX10_read_47 : decode cX10_read 47 = .ok (.imul, 1) := by decide +kernel
theorem dX10_read_48 : decode cX10_read 48 = .ok (.iload_n 2, 1) := by decide +kernel
theorem dX10_read_49 : decode cX10_read 49 = .ok (.iadd, 1) := by decide +kernel
theorem dX10_read_5 : decode cX10_read 5 = .ok (.ifCond .eq 29, 3) := by decide +kernel
theorem dX10_read_50 : decode cX10_read 50 = .ok (.laload, 1) := by decide +kernel
theorem dX10_read_51 : decode cX10_read 51 = .ok (.lreturn, 1) := by decide +kernel
theorem dX10_read_8 : decode cX10_read 8 = .ok (.aload_n 0, 1) := by decide +kernel
theorem dX10_read_9 : decode cX10_read 9 = .ok (.getfield 229, 3) := by decide +kernel
theorem dX10_shift_0 : decode cX10_shift 0 = .ok (.aload_n 0, 1) := by decide +kernel
theorem dX10_shift_1 : decode cX10_shift 1 = .ok (.iload_n 1, 1) := by decide +kernel
theorem dX10_shift_10 : decode cX10_shift 10 = .ok (.invokevirtual 399, 3) := by decide +kernel
theorem dX10_shift_100 : decode cX10_shift 100 = .ok (.ireturn, 1) := by decide +kernel
theorem dX10_shift_101 : decode cX10_shift 101 = .ok (.iconst 0, 1) := by decide +kernel
theorem dX10_shift_102 : decode cX10_shift 102 = .ok (.istore 6, 2) := by decide +kernel
theorem dX10_shift_104 : decode cX10_shift 104 = .ok (.iload 6, 2) := by decide +kernel
theorem dX10_shift_106 : decode cX10_shift 106 = .ok (.iload 5, 2) := by decide +kernel
theorem dX10_shift_108 : decode cX10_shift 108 = .ok (.if_icmp .ge 30, 3) := by decide +kernel
theorem dX10_shift_111 : decode cX10_shift 111 = .ok (.aload_n 0, 1) := by decide +kernel
theorem dX10_shift_112 : decode cX10_shift 112 = .ok (.getfield 239, 3) := by decide +kernel
theorem dX10_shift_115 : decode cX10_shift 115 = .ok (.iload 6, 2) := by decide +kernel
theorem dX10_shift_117 : decode cX10_shift 117 = .ok (.aload_n 0, 1) := by decide +kernel
theorem dX10_shift_118 : decode cX10_shift 118 = .ok (.getfield 235, 3) := by decide +kernel
theorem dX10_shift_121 : decode cX10_shift 121 = .ok (.bipush 60, 2) := by decide +kernel
theorem dX10_shift_123 : decode cX10_shift 123 = .ok (.iload_n 1, 1) := by decide +kernel
theorem dX10_shift_124 : decode cX10_shift 124 = .ok (.imul, 1) := by decide +kernel
theorem dX10_shift_125 : decode cX10_shift 125 = .ok (.iload_n 2, 1) := by decide +kernel
theorem dX10_shift_126 : decode cX10_shift 126 = .ok (.iadd, 1) := by decide +kernel
theorem dX10_shift_127 : decode cX10_shift 127 = .ok (.iload 6, 2) := by decide +kernel
theorem dX10_shift_129 : decode cX10_shift 129 = .ok (.iadd, 1) := by decide +kernel
theorem dX10_shift_13 : decode cX10_shift 13 = .ok (.ifCond .ne 5, 3) := by decide +kernel
theorem dX10_shift_130 : decode cX10_shift 130 = .ok (.laload, 1) := by decide +kernel
theorem dX10_shift_131 : decode cX10_shift 131 = .ok (.lastore, 1) := by decide +kernel
theorem dX10_shift_132 : decode cX10_shift 132 = .ok (.iinc 6 1, 3) := by decide +kernel
theorem dX10_shift_135 : decode cX10_shift 135 = .ok (.goto (-31), 3) := by decide +kernel
theorem dX10_shift_138 : decode cX10_shift 138 = .ok (.iconst 0, 1) := by decide +kernel
theorem dX10_shift_139 : decode cX10_shift 139 = .ok (.istore 6, 2) := by decide +kernel
theorem dX10_shift_141 : decode cX10_shift 141 = .ok (.iload 6, 2) := by decide +kernel
theorem dX10_shift_143 : decode cX10_shift 143 = .ok (.iload 5, 2) := by decide +kernel
theorem dX10_shift_145 : decode cX10_shift 145 = .ok (.if_icmp .ge 31, 3) := by decide +kernel
theorem dX10_shift_148 : decode cX10_shift 148 = .ok (.aload_n 0, 1) := by decide +kernel
theorem dX10_shift_149 : decode cX10_shift 149 = .ok (.getfield 235, 3) := by decide +kernel
theorem dX10_shift_152 : decode cX10_shift 152 = .ok (.bipush 60, 2) := by decide +kernel
theorem dX10_shift_154 : decode cX10_shift 154 = .ok (.iload_n 3, 1) := by decide +kernel
theorem dX10_shift_155 : decode cX10_shift 155 = .ok (.imul, 1) := by decide +kernel
theorem dX10_shift_156 : decode cX10_shift 156 = .ok (.iload 4, 2) := by decide +kernel
theorem dX10_shift_158 : decode cX10_shift 158 = .ok (.iadd, 1) := by decide +kernel
theorem dX10_shift_159 : decode cX10_shift 159 = .ok (.iload 6, 2) := by decide +kernel
theorem dX10_shift_16 : decode cX10_shift 16 = .ok (.iconst (-1), 1) := by decide +kernel
theorem dX10_shift_161 : decode cX10_shift 161 = .ok (.iadd, 1) := by decide +kernel
theorem dX10_shift_162 : decode cX10_shift 162 = .ok (.aload_n 0, 1) := by decide +kernel
theorem dX10_shift_163 : decode cX10_shift 163 = .ok (.getfield 239, 3) := by decide +kernel
theorem dX10_shift_166 : decode cX10_shift 166 = .ok (.iload 6, 2) := by decide +kernel
theorem dX10_shift_168 : decode cX10_shift 168 = .ok (.laload, 1) := by decide +kernel
theorem dX10_shift_169 : decode cX10_shift 169 = .ok (.lastore, 1) := by decide +kernel
theorem dX10_shift_17 : decode cX10_shift 17 = .ok (.ireturn, 1) := by decide +kernel
theorem dX10_shift_170 : decode cX10_shift 170 = .ok (.iinc 6 1, 3) := by decide +kernel
theorem dX10_shift_173 : decode cX10_shift 173 = .ok (.goto (-32), 3) := by decide +kernel
theorem dX10_shift_176 : decode cX10_shift 176 = .ok (.iload 5, 2) := by decide +kernel
theorem dX10_shift_178 : decode cX10_shift 178 = .ok (.ireturn, 1) := by decide +kernel
theorem dX10_shift_18 : decode cX10_shift 18 = .ok (.aload_n 0, 1) := by decide +kernel
theorem dX10_shift_19 : decode cX10_shift 19 = .ok (.getfield 229, 3) := by decide +kernel
theorem dX10_shift_2 : decode cX10_shift 2 = .ok (.invokevirtual 399, 3) := by decide +kernel
theorem dX10_shift_22 : decode cX10_shift 22 = .ok (.iload_n 1, 1) := by decide +kernel
theorem dX10_shift_23 : decode cX10_shift 23 = .ok (.iaload, 1) := by decide +kernel
theorem dX10_shift_24 : decode cX10_shift 24 = .ok (.ifCond .lt 12, 3) := by decide +kernel
theorem dX10_shift_27 : decode cX10_shift 27 = .ok (.aload_n 0, 1) := by decide +kernel
theorem dX10_shift_28 : decode cX10_shift 28 = .ok (.getfield 229, 3) := by decide +kernel
theorem dX10_shift_31 : decode cX10_shift 31 = .ok (.iload_n 3, 1) := by decide +kernel
theorem dX10_shift_32 : decode cX10_shift 32 = .ok (.iaload, 1) := by decide +kernel
theorem dX10_shift_33 : decode cX10_shift 33 = .ok (.ifCond .ge 6, 3) := by decide +kernel
theorem dX10_shift_36 : decode cX10_shift 36 = .ok (.bipush (-11), 2) := by decide +kernel
theorem dX10_shift_38 : decode cX10_shift 38 = .ok (.ireturn, 1) := by decide +kernel
theorem dX10_shift_39 : decode cX10_shift 39 = .ok (.aload_n 0, 1) := by decide +kernel
theorem dX10_shift_40 : decode cX10_shift 40 = .ok (.getfield 229, 3) := by decide +kernel
theorem dX10_shift_43 : decode cX10_shift 43 = .ok (.iload_n 1, 1) := by decide +kernel
theorem dX10_shift_44 : decode cX10_shift 44 = .ok (.iaload, 1) := by decide +kernel
theorem dX10_shift_45 : decode cX10_shift 45 = .ok (.aload_n 0, 1) := by decide +kernel
theorem dX10_shift_46 : decode cX10_shift 46 = .ok (.getfield 229, 3) := by decide +kernel
theorem dX10_shift_49 : decode cX10_shift 49 = .ok (.iload_n 3, 1) := by decide +kernel
theorem dX10_shift_5 : decode cX10_shift 5 = .ok (.ifCond .eq 11, 3) := by decide +kernel
theorem dX10_shift_50 : decode cX10_shift 50 = .ok (.iaload, 1) := by decide +kernel
theorem dX10_shift_51 : decode cX10_shift 51 = .ok (.if_icmp .eq 6, 3) := by decide +kernel
theorem dX10_shift_54 : decode cX10_shift 54 = .ok (.bipush (-12), 2) := by decide +kernel
theorem dX10_shift_56 : decode cX10_shift 56 = .ok (.ireturn, 1) := by decide +kernel
theorem dX10_shift_57 : decode cX10_shift 57 = .ok (.iload 5, 2) := by decide +kernel
theorem dX10_shift_59 : decode cX10_shift 59 = .ok (.ifCond .lt 39, 3) := by decide +kernel
theorem dX10_shift_62 : decode cX10_shift 62 = .ok (.iload_n 2, 1) := by decide +kernel
theorem dX10_shift_63 : decode cX10_shift 63 = .ok (.ifCond .lt 35, 3) := by decide +kernel
theorem dX10_shift_66 : decode cX10_shift 66 = .ok (.iload 4, 2) := by decide +kernel
theorem dX10_shift_68 : decode cX10_shift 68 = .ok (.ifCond .lt 30, 3) := by decide +kernel
theorem dX10_shift_71 : decode cX10_shift 71 = .ok (.iload_n 2, 1) := by decide +kernel
theorem dX10_shift_72 : decode cX10_shift 72 = .ok (.aload_n 0, 1) := by decide +kernel
theorem dX10_shift_73 : decode cX10_shift 73 = .ok (.getfield 232, 3) := by decide +kernel
theorem dX10_shift_76 : decode cX10_shift 76 = .ok (.iload_n 1, 1) := by decide +kernel
theorem dX10_shift_77 : decode cX10_shift 77 = .ok (.iaload, 1) := by decide +kernel
theorem dX10_shift_78 : decode cX10_shift 78 = .ok (.iload 5, 2) := by decide +kernel
theorem dX10_shift_8 : decode cX10_shift 8 = .ok (.aload_n 0, 1) := by decide +kernel
theorem dX10_shift_80 : decode cX10_shift 80 = .ok (.isub, 1) := by decide +kernel
theorem dX10_shift_81 : decode cX10_shift 81 = .ok (.if_icmp .gt 17, 3) := by decide +kernel
theorem dX10_shift_84 : decode cX10_shift 84 = .ok (.iload 4, 2) := by decide +kernel
theorem dX10_shift_86 : decode cX10_shift 86 = .ok (.aload_n 0, 1) := by decide +kernel
theorem dX10_shift_87 : decode cX10_shift 87 = .ok (.getfield 232, 3) := by decide +kernel
theorem dX10_shift_9 : decode cX10_shift 9 = .ok (.iload_n 3, 1) := by decide +kernel
theorem dX10_shift_90 : decode cX10_shift 90 = .ok (.iload_n 3, 1) := by decide +kernel
theorem dX10_shift_91 : decode cX10_shift 91 = .ok (.iaload, 1) := by decide +kernel
theorem dX10_shift_92 : decode cX10_shift 92 = .ok (.iload 5, 2) := by decide +kernel
theorem dX10_shift_94 : decode cX10_shift 94 = .ok (.isub, 1) := by decide +kernel
theorem dX10_shift_95 : decode cX10_shift 95 = .ok (.if_icmp .le 6, 3) := by decide +kernel
theorem dX10_shift_98 : decode cX10_shift 98 = .ok (.bipush (-13), 2) := by decide +kernel
theorem dX10_taken_0 : decode cX10_taken 0 = .ok (.aload_n 0, 1) := by decide +kernel
theorem dX10_taken_1 : decode cX10_taken 1 = .ok (.iload_n 2, 1) := by decide +kernel
theorem dX10_taken_11 : decode cX10_taken 11 = .ok (.bipush (-2), 2) := by decide +kernel
theorem dX10_taken_13 : decode cX10_taken 13 = .ok (.ireturn, 1) := by decide +kernel
theorem dX10_taken_14 : decode cX10_taken 14 = .ok (.aload_n 0, 1) := by decide +kernel
theorem dX10_taken_15 : decode cX10_taken 15 = .ok (.iload_n 1, 1) := by decide +kernel
theorem dX10_taken_16 : decode cX10_taken 16 = .ok (.invokevirtual 250, 3) := by decide +kernel
theorem dX10_taken_19 : decode cX10_taken 19 = .ok (.ifCond .ne 6, 3) := by decide +kernel
theorem dX10_taken_2 : decode cX10_taken 2 = .ok (.iconst 0, 1) := by decide +kernel
theorem dX10_taken_22 : decode cX10_taken 22 = .ok (.bipush (-11), 2) := by decide +kernel
theorem dX10_taken_24 : decode cX10_taken 24 = .ok (.ireturn, 1) := by decide +kernel
theorem dX10_taken_25 : decode cX10_taken 25 = .ok (.aload_n 0, 1) := by decide +kernel
theorem dX10_taken_26 : decode cX10_taken 26 = .ok (.getfield 31, 3) := by decide +kernel
theorem dX10_taken_29 : decode cX10_taken 29 = .ok (.iload_n 1, 1) := by decide +kernel
theorem dX10_taken_3 : decode cX10_taken 3 = .ok (.bipush 6, 2) := by decide +kernel
theorem dX10_taken_30 : decode cX10_taken 30 = .ok (.iaload, 1) := by decide +kernel
theorem dX10_taken_31 : decode cX10_taken 31 = .ok (.istore_n 3, 1) := by decide +kernel
theorem dX10_taken_32 : decode cX10_taken 32 = .ok (.iload_n 2, 1) := by decide +kernel
theorem dX10_taken_33 : decode cX10_taken 33 = .ok (.ifCond .eq 39, 3) := by decide +kernel
theorem dX10_taken_36 : decode cX10_taken 36 = .ok (.iload_n 3, 1) := by decide +kernel
theorem dX10_taken_37 : decode cX10_taken 37 = .ok (.iload_n 2, 1) := by decide +kernel
theorem dX10_taken_38 : decode cX10_taken 38 = .ok (.if_icmp .eq 34, 3) := by decide +kernel
theorem dX10_taken_41 : decode cX10_taken 41 = .ok (.iload_n 2, 1) := by decide +kernel
theorem dX10_taken_42 : decode cX10_taken 42 = .ok (.iconst 1, 1) := by decide +kernel
theorem dX10_taken_43 : decode cX10_taken 43 = .ok (.if_icmp .ne 8, 3) := by decide +kernel
theorem dX10_taken_46 : decode cX10_taken 46 = .ok (.iload_n 3, 1) := by decide +kernel
theorem dX10_taken_47 : decode cX10_taken 47 = .ok (.iconst 4, 1) := by decide +kernel
theorem dX10_taken_48 : decode cX10_taken 48 = .ok (.if_icmp .eq 24, 3) := by decide +kernel
theorem dX10_taken_5 : decode cX10_taken 5 = .ok (.invokevirtual 242, 3) := by decide +kernel
theorem dX10_taken_51 : decode cX10_taken 51 = .ok (.iload_n 2, 1) := by decide +kernel
theorem dX10_taken_52 : decode cX10_taken 52 = .ok (.iconst 2, 1) := by decide +kernel
theorem dX10_taken_53 : decode cX10_taken 53 = .ok (.if_icmp .ne 8, 3) := by decide +kernel
theorem dX10_taken_56 : decode cX10_taken 56 = .ok (.iload_n 3, 1) := by decide +kernel
theorem dX10_taken_57 : decode cX10_taken 57 = .ok (.iconst 5, 1) := by decide +kernel
theorem dX10_taken_58 : decode cX10_taken 58 = .ok (.if_icmp .eq 14, 3) := by decide +kernel
theorem dX10_taken_61 : decode cX10_taken 61 = .ok (.iload_n 2, 1) := by decide +kernel
theorem dX10_taken_62 : decode cX10_taken 62 = .ok (.iconst 3, 1) := by decide +kernel
theorem dX10_taken_63 : decode cX10_taken 63 = .ok (.if_icmp .ne 13, 3) := by decide +kernel
theorem dX10_taken_66 : decode cX10_taken 66 = .ok (.iload_n 3, 1) := by decide +kernel
theorem dX10_taken_67 : decode cX10_taken 67 = .ok (.bipush 6, 2) := by decide +kernel
theorem dX10_taken_69 : decode cX10_taken 69 = .ok (.if_icmp .ne 7, 3) := by decide +kernel
theorem dX10_taken_72 : decode cX10_taken 72 = .ok (.iload_n 3, 1) := by decide +kernel
theorem dX10_taken_73 : decode cX10_taken 73 = .ok (.goto 5, 3) := by decide +kernel
theorem dX10_taken_76 : decode cX10_taken 76 = .ok (.bipush (-12), 2) := by decide +kernel
theorem dX10_taken_78 : decode cX10_taken 78 = .ok (.ireturn, 1) := by decide +kernel
theorem dX10_taken_8 : decode cX10_taken 8 = .ok (.ifCond .ne 6, 3) := by decide +kernel
theorem dX10_tape_0 : decode cX10_tape 0 = .ok (.aload_n 0, 1) := by decide +kernel
theorem dX10_tape_1 : decode cX10_tape 1 = .ok (.iload_n 1, 1) := by decide +kernel
theorem dX10_tape_10 : decode cX10_tape 10 = .ok (.aload_n 0, 1) := by decide +kernel
theorem dX10_tape_11 : decode cX10_tape 11 = .ok (.iload_n 2, 1) := by decide +kernel
theorem dX10_tape_12 : decode cX10_tape 12 = .ok (.iconst (-1), 1) := by decide +kernel
theorem dX10_tape_13 : decode cX10_tape 13 = .ok (.iconst 4, 1) := by decide +kernel
theorem dX10_tape_14 : decode cX10_tape 14 = .ok (.invokevirtual 242, 3) := by decide +kernel
theorem dX10_tape_17 : decode cX10_tape 17 = .ok (.ifCond .eq 13, 3) := by decide +kernel
theorem dX10_tape_2 : decode cX10_tape 2 = .ok (.invokevirtual 399, 3) := by decide +kernel
theorem dX10_tape_20 : decode cX10_tape 20 = .ok (.iload_n 2, 1) := by decide +kernel
theorem dX10_tape_21 : decode cX10_tape 21 = .ok (.ifCond .lt 12, 3) := by decide +kernel
theorem dX10_tape_24 : decode cX10_tape 24 = .ok (.iload_n 3, 1) := by decide +kernel
theorem dX10_tape_25 : decode cX10_tape 25 = .ok (.bipush 60, 2) := by decide +kernel
theorem dX10_tape_27 : decode cX10_tape 27 = .ok (.if_icmp .le 6, 3) := by decide +kernel
theorem dX10_tape_30 : decode cX10_tape 30 = .ok (.bipush (-2), 2) := by decide +kernel
theorem dX10_tape_32 : decode cX10_tape 32 = .ok (.ireturn, 1) := by decide +kernel
theorem dX10_tape_33 : decode cX10_tape 33 = .ok (.iload_n 2, 1) := by decide +kernel
theorem dX10_tape_34 : decode cX10_tape 34 = .ok (.ifCond .lt 10, 3) := by decide +kernel
theorem dX10_tape_37 : decode cX10_tape 37 = .ok (.iload_n 3, 1) := by decide +kernel
theorem dX10_tape_38 : decode cX10_tape 38 = .ok (.ifCond .ge 6, 3) := by decide +kernel
theorem dX10_tape_41 : decode cX10_tape 41 = .ok (.bipush (-14), 2) := by decide +kernel
theorem dX10_tape_43 : decode cX10_tape 43 = .ok (.ireturn, 1) := by decide +kernel
theorem dX10_tape_44 : decode cX10_tape 44 = .ok (.aload_n 0, 1) := by decide +kernel
theorem dX10_tape_45 : decode cX10_tape 45 = .ok (.getfield 229, 3) := by decide +kernel
theorem dX10_tape_48 : decode cX10_tape 48 = .ok (.iload_n 1, 1) := by decide +kernel
theorem dX10_tape_49 : decode cX10_tape 49 = .ok (.iload_n 2, 1) := by decide +kernel
theorem dX10_tape_5 : decode cX10_tape 5 = .ok (.ifCond .ne 5, 3) := by decide +kernel
theorem dX10_tape_50 : decode cX10_tape 50 = .ok (.iastore, 1) := by decide +kernel
theorem dX10_tape_51 : decode cX10_tape 51 = .ok (.aload_n 0, 1) := by decide +kernel
theorem dX10_tape_52 : decode cX10_tape 52 = .ok (.getfield 232, 3) := by decide +kernel
theorem dX10_tape_55 : decode cX10_tape 55 = .ok (.iload_n 1, 1) := by decide +kernel
theorem dX10_tape_56 : decode cX10_tape 56 = .ok (.iload_n 2, 1) := by decide +kernel
theorem dX10_tape_57 : decode cX10_tape 57 = .ok (.ifCond .ge 7, 3) := by decide +kernel
theorem dX10_tape_60 : decode cX10_tape 60 = .ok (.iconst 0, 1) := by decide +kernel
theorem dX10_tape_61 : decode cX10_tape 61 = .ok (.goto 4, 3) := by decide +kernel
theorem dX10_tape_64 : decode cX10_tape 64 = .ok (.iload_n 3, 1) := by decide +kernel
theorem dX10_tape_65 : decode cX10_tape 65 = .ok (.iastore, 1) := by decide +kernel
theorem dX10_tape_66 : decode cX10_tape 66 = .ok (.iconst 0, 1) := by decide +kernel
theorem dX10_tape_67 : decode cX10_tape 67 = .ok (.istore 4, 2) := by decide +kernel
theorem dX10_tape_69 : decode cX10_tape 69 = .ok (.iload 4, 2) := by decide +kernel
theorem dX10_tape_71 : decode cX10_tape 71 = .ok (.bipush 60, 2) := by decide +kernel
theorem dX10_tape_73 : decode cX10_tape 73 = .ok (.if_icmp .ge 22, 3) := by decide +kernel
theorem dX10_tape_76 : decode cX10_tape 76 = .ok (.aload_n 0, 1) := by decide +kernel
theorem dX10_tape_77 : decode cX10_tape 77 = .ok (.getfield 235, 3) := by decide +kernel
theorem dX10_tape_8 : decode cX10_tape 8 = .ok (.iconst (-1), 1) := by decide +kernel
theorem dX10_tape_80 : decode cX10_tape 80 = .ok (.bipush 60, 2) := by decide +kernel
theorem dX10_tape_82 : decode cX10_tape 82 = .ok (.iload_n 1, 1) := by decide +kernel
theorem dX10_tape_83 : decode cX10_tape 83 = .ok (.imul, 1) := by decide +kernel
theorem dX10_tape_84 : decode cX10_tape 84 = .ok (.iload 4, 2) := by decide +kernel
theorem dX10_tape_86 : decode cX10_tape 86 = .ok (.iadd, 1) := by decide +kernel
theorem dX10_tape_87 : decode cX10_tape 87 = .ok (.lconst 0, 1) := by decide +kernel
theorem dX10_tape_88 : decode cX10_tape 88 = .ok (.lastore, 1) := by decide +kernel
theorem dX10_tape_89 : decode cX10_tape 89 = .ok (.iinc 4 1, 3) := by decide +kernel
theorem dX10_tape_9 : decode cX10_tape 9 = .ok (.ireturn, 1) := by decide +kernel
theorem dX10_tape_92 : decode cX10_tape 92 = .ok (.goto (-23), 3) := by decide +kernel
theorem dX10_tape_95 : decode cX10_tape 95 = .ok (.iconst 1, 1) := by decide +kernel
theorem dX10_tape_96 : decode cX10_tape 96 = .ok (.ireturn, 1) := by decide +kernel
set_option maxHeartbeats 8000000 in
set_option maxRecDepth 100000 in
theorem zd_X10_taken_x_x (l : Launch) (D : va_G) (y : Nat → ClassId) (a_this : Nat) (a_kind : Nat) (p_windows : Int32) (w_minutes : Value) (w_wet : Value) (w_comes : Value) (w_side : Value) (w_herFloor : Value) (w_herRoom : Value) (w_v : Value) (w_floor : Value) (w_room : Value) (w_takes : Value) (w_rows : Value) (w_isShut : Value) (w_houses : Value) (w_the : Value) (w_fed : Value) (w_at : Value) (w_digits : Value) (w_text : Value) (w_clauses : Value) (w_word : Value) (w_number : Value) (w_from : Value) (w_to : Value) (w_sign : Value) (w_waits : Value) (w_signs : Value) (w_waiting : Value) (w_open : Value) (w_letters : Value) (w_pile : Value) (w_since : Value) (w_rain : Value) (w_shutAt : Value) (w_ways : Value) (w_path : Value) (w_rounds : Value) (w_round : Value) (w_bestPath : Value) (w_seen : Value) (w_seenWho : Value) (w_seenHarm : Value) (w_books : Value) (w_bookWho : Value) (w_bookWhen : Value) (w_hasImage : Value) (w_imageThe : Value) (w_imageWindows : Value) (w_imageMinutes : Value) (w_imageWet : Value) (w_imageComes : Value) (w_imageSide : Value) (w_imageFloor : Value) (w_imageRoom : Value) (w_imageRounds : Value) (w_imageSeen : Value) (w_imageBooks : Value) (w_imageKind : Value) (w_imageV : Value) (w_imageFloors : Value) (w_imageRooms : Value) (w_imageTakes : Value) (w_imageRows : Value) (w_imageRound : Value) (w_imageWho : Value) (w_imageHarm : Value) (w_imageBookWho : Value) (w_imageWhen : Value) (w_imageShut : Value) (w_ran : Value) (w_bodies : Value) (w_sort : Value) (w_length : Value) (w_item : Value) (w_aside : Value) (f_kind : Nat → Int32) (n0 : Int32) (n1 : Int32) (hp_windows : 0 ≤ Int32.toInt p_windows ∧ Int32.toInt p_windows ≤ 7) (hf_kind : ∀ j_, 0 ≤ Int32.toInt (f_kind j_) ∧ Int32.toInt (f_kind j_) ≤ 6) : zM l D y yX10_taken (Cond.code yX10_taken cX10_taken 4 (some .int) :: zT) { frames := 2, cells := 0, slots := 0, locals := 44 } [.ref a_this, .int n0, .int n1] [(a_this, .inr (9, [.int p_windows, w_minutes, w_wet, w_comes, w_side, w_herFloor, w_herRoom, .ref a_kind, w_v, w_floor, w_room, w_takes, w_rows, w_isShut, w_houses, w_the, w_fed, w_at, w_digits, w_text, w_clauses, w_word, w_number, w_from, w_to, w_sign, w_waits, w_signs, w_waiting, w_open, w_letters, w_pile, w_since, w_rain, w_shutAt, w_ways, w_path, w_rounds, w_round, w_bestPath, w_seen, w_seenWho, w_seenHarm, w_books, w_bookWho, w_bookWhen, w_hasImage, w_imageThe, w_imageWindows, w_imageMinutes, w_imageWet, w_imageComes, w_imageSide, w_imageFloor, w_imageRoom, w_imageRounds, w_imageSeen, w_imageBooks, w_imageKind, w_imageV, w_imageFloors, w_imageRooms, w_imageTakes, w_imageRows, w_imageRound, w_imageWho, w_imageHarm, w_imageBookWho, w_imageWhen, w_imageShut, w_ran, w_bodies, w_sort, w_length, w_item, w_aside])), (a_kind, .inl (y 0, 7, .inl f_kind))] (zQi (S := Unit) D (fun r_ _ => ((-12) ≤ Int32.toInt r_ ∧ Int32.toInt r_ ≤ 6) ∧ True) (fun _ => [(a_this, .inr (9, [.int p_windows, w_minutes, w_wet, w_comes, w_side, w_herFloor, w_herRoom, .ref a_kind, w_v, w_floor, w_room, w_takes, w_rows, w_isShut, w_houses, w_the, w_fed, w_at, w_digits, w_text, w_clauses, w_word, w_number, w_from, w_to, w_sign, w_waits, w_signs, w_waiting, w_open, w_letters, w_pile, w_since, w_rain, w_shutAt, w_ways, w_path, w_rounds, w_round, w_bestPath, w_seen, w_seenWho, w_seenHarm, w_books, w_bookWho, w_bookWhen, w_hasImage, w_imageThe, w_imageWindows, w_imageMinutes, w_imageWet, w_imageComes, w_imageSide, w_imageFloor, w_imageRoom, w_imageRounds, w_imageSeen, w_imageBooks, w_imageKind, w_imageV, w_imageFloors, w_imageRooms, w_imageTakes, w_imageRows, w_imageRound, w_imageWho, w_imageHarm, w_imageBookWho, w_imageWhen, w_imageShut, w_ran, w_bodies, w_sort, w_length, w_item, w_aside])), (a_kind, .inl (y 0, 7, .inl f_kind))])) := by
  refine zent (cc := cX10_taken) (maxL := 4) (ret := (some .int)) (by decide) (Nat.le_of_ble_eq_true rfl) ?_
  intro p e s m below meth c A H locs ls hx hb hml hr ht hown hlocks hin hA hK hE hS hW hl
  replace hown : s.vm.findClass RX10 = some m.cls := hown
  replace hW : zPD D A [(a_this, .inr (9, [.int p_windows, w_minutes, w_wet, w_comes, w_side, w_herFloor, w_herRoom, .ref a_kind, w_v, w_floor, w_room, w_takes, w_rows, w_isShut, w_houses, w_the, w_fed, w_at, w_digits, w_text, w_clauses, w_word, w_number, w_from, w_to, w_sign, w_waits, w_signs, w_waiting, w_open, w_letters, w_pile, w_since, w_rain, w_shutAt, w_ways, w_path, w_rounds, w_round, w_bestPath, w_seen, w_seenWho, w_seenHarm, w_books, w_bookWho, w_bookWhen, w_hasImage, w_imageThe, w_imageWindows, w_imageMinutes, w_imageWet, w_imageComes, w_imageSide, w_imageFloor, w_imageRoom, w_imageRounds, w_imageSeen, w_imageBooks, w_imageKind, w_imageV, w_imageFloors, w_imageRooms, w_imageTakes, w_imageRows, w_imageRound, w_imageWho, w_imageHarm, w_imageBookWho, w_imageWhen, w_imageShut, w_ran, w_bodies, w_sort, w_length, w_item, w_aside])), (a_kind, .inl (y 0, 7, .inl f_kind))] H := hW
  replace hl : lv_has ls 4 [(0, .ref a_this), (1, .int n0), (2, .int n1)] := hl
  refine lv_aload_n hx hb dX10_taken_0 rfl (lv_at hl 0 rfl) ?_
  refine lv_iload_n hx hb dX10_taken_1 rfl (lv_at hl 2 rfl) ?_
  refine lv_iconst (v := 0) hx hb dX10_taken_2 (by decide) ?_
  refine lv_bipush (v := 6) hx hb dX10_taken_3 (by decide) ?_
  refine zgo_i (wr := [(a_kind, .inl (y 0, 7, .inl f_kind))]) (zrunV (As := [.int n1, .int 0, .int 6]) (rest := []) ⟨hx, hb, hml, hown, ht⟩ (zd_X10_in_x_0_6 l D y a_this (.int p_windows) w_minutes w_wet w_comes w_side w_herFloor w_herRoom (.ref a_kind) w_v w_floor w_room w_takes w_rows w_isShut w_houses w_the w_fed w_at w_digits w_text w_clauses w_word w_number w_from w_to w_sign w_waits w_signs w_waiting w_open w_letters w_pile w_since w_rain w_shutAt w_ways w_path w_rounds w_round w_bestPath w_seen w_seenWho w_seenHarm w_books w_bookWho w_bookWhen w_hasImage w_imageThe w_imageWindows w_imageMinutes w_imageWet w_imageComes w_imageSide w_imageFloor w_imageRoom w_imageRounds w_imageSeen w_imageBooks w_imageKind w_imageV w_imageFloors w_imageRooms w_imageTakes w_imageRows w_imageRound w_imageWho w_imageHarm w_imageBookWho w_imageWhen w_imageShut w_ran w_bodies w_sort w_length w_item w_aside n1) (cwV 3 ht (zgV zm_240 zm_241 zm_242 zm_5 zm_243) rfl rfl rfl (by decide +kernel) ⟨(Nat.le_of_ble_eq_true rfl), (Nat.le_of_ble_eq_true rfl)⟩) hK hE hS hA hW [0] (by decide) rfl 0 rfl rfl rfl rfl hl.1 rfl (Nat.le_of_ble_eq_true rfl) dX10_taken_5 (Nat.le_of_ble_eq_true rfl) (Nat.le_of_ble_eq_true rfl)) hS hA hW [0] [1] rfl rfl (by decide) (by decide) (fun r1_ u H locs hw hW hS => ?_)
  replace hW : zPD D A [(a_this, .inr (9, [.int p_windows, w_minutes, w_wet, w_comes, w_side, w_herFloor, w_herRoom, .ref a_kind, w_v, w_floor, w_room, w_takes, w_rows, w_isShut, w_houses, w_the, w_fed, w_at, w_digits, w_text, w_clauses, w_word, w_number, w_from, w_to, w_sign, w_waits, w_signs, w_waiting, w_open, w_letters, w_pile, w_since, w_rain, w_shutAt, w_ways, w_path, w_rounds, w_round, w_bestPath, w_seen, w_seenWho, w_seenHarm, w_books, w_bookWho, w_bookWhen, w_hasImage, w_imageThe, w_imageWindows, w_imageMinutes, w_imageWet, w_imageComes, w_imageSide, w_imageFloor, w_imageRoom, w_imageRounds, w_imageSeen, w_imageBooks, w_imageKind, w_imageV, w_imageFloors, w_imageRooms, w_imageTakes, w_imageRows, w_imageRound, w_imageWho, w_imageHarm, w_imageBookWho, w_imageWhen, w_imageShut, w_ran, w_bodies, w_sort, w_length, w_item, w_aside])), (a_kind, .inl (y 0, 7, .inl f_kind))] H := hW.sub [1, 0] (by decide) rfl
  replace hw : (r1_ = (if n1 < 0 then 0 else (if 6 < n1 then 0 else 1))) ∧ True := hw
  obtain ⟨hw, -⟩ := hw
  by_cases c2_ : n1 < 0
  · have b3_ : (-2147483648) ≤ Int32.toInt n1 ∧ Int32.toInt n1 ≤ (-1) := zr_lt_l (-1) c2_ (zbnd n1) (show 0 ≤ Int32.toInt 0 ∧ Int32.toInt 0 ≤ 0 from (by decide)) (by decide)
    rw [if_pos c2_] at hw
    subst r1_
    refine lv_if_ne (tgt := 14) hx hb dX10_taken_8 (by decide) (fun c4_ => absurd (by decide) c4_) (fun c4_ => ?_)
    refine lv_bipush (v := (-2)) hx hb dX10_taken_11 (by decide) ?_
    exact zret_i (v := (-2)) hx hb hr hlocks hS () ⟨(by decide), trivial⟩ hW (Nat.le_of_ble_eq_true rfl) (Nat.le_of_ble_eq_true rfl) dX10_taken_13
  · have b5_ : 0 ≤ Int32.toInt n1 ∧ Int32.toInt n1 ≤ 2147483647 := zr_nlt_l 0 c2_ (zbnd n1) (show 0 ≤ Int32.toInt 0 ∧ Int32.toInt 0 ≤ 0 from (by decide)) (by decide)
    rw [if_neg c2_] at hw
    by_cases c6_ : 6 < n1
    · have b7_ : 7 ≤ Int32.toInt n1 ∧ Int32.toInt n1 ≤ 2147483647 := zr_lt_r 7 c6_ b5_ (show 6 ≤ Int32.toInt 6 ∧ Int32.toInt 6 ≤ 6 from (by decide)) (by decide)
      rw [if_pos c6_] at hw
      subst r1_
      refine lv_if_ne (tgt := 14) hx hb dX10_taken_8 (by decide) (fun c8_ => absurd (by decide) c8_) (fun c8_ => ?_)
      refine lv_bipush (v := (-2)) hx hb dX10_taken_11 (by decide) ?_
      exact zret_i (v := (-2)) hx hb hr hlocks hS () ⟨(by decide), trivial⟩ hW (Nat.le_of_ble_eq_true rfl) (Nat.le_of_ble_eq_true rfl) dX10_taken_13
    · have b9_ : 0 ≤ Int32.toInt n1 ∧ Int32.toInt n1 ≤ 6 := zr_nlt_r 6 c6_ b5_ (show 6 ≤ Int32.toInt 6 ∧ Int32.toInt 6 ≤ 6 from (by decide)) (by decide)
      rw [if_neg c6_] at hw
      subst r1_
      refine lv_if_ne (tgt := 14) hx hb dX10_taken_8 (by decide) (fun c10_ => ?_) (fun c10_ => absurd c10_ (by decide))
      refine lv_aload_n hx hb dX10_taken_14 rfl (lv_at hl 0 rfl) ?_
      refine lv_iload_n hx hb dX10_taken_15 rfl (lv_at hl 1 rfl) ?_
      refine zgo_i (wr := [(a_kind, .inl (y 0, 7, .inl f_kind))]) (zrunV (As := [.int n0]) (rest := []) ⟨hx, hb, hml, hown, ht⟩ (zd_X10_isWindow_x l D y a_this p_windows w_minutes w_wet w_comes w_side w_herFloor w_herRoom (.ref a_kind) w_v w_floor w_room w_takes w_rows w_isShut w_houses w_the w_fed w_at w_digits w_text w_clauses w_word w_number w_from w_to w_sign w_waits w_signs w_waiting w_open w_letters w_pile w_since w_rain w_shutAt w_ways w_path w_rounds w_round w_bestPath w_seen w_seenWho w_seenHarm w_books w_bookWho w_bookWhen w_hasImage w_imageThe w_imageWindows w_imageMinutes w_imageWet w_imageComes w_imageSide w_imageFloor w_imageRoom w_imageRounds w_imageSeen w_imageBooks w_imageKind w_imageV w_imageFloors w_imageRooms w_imageTakes w_imageRows w_imageRound w_imageWho w_imageHarm w_imageBookWho w_imageWhen w_imageShut w_ran w_bodies w_sort w_length w_item w_aside n0 (zr_wide hp_windows (by decide) (by decide))) (cwV 1 ht (zgV zm_353 zm_354 zm_355 zm_5 zm_356) rfl rfl rfl (by decide +kernel) ⟨(Nat.le_of_ble_eq_true rfl), (Nat.le_of_ble_eq_true rfl)⟩) hK hE hS hA hW [0] (by decide) rfl 0 rfl rfl rfl rfl hl.1 rfl (Nat.le_of_ble_eq_true rfl) dX10_taken_16 (Nat.le_of_ble_eq_true rfl) (Nat.le_of_ble_eq_true rfl)) hS hA hW [0] [1] rfl rfl (by decide) (by decide) (fun r11_ u H locs hw hW hS => ?_)
      replace hW : zPD D A [(a_this, .inr (9, [.int p_windows, w_minutes, w_wet, w_comes, w_side, w_herFloor, w_herRoom, .ref a_kind, w_v, w_floor, w_room, w_takes, w_rows, w_isShut, w_houses, w_the, w_fed, w_at, w_digits, w_text, w_clauses, w_word, w_number, w_from, w_to, w_sign, w_waits, w_signs, w_waiting, w_open, w_letters, w_pile, w_since, w_rain, w_shutAt, w_ways, w_path, w_rounds, w_round, w_bestPath, w_seen, w_seenWho, w_seenHarm, w_books, w_bookWho, w_bookWhen, w_hasImage, w_imageThe, w_imageWindows, w_imageMinutes, w_imageWet, w_imageComes, w_imageSide, w_imageFloor, w_imageRoom, w_imageRounds, w_imageSeen, w_imageBooks, w_imageKind, w_imageV, w_imageFloors, w_imageRooms, w_imageTakes, w_imageRows, w_imageRound, w_imageWho, w_imageHarm, w_imageBookWho, w_imageWhen, w_imageShut, w_ran, w_bodies, w_sort, w_length, w_item, w_aside])), (a_kind, .inl (y 0, 7, .inl f_kind))] H := hW.sub [1, 0] (by decide) rfl
      replace hw : (r11_ = (if n0 < 0 then 0 else (if (p_windows - 1) < n0 then 0 else 1))) ∧ True := hw
      obtain ⟨hw, -⟩ := hw
      by_cases c12_ : n0 < 0
      · have b13_ : (-2147483648) ≤ Int32.toInt n0 ∧ Int32.toInt n0 ≤ (-1) := zr_lt_l (-1) c12_ (zbnd n0) (show 0 ≤ Int32.toInt 0 ∧ Int32.toInt 0 ≤ 0 from (by decide)) (by decide)
        rw [if_pos c12_] at hw
        subst r11_
        refine lv_if_ne (tgt := 25) hx hb dX10_taken_19 (by decide) (fun c14_ => absurd (by decide) c14_) (fun c14_ => ?_)
        refine lv_bipush (v := (-11)) hx hb dX10_taken_22 (by decide) ?_
        exact zret_i (v := (-11)) hx hb hr hlocks hS () ⟨(by decide), trivial⟩ hW (Nat.le_of_ble_eq_true rfl) (Nat.le_of_ble_eq_true rfl) dX10_taken_24
      · have b15_ : 0 ≤ Int32.toInt n0 ∧ Int32.toInt n0 ≤ 2147483647 := zr_nlt_l 0 c12_ (zbnd n0) (show 0 ≤ Int32.toInt 0 ∧ Int32.toInt 0 ≤ 0 from (by decide)) (by decide)
        rw [if_neg c12_] at hw
        obtain ⟨q17_, b16_⟩ : (Int32.toInt (p_windows - 1) = Int32.toInt p_windows - 1) ∧ ((-1) ≤ Int32.toInt (p_windows - 1) ∧ Int32.toInt (p_windows - 1) ≤ 6) := zsub_k p_windows 1 1 (-1) 6 hp_windows (by decide) (by decide) (by decide) (by decide) (by decide)
        by_cases c18_ : (p_windows - 1) < n0
        · have d19_ : Int32.toInt (p_windows - 1) < Int32.toInt n0 := (zi_lt _ _).mp c18_
          rw [if_pos c18_] at hw
          subst r11_
          refine lv_if_ne (tgt := 25) hx hb dX10_taken_19 (by decide) (fun c20_ => absurd (by decide) c20_) (fun c20_ => ?_)
          refine lv_bipush (v := (-11)) hx hb dX10_taken_22 (by decide) ?_
          exact zret_i (v := (-11)) hx hb hr hlocks hS () ⟨(by decide), trivial⟩ hW (Nat.le_of_ble_eq_true rfl) (Nat.le_of_ble_eq_true rfl) dX10_taken_24
        · have b21_ : 0 ≤ Int32.toInt (p_windows - 1) ∧ Int32.toInt (p_windows - 1) ≤ 6 := zr_nlt_l 0 c18_ b16_ b15_ (by decide)
          have b22_ : 0 ≤ Int32.toInt n0 ∧ Int32.toInt n0 ≤ 6 := zr_nlt_r 6 c18_ b15_ b21_ (by decide)
          have d23_ : Int32.toInt (p_windows - 1) ≥ Int32.toInt n0 := Int.not_lt.mp ((not_congr (zi_lt _ _)).mp c18_)
          rw [if_neg c18_] at hw
          subst r11_
          refine lv_if_ne (tgt := 25) hx hb dX10_taken_19 (by decide) (fun c24_ => ?_) (fun c24_ => absurd c24_ (by decide))
          refine lv_aload_n hx hb dX10_taken_25 rfl (lv_at hl 0 rfl) ?_
          refine zget hx hb ht inlX10 hown hK hW 0 rfl rfl 7 (by decide) zm_147 rfl dX10_taken_26 ?_
          refine lv_iload_n hx hb dX10_taken_29 rfl (lv_at hl 1 rfl) ?_
          have b25_ : 0 ≤ Int32.toInt (f_kind (Int32.toNatClampNeg n0)) ∧ Int32.toInt (f_kind (Int32.toNatClampNeg n0)) ≤ 6 := hf_kind (Int32.toNatClampNeg n0)
          refine ziald (v := (f_kind (Int32.toNatClampNeg n0))) hx hb hK hW 1 rfl (zr_in b22_ (by decide) (by decide)) rfl dX10_taken_30 ?_
          refine lv_istore_n (lv' := [(3, .int (f_kind (Int32.toNatClampNeg n0))), (0, .ref a_this), (1, .int n0), (2, .int n1)]) hx hb dX10_taken_31 rfl hl (by decide) rfl (fun ls hl => ?_)
          refine lv_iload_n hx hb dX10_taken_32 rfl (lv_at hl 3 rfl) ?_
          refine lv_if_eq (tgt := 72) hx hb dX10_taken_33 (by decide) (fun c26_ => ?_) (fun c26_ => ?_)
          · have b27_ : 0 ≤ Int32.toInt n1 ∧ Int32.toInt n1 ≤ 0 := zr_eq_l c26_ (show 0 ≤ Int32.toInt 0 ∧ Int32.toInt 0 ≤ 0 from (by decide))
            refine lv_iload_n hx hb dX10_taken_72 rfl (lv_at hl 0 rfl) ?_
            refine lv_goto (tgt := 78) hx hb dX10_taken_73 (by decide) ?_
            exact zret_i (v := (f_kind (Int32.toNatClampNeg n0))) hx hb hr hlocks hS () ⟨(zr_wide b25_ (by decide) (by decide)), trivial⟩ hW (Nat.le_of_ble_eq_true rfl) (Nat.le_of_ble_eq_true rfl) dX10_taken_78
          · have b28_ : 1 ≤ Int32.toInt n1 ∧ Int32.toInt n1 ≤ 6 := (by have u0 := b9_; have u1 := (not_congr (zi_eq _ _)).mp c26_; have u2 := (show 0 ≤ Int32.toInt 0 ∧ Int32.toInt 0 ≤ 0 from (by decide)); omega)
            refine lv_iload_n hx hb dX10_taken_36 rfl (lv_at hl 0 rfl) ?_
            refine lv_iload_n hx hb dX10_taken_37 rfl (lv_at hl 3 rfl) ?_
            refine lv_icmp_eq (tgt := 72) hx hb dX10_taken_38 (by decide) (fun c29_ => ?_) (fun c29_ => ?_)
            · have b30_ : 1 ≤ Int32.toInt (f_kind (Int32.toNatClampNeg n0)) ∧ Int32.toInt (f_kind (Int32.toNatClampNeg n0)) ≤ 6 := zr_eq_l c29_ b28_
              have d31_ : Int32.toInt (f_kind (Int32.toNatClampNeg n0)) = Int32.toInt n1 := (zi_eq _ _).mp c29_
              refine lv_iload_n hx hb dX10_taken_72 rfl (lv_at hl 0 rfl) ?_
              refine lv_goto (tgt := 78) hx hb dX10_taken_73 (by decide) ?_
              exact zret_i (v := (f_kind (Int32.toNatClampNeg n0))) hx hb hr hlocks hS () ⟨(zr_wide b30_ (by decide) (by decide)), trivial⟩ hW (Nat.le_of_ble_eq_true rfl) (Nat.le_of_ble_eq_true rfl) dX10_taken_78
            · refine lv_iload_n hx hb dX10_taken_41 rfl (lv_at hl 3 rfl) ?_
              refine lv_iconst (v := 1) hx hb dX10_taken_42 (by decide) ?_
              refine lv_icmp_ne (tgt := 51) hx hb dX10_taken_43 (by decide) (fun c33_ => ?_) (fun c33_ => ?_)
              · have b34_ : 2 ≤ Int32.toInt n1 ∧ Int32.toInt n1 ≤ 6 := (by have u0 := b28_; have u1 := (not_congr (zi_eq _ _)).mp c33_; have u2 := (show 1 ≤ Int32.toInt 1 ∧ Int32.toInt 1 ≤ 1 from (by decide)); omega)
                refine lv_iload_n hx hb dX10_taken_51 rfl (lv_at hl 3 rfl) ?_
                refine lv_iconst (v := 2) hx hb dX10_taken_52 (by decide) ?_
                refine lv_icmp_ne (tgt := 61) hx hb dX10_taken_53 (by decide) (fun c35_ => ?_) (fun c35_ => ?_)
                · have b36_ : 3 ≤ Int32.toInt n1 ∧ Int32.toInt n1 ≤ 6 := (by have u0 := b34_; have u1 := (not_congr (zi_eq _ _)).mp c35_; have u2 := (show 2 ≤ Int32.toInt 2 ∧ Int32.toInt 2 ≤ 2 from (by decide)); omega)
                  refine lv_iload_n hx hb dX10_taken_61 rfl (lv_at hl 3 rfl) ?_
                  refine lv_iconst (v := 3) hx hb dX10_taken_62 (by decide) ?_
                  refine lv_icmp_ne (tgt := 76) hx hb dX10_taken_63 (by decide) (fun c37_ => ?_) (fun c37_ => ?_)
                  · have b38_ : 4 ≤ Int32.toInt n1 ∧ Int32.toInt n1 ≤ 6 := (by have u0 := b36_; have u1 := (not_congr (zi_eq _ _)).mp c37_; have u2 := (show 3 ≤ Int32.toInt 3 ∧ Int32.toInt 3 ≤ 3 from (by decide)); omega)
                    refine lv_bipush (v := (-12)) hx hb dX10_taken_76 (by decide) ?_
                    exact zret_i (v := (-12)) hx hb hr hlocks hS () ⟨(by decide), trivial⟩ hW (Nat.le_of_ble_eq_true rfl) (Nat.le_of_ble_eq_true rfl) dX10_taken_78
                  · have b39_ : 3 ≤ Int32.toInt n1 ∧ Int32.toInt n1 ≤ 3 := zr_eq_l c37_ (show 3 ≤ Int32.toInt 3 ∧ Int32.toInt 3 ≤ 3 from (by decide))
                    refine lv_iload_n hx hb dX10_taken_66 rfl (lv_at hl 0 rfl) ?_
                    refine lv_bipush (v := 6) hx hb dX10_taken_67 (by decide) ?_
                    refine lv_icmp_ne (tgt := 76) hx hb dX10_taken_69 (by decide) (fun c40_ => ?_) (fun c40_ => ?_)
                    · have b41_ : 0 ≤ Int32.toInt (f_kind (Int32.toNatClampNeg n0)) ∧ Int32.toInt (f_kind (Int32.toNatClampNeg n0)) ≤ 5 := (by have u0 := b25_; have u1 := (not_congr (zi_eq _ _)).mp c40_; have u2 := (show 6 ≤ Int32.toInt 6 ∧ Int32.toInt 6 ≤ 6 from (by decide)); omega)
                      refine lv_bipush (v := (-12)) hx hb dX10_taken_76 (by decide) ?_
                      exact zret_i (v := (-12)) hx hb hr hlocks hS () ⟨(by decide), trivial⟩ hW (Nat.le_of_ble_eq_true rfl) (Nat.le_of_ble_eq_true rfl) dX10_taken_78
                    · have b42_ : 6 ≤ Int32.toInt (f_kind (Int32.toNatClampNeg n0)) ∧ Int32.toInt (f_kind (Int32.toNatClampNeg n0)) ≤ 6 := zr_eq_l c40_ (show 6 ≤ Int32.toInt 6 ∧ Int32.toInt 6 ≤ 6 from (by decide))
                      refine lv_iload_n hx hb dX10_taken_72 rfl (lv_at hl 0 rfl) ?_
                      refine lv_goto (tgt := 78) hx hb dX10_taken_73 (by decide) ?_
                      exact zret_i (v := (f_kind (Int32.toNatClampNeg n0))) hx hb hr hlocks hS () ⟨(zr_wide b42_ (by decide) (by decide)), trivial⟩ hW (Nat.le_of_ble_eq_true rfl) (Nat.le_of_ble_eq_true rfl) dX10_taken_78
                · have b43_ : 2 ≤ Int32.toInt n1 ∧ Int32.toInt n1 ≤ 2 := zr_eq_l c35_ (show 2 ≤ Int32.toInt 2 ∧ Int32.toInt 2 ≤ 2 from (by decide))
                  refine lv_iload_n hx hb dX10_taken_56 rfl (lv_at hl 0 rfl) ?_
                  refine lv_iconst (v := 5) hx hb dX10_taken_57 (by decide) ?_
                  refine lv_icmp_eq (tgt := 72) hx hb dX10_taken_58 (by decide) (fun c44_ => ?_) (fun c44_ => ?_)
                  · have b45_ : 5 ≤ Int32.toInt (f_kind (Int32.toNatClampNeg n0)) ∧ Int32.toInt (f_kind (Int32.toNatClampNeg n0)) ≤ 5 := zr_eq_l c44_ (show 5 ≤ Int32.toInt 5 ∧ Int32.toInt 5 ≤ 5 from (by decide))
                    refine lv_iload_n hx hb dX10_taken_72 rfl (lv_at hl 0 rfl) ?_
                    refine lv_goto (tgt := 78) hx hb dX10_taken_73 (by decide) ?_
                    exact zret_i (v := (f_kind (Int32.toNatClampNeg n0))) hx hb hr hlocks hS () ⟨(zr_wide b45_ (by decide) (by decide)), trivial⟩ hW (Nat.le_of_ble_eq_true rfl) (Nat.le_of_ble_eq_true rfl) dX10_taken_78
                  · refine lv_iload_n hx hb dX10_taken_61 rfl (lv_at hl 3 rfl) ?_
                    refine lv_iconst (v := 3) hx hb dX10_taken_62 (by decide) ?_
                    refine lv_icmp_ne (tgt := 76) hx hb dX10_taken_63 (by decide) (fun c46_ => ?_) (fun c46_ => absurd c46_ (by have z0 := b43_; have e0 : (3 : Int32).toInt = 3 := (by decide); rw [zi_eq]; omega))
                    refine lv_bipush (v := (-12)) hx hb dX10_taken_76 (by decide) ?_
                    exact zret_i (v := (-12)) hx hb hr hlocks hS () ⟨(by decide), trivial⟩ hW (Nat.le_of_ble_eq_true rfl) (Nat.le_of_ble_eq_true rfl) dX10_taken_78
              · have b47_ : 1 ≤ Int32.toInt n1 ∧ Int32.toInt n1 ≤ 1 := zr_eq_l c33_ (show 1 ≤ Int32.toInt 1 ∧ Int32.toInt 1 ≤ 1 from (by decide))
                refine lv_iload_n hx hb dX10_taken_46 rfl (lv_at hl 0 rfl) ?_
                refine lv_iconst (v := 4) hx hb dX10_taken_47 (by decide) ?_
                refine lv_icmp_eq (tgt := 72) hx hb dX10_taken_48 (by decide) (fun c48_ => ?_) (fun c48_ => ?_)
                · have b49_ : 4 ≤ Int32.toInt (f_kind (Int32.toNatClampNeg n0)) ∧ Int32.toInt (f_kind (Int32.toNatClampNeg n0)) ≤ 4 := zr_eq_l c48_ (show 4 ≤ Int32.toInt 4 ∧ Int32.toInt 4 ≤ 4 from (by decide))
                  refine lv_iload_n hx hb dX10_taken_72 rfl (lv_at hl 0 rfl) ?_
                  refine lv_goto (tgt := 78) hx hb dX10_taken_73 (by decide) ?_
                  exact zret_i (v := (f_kind (Int32.toNatClampNeg n0))) hx hb hr hlocks hS () ⟨(zr_wide b49_ (by decide) (by decide)), trivial⟩ hW (Nat.le_of_ble_eq_true rfl) (Nat.le_of_ble_eq_true rfl) dX10_taken_78
                · refine lv_iload_n hx hb dX10_taken_51 rfl (lv_at hl 3 rfl) ?_
                  refine lv_iconst (v := 2) hx hb dX10_taken_52 (by decide) ?_
                  refine lv_icmp_ne (tgt := 61) hx hb dX10_taken_53 (by decide) (fun c50_ => ?_) (fun c50_ => absurd c50_ (by have z0 := b47_; have e0 : (2 : Int32).toInt = 2 := (by decide); rw [zi_eq]; omega))
                  refine lv_iload_n hx hb dX10_taken_61 rfl (lv_at hl 3 rfl) ?_
                  refine lv_iconst (v := 3) hx hb dX10_taken_62 (by decide) ?_
                  refine lv_icmp_ne (tgt := 76) hx hb dX10_taken_63 (by decide) (fun c51_ => ?_) (fun c51_ => absurd c51_ (by have z0 := b47_; have e0 : (3 : Int32).toInt = 3 := (by decide); rw [zi_eq]; omega))
                  refine lv_bipush (v := (-12)) hx hb dX10_taken_76 (by decide) ?_
                  exact zret_i (v := (-12)) hx hb hr hlocks hS () ⟨(by decide), trivial⟩ hW (Nat.le_of_ble_eq_true rfl) (Nat.le_of_ble_eq_true rfl) dX10_taken_78
set_option maxHeartbeats 8000000 in
set_option maxRecDepth 100000 in
theorem zd_X10_count_x (l : Launch) (D : va_G) (y : Nat → ClassId) (a_this : Nat) (p_windows : Int32) (w_minutes : Value) (w_wet : Value) (w_comes : Value) (w_side : Value) (w_herFloor : Value) (w_herRoom : Value) (w_kind : Value) (w_v : Value) (w_floor : Value) (w_room : Value) (w_takes : Value) (w_rows : Value) (w_isShut : Value) (p_houses : Int32) (w_the : Value) (p_fed : Int32) (w_at : Value) (w_digits : Value) (w_text : Value) (w_clauses : Value) (w_word : Value) (w_number : Value) (w_from : Value) (w_to : Value) (w_sign : Value) (w_waits : Value) (w_signs : Value) (w_waiting : Value) (w_open : Value) (w_letters : Value) (w_pile : Value) (w_since : Value) (w_rain : Value) (w_shutAt : Value) (w_ways : Value) (w_path : Value) (p_rounds : Int32) (w_round : Value) (w_bestPath : Value) (p_seen : Int32) (w_seenWho : Value) (w_seenHarm : Value) (p_books : Int32) (w_bookWho : Value) (w_bookWhen : Value) (w_hasImage : Value) (w_imageThe : Value) (w_imageWindows : Value) (w_imageMinutes : Value) (w_imageWet : Value) (w_imageComes : Value) (w_imageSide : Value) (w_imageFloor : Value) (w_imageRoom : Value) (w_imageRounds : Value) (w_imageSeen : Value) (w_imageBooks : Value) (w_imageKind : Value) (w_imageV : Value) (w_imageFloors : Value) (w_imageRooms : Value) (w_imageTakes : Value) (w_imageRows : Value) (w_imageRound : Value) (w_imageWho : Value) (w_imageHarm : Value) (w_imageBookWho : Value) (w_imageWhen : Value) (w_imageShut : Value) (p_ran : Int32) (w_bodies : Value) (w_sort : Value) (w_length : Value) (w_item : Value) (w_aside : Value) (n0 : Int32) (hp_windows : 0 ≤ Int32.toInt p_windows ∧ Int32.toInt p_windows ≤ 7) (hp_houses : 0 ≤ Int32.toInt p_houses ∧ Int32.toInt p_houses ≤ 6) (hp_fed : 0 ≤ Int32.toInt p_fed ∧ Int32.toInt p_fed ≤ 100) (hp_rounds : 0 ≤ Int32.toInt p_rounds ∧ Int32.toInt p_rounds ≤ 7) (hp_seen : 0 ≤ Int32.toInt p_seen ∧ Int32.toInt p_seen ≤ 6) (hp_books : 0 ≤ Int32.toInt p_books ∧ Int32.toInt p_books ≤ 8) (hp_ran : 0 ≤ Int32.toInt p_ran ∧ Int32.toInt p_ran ≤ 200) : zM l D y yX10_count (Cond.code yX10_count cX10_count 2 (some .int) :: zT) { frames := 0, cells := 0, slots := 0, locals := 0 } [.ref a_this, .int n0] [(a_this, .inr (9, [.int p_windows, w_minutes, w_wet, w_comes, w_side, w_herFloor, w_herRoom, w_kind, w_v, w_floor, w_room, w_takes, w_rows, w_isShut, .int p_houses, w_the, .int p_fed, w_at, w_digits, w_text, w_clauses, w_word, w_number, w_from, w_to, w_sign, w_waits, w_signs, w_waiting, w_open, w_letters, w_pile, w_since, w_rain, w_shutAt, w_ways, w_path, .int p_rounds, w_round, w_bestPath, .int p_seen, w_seenWho, w_seenHarm, .int p_books, w_bookWho, w_bookWhen, w_hasImage, w_imageThe, w_imageWindows, w_imageMinutes, w_imageWet, w_imageComes, w_imageSide, w_imageFloor, w_imageRoom, w_imageRounds, w_imageSeen, w_imageBooks, w_imageKind, w_imageV, w_imageFloors, w_imageRooms, w_imageTakes, w_imageRows, w_imageRound, w_imageWho, w_imageHarm, w_imageBookWho, w_imageWhen, w_imageShut, .int p_ran, w_bodies, w_sort, w_length, w_item, w_aside]))] (zQi (S := Unit) D (fun r_ _ => (r_ = (if n0 = 0 then p_windows else (if n0 = 1 then p_houses else (if n0 = 2 then p_rounds else (if n0 = 3 then p_seen else (if n0 = 4 then p_books else (if n0 = 5 then p_fed else (if n0 = 6 then p_ran else (-2))))))))) ∧ True) (fun _ => [(a_this, .inr (9, [.int p_windows, w_minutes, w_wet, w_comes, w_side, w_herFloor, w_herRoom, w_kind, w_v, w_floor, w_room, w_takes, w_rows, w_isShut, .int p_houses, w_the, .int p_fed, w_at, w_digits, w_text, w_clauses, w_word, w_number, w_from, w_to, w_sign, w_waits, w_signs, w_waiting, w_open, w_letters, w_pile, w_since, w_rain, w_shutAt, w_ways, w_path, .int p_rounds, w_round, w_bestPath, .int p_seen, w_seenWho, w_seenHarm, .int p_books, w_bookWho, w_bookWhen, w_hasImage, w_imageThe, w_imageWindows, w_imageMinutes, w_imageWet, w_imageComes, w_imageSide, w_imageFloor, w_imageRoom, w_imageRounds, w_imageSeen, w_imageBooks, w_imageKind, w_imageV, w_imageFloors, w_imageRooms, w_imageTakes, w_imageRows, w_imageRound, w_imageWho, w_imageHarm, w_imageBookWho, w_imageWhen, w_imageShut, .int p_ran, w_bodies, w_sort, w_length, w_item, w_aside]))])) := by
  refine zent (cc := cX10_count) (maxL := 2) (ret := (some .int)) (by decide) (Nat.le_of_ble_eq_true rfl) ?_
  intro p e s m below meth c A H locs ls hx hb hml hr ht hown hlocks hin hA hK hE hS hW hl
  replace hown : s.vm.findClass RX10 = some m.cls := hown
  replace hW : zPD D A [(a_this, .inr (9, [.int p_windows, w_minutes, w_wet, w_comes, w_side, w_herFloor, w_herRoom, w_kind, w_v, w_floor, w_room, w_takes, w_rows, w_isShut, .int p_houses, w_the, .int p_fed, w_at, w_digits, w_text, w_clauses, w_word, w_number, w_from, w_to, w_sign, w_waits, w_signs, w_waiting, w_open, w_letters, w_pile, w_since, w_rain, w_shutAt, w_ways, w_path, .int p_rounds, w_round, w_bestPath, .int p_seen, w_seenWho, w_seenHarm, .int p_books, w_bookWho, w_bookWhen, w_hasImage, w_imageThe, w_imageWindows, w_imageMinutes, w_imageWet, w_imageComes, w_imageSide, w_imageFloor, w_imageRoom, w_imageRounds, w_imageSeen, w_imageBooks, w_imageKind, w_imageV, w_imageFloors, w_imageRooms, w_imageTakes, w_imageRows, w_imageRound, w_imageWho, w_imageHarm, w_imageBookWho, w_imageWhen, w_imageShut, .int p_ran, w_bodies, w_sort, w_length, w_item, w_aside]))] H := hW
  replace hl : lv_has ls 2 [(0, .ref a_this), (1, .int n0)] := hl
  refine lv_iload_n hx hb dX10_count_0 rfl (lv_at hl 1 rfl) ?_
  by_cases c1_ : n0 = 0
  · refine lv_tableIn (tgt := 44) hx hb dX10_count_1 (by rw [c1_]; decide) (by rw [c1_]; decide) (by rw [c1_]; rfl) (by decide) ?_
    have b2_ : 0 ≤ Int32.toInt n0 ∧ Int32.toInt n0 ≤ 0 := zr_eq_l c1_ (show 0 ≤ Int32.toInt 0 ∧ Int32.toInt 0 ≤ 0 from (by decide))
    refine lv_aload_n hx hb dX10_count_44 rfl (lv_at hl 0 rfl) ?_
    refine zget hx hb ht inlX10 hown hK hW 0 rfl rfl 0 (by decide) zm_140 rfl dX10_count_45 ?_
    exact zret_i (v := p_windows) hx hb hr hlocks hS () ⟨(by show _ = _; rw [if_pos c1_]), trivial⟩ hW (Nat.le_of_ble_eq_true rfl) (Nat.le_of_ble_eq_true rfl) dX10_count_48
  · by_cases c3_ : n0 = 1
    · refine lv_tableIn (tgt := 49) hx hb dX10_count_1 (by rw [c3_]; decide) (by rw [c3_]; decide) (by rw [c3_]; rfl) (by decide) ?_
      have b4_ : 1 ≤ Int32.toInt n0 ∧ Int32.toInt n0 ≤ 1 := zr_eq_l c3_ (show 1 ≤ Int32.toInt 1 ∧ Int32.toInt 1 ≤ 1 from (by decide))
      refine lv_aload_n hx hb dX10_count_49 rfl (lv_at hl 0 rfl) ?_
      refine zget hx hb ht inlX10 hown hK hW 0 rfl rfl 14 (by decide) zm_154 rfl dX10_count_50 ?_
      exact zret_i (v := p_houses) hx hb hr hlocks hS () ⟨(by show _ = _; rw [if_neg c1_, if_pos c3_]), trivial⟩ hW (Nat.le_of_ble_eq_true rfl) (Nat.le_of_ble_eq_true rfl) dX10_count_53
    · by_cases c5_ : n0 = 2
      · refine lv_tableIn (tgt := 54) hx hb dX10_count_1 (by rw [c5_]; decide) (by rw [c5_]; decide) (by rw [c5_]; rfl) (by decide) ?_
        have b6_ : 2 ≤ Int32.toInt n0 ∧ Int32.toInt n0 ≤ 2 := zr_eq_l c5_ (show 2 ≤ Int32.toInt 2 ∧ Int32.toInt 2 ≤ 2 from (by decide))
        refine lv_aload_n hx hb dX10_count_54 rfl (lv_at hl 0 rfl) ?_
        refine zget hx hb ht inlX10 hown hK hW 0 rfl rfl 37 (by decide) zm_177 rfl dX10_count_55 ?_
        exact zret_i (v := p_rounds) hx hb hr hlocks hS () ⟨(by show _ = _; rw [if_neg c1_, if_neg c3_, if_pos c5_]), trivial⟩ hW (Nat.le_of_ble_eq_true rfl) (Nat.le_of_ble_eq_true rfl) dX10_count_58
      · by_cases c7_ : n0 = 3
        · refine lv_tableIn (tgt := 59) hx hb dX10_count_1 (by rw [c7_]; decide) (by rw [c7_]; decide) (by rw [c7_]; rfl) (by decide) ?_
          have b8_ : 3 ≤ Int32.toInt n0 ∧ Int32.toInt n0 ≤ 3 := zr_eq_l c7_ (show 3 ≤ Int32.toInt 3 ∧ Int32.toInt 3 ≤ 3 from (by decide))
          refine lv_aload_n hx hb dX10_count_59 rfl (lv_at hl 0 rfl) ?_
          refine zget hx hb ht inlX10 hown hK hW 0 rfl rfl 40 (by decide) zm_180 rfl dX10_count_60 ?_
          exact zret_i (v := p_seen) hx hb hr hlocks hS () ⟨(by show _ = _; rw [if_neg c1_, if_neg c3_, if_neg c5_, if_pos c7_]), trivial⟩ hW (Nat.le_of_ble_eq_true rfl) (Nat.le_of_ble_eq_true rfl) dX10_count_63
        · by_cases c9_ : n0 = 4
          · refine lv_tableIn (tgt := 64) hx hb dX10_count_1 (by rw [c9_]; decide) (by rw [c9_]; decide) (by rw [c9_]; rfl) (by decide) ?_
            have b10_ : 4 ≤ Int32.toInt n0 ∧ Int32.toInt n0 ≤ 4 := zr_eq_l c9_ (show 4 ≤ Int32.toInt 4 ∧ Int32.toInt 4 ≤ 4 from (by decide))
            refine lv_aload_n hx hb dX10_count_64 rfl (lv_at hl 0 rfl) ?_
            refine zget hx hb ht inlX10 hown hK hW 0 rfl rfl 43 (by decide) zm_183 rfl dX10_count_65 ?_
            exact zret_i (v := p_books) hx hb hr hlocks hS () ⟨(by show _ = _; rw [if_neg c1_, if_neg c3_, if_neg c5_, if_neg c7_, if_pos c9_]), trivial⟩ hW (Nat.le_of_ble_eq_true rfl) (Nat.le_of_ble_eq_true rfl) dX10_count_68
          · by_cases c11_ : n0 = 5
            · refine lv_tableIn (tgt := 69) hx hb dX10_count_1 (by rw [c11_]; decide) (by rw [c11_]; decide) (by rw [c11_]; rfl) (by decide) ?_
              have b12_ : 5 ≤ Int32.toInt n0 ∧ Int32.toInt n0 ≤ 5 := zr_eq_l c11_ (show 5 ≤ Int32.toInt 5 ∧ Int32.toInt 5 ≤ 5 from (by decide))
              refine lv_aload_n hx hb dX10_count_69 rfl (lv_at hl 0 rfl) ?_
              refine zget hx hb ht inlX10 hown hK hW 0 rfl rfl 16 (by decide) zm_156 rfl dX10_count_70 ?_
              exact zret_i (v := p_fed) hx hb hr hlocks hS () ⟨(by show _ = _; rw [if_neg c1_, if_neg c3_, if_neg c5_, if_neg c7_, if_neg c9_, if_pos c11_]), trivial⟩ hW (Nat.le_of_ble_eq_true rfl) (Nat.le_of_ble_eq_true rfl) dX10_count_73
            · by_cases c13_ : n0 = 6
              · refine lv_tableIn (tgt := 74) hx hb dX10_count_1 (by rw [c13_]; decide) (by rw [c13_]; decide) (by rw [c13_]; rfl) (by decide) ?_
                have b14_ : 6 ≤ Int32.toInt n0 ∧ Int32.toInt n0 ≤ 6 := zr_eq_l c13_ (show 6 ≤ Int32.toInt 6 ∧ Int32.toInt 6 ≤ 6 from (by decide))
                refine lv_aload_n hx hb dX10_count_74 rfl (lv_at hl 0 rfl) ?_
                refine zget hx hb ht inlX10 hown hK hW 0 rfl rfl 70 (by decide) zm_210 rfl dX10_count_75 ?_
                exact zret_i (v := p_ran) hx hb hr hlocks hS () ⟨(by show _ = _; rw [if_neg c1_, if_neg c3_, if_neg c5_, if_neg c7_, if_neg c9_, if_neg c11_, if_pos c13_]), trivial⟩ hW (Nat.le_of_ble_eq_true rfl) (Nat.le_of_ble_eq_true rfl) dX10_count_78
              · refine lv_tableOut (tgt := 79) hx hb dX10_count_1 (by have u0 := (not_congr (zi_eq _ _)).mp c1_; have w0 : (0 : Int32).toInt = 0 := (by decide); have u1 := (not_congr (zi_eq _ _)).mp c3_; have w1 : (1 : Int32).toInt = 1 := (by decide); have u2 := (not_congr (zi_eq _ _)).mp c5_; have w2 : (2 : Int32).toInt = 2 := (by decide); have u3 := (not_congr (zi_eq _ _)).mp c7_; have w3 : (3 : Int32).toInt = 3 := (by decide); have u4 := (not_congr (zi_eq _ _)).mp c9_; have w4 : (4 : Int32).toInt = 4 := (by decide); have u5 := (not_congr (zi_eq _ _)).mp c11_; have w5 : (5 : Int32).toInt = 5 := (by decide); have u6 := (not_congr (zi_eq _ _)).mp c13_; have w6 : (6 : Int32).toInt = 6 := (by decide); omega) (by decide) ?_
                refine lv_bipush (v := (-2)) hx hb dX10_count_79 (by decide) ?_
                exact zret_i (v := (-2)) hx hb hr hlocks hS () ⟨(by show _ = _; rw [if_neg c1_, if_neg c3_, if_neg c5_, if_neg c7_, if_neg c9_, if_neg c11_, if_neg c13_]), trivial⟩ hW (Nat.le_of_ble_eq_true rfl) (Nat.le_of_ble_eq_true rfl) dX10_count_81
set_option maxHeartbeats 8000000 in
set_option maxRecDepth 100000 in
theorem zd_X10_tape_x_x_x (l : Launch) (D : va_G) (y : Nat → ClassId) (a_this : Nat) (a_sort : Nat) (a_length : Nat) (a_item : Nat) (w_windows : Value) (w_minutes : Value) (w_wet : Value) (w_comes : Value) (w_side : Value) (w_herFloor : Value) (w_herRoom : Value) (w_kind : Value) (w_v : Value) (w_floor : Value) (w_room : Value) (w_takes : Value) (w_rows : Value) (w_isShut : Value) (w_houses : Value) (w_the : Value) (w_fed : Value) (w_at : Value) (w_digits : Value) (w_text : Value) (w_clauses : Value) (w_word : Value) (w_number : Value) (w_from : Value) (w_to : Value) (w_sign : Value) (w_waits : Value) (w_signs : Value) (w_waiting : Value) (w_open : Value) (w_letters : Value) (w_pile : Value) (w_since : Value) (w_rain : Value) (w_shutAt : Value) (w_ways : Value) (w_path : Value) (w_rounds : Value) (w_round : Value) (w_bestPath : Value) (w_seen : Value) (w_seenWho : Value) (w_seenHarm : Value) (w_books : Value) (w_bookWho : Value) (w_bookWhen : Value) (w_hasImage : Value) (w_imageThe : Value) (w_imageWindows : Value) (w_imageMinutes : Value) (w_imageWet : Value) (w_imageComes : Value) (w_imageSide : Value) (w_imageFloor : Value) (w_imageRoom : Value) (w_imageRounds : Value) (w_imageSeen : Value) (w_imageBooks : Value) (w_imageKind : Value) (w_imageV : Value) (w_imageFloors : Value) (w_imageRooms : Value) (w_imageTakes : Value) (w_imageRows : Value) (w_imageRound : Value) (w_imageWho : Value) (w_imageHarm : Value) (w_imageBookWho : Value) (w_imageWhen : Value) (w_imageShut : Value) (w_ran : Value) (w_bodies : Value) (w_aside : Value) (f_sort : Nat → Int32) (f_length : Nat → Int32) (f_item : Nat → Int64) (n0 : Int32) (n1 : Int32) (n2 : Int32) (hf_sort : ∀ j_, (-1) ≤ Int32.toInt (f_sort j_) ∧ Int32.toInt (f_sort j_) ≤ 4) (hf_length : ∀ j_, 0 ≤ Int32.toInt (f_length j_) ∧ Int32.toInt (f_length j_) ≤ 60) : zM l D y yX10_tape (Cond.code yX10_tape cX10_tape 5 (some .int) :: zT) { frames := 2, cells := 0, slots := 0, locals := 44 } [.ref a_this, .int n0, .int n1, .int n2] [(a_this, .inr (9, [w_windows, w_minutes, w_wet, w_comes, w_side, w_herFloor, w_herRoom, w_kind, w_v, w_floor, w_room, w_takes, w_rows, w_isShut, w_houses, w_the, w_fed, w_at, w_digits, w_text, w_clauses, w_word, w_number, w_from, w_to, w_sign, w_waits, w_signs, w_waiting, w_open, w_letters, w_pile, w_since, w_rain, w_shutAt, w_ways, w_path, w_rounds, w_round, w_bestPath, w_seen, w_seenWho, w_seenHarm, w_books, w_bookWho, w_bookWhen, w_hasImage, w_imageThe, w_imageWindows, w_imageMinutes, w_imageWet, w_imageComes, w_imageSide, w_imageFloor, w_imageRoom, w_imageRounds, w_imageSeen, w_imageBooks, w_imageKind, w_imageV, w_imageFloors, w_imageRooms, w_imageTakes, w_imageRows, w_imageRound, w_imageWho, w_imageHarm, w_imageBookWho, w_imageWhen, w_imageShut, w_ran, w_bodies, .ref a_sort, .ref a_length, .ref a_item, w_aside])), (a_sort, .inl (y 0, 6, .inl f_sort)), (a_length, .inl (y 0, 6, .inl f_length)), (a_item, .inl (y 1, 360, .inr (.inl f_item)))] (zQi (S := (Nat → Int32) × (Nat → Int32) × (Nat → Int64)) D (fun r_ z_ => match z_ with | (g_sort_, g_length_, g_item_) => (r_ = (if n0 < 0 then (-1) else (if 5 < n0 then (-1) else (if n1 < (-1) then (-2) else (if 4 < n1 then (-2) else (if n1 < 0 then 1 else (if n2 ≤ 60 then (if 0 ≤ n2 then 1 else (-14)) else (-2)))))))) ∧ (∀ j_, (-1) ≤ Int32.toInt (g_sort_ j_) ∧ Int32.toInt (g_sort_ j_) ≤ 4) ∧ (∀ j_, 0 ≤ Int32.toInt (g_length_ j_) ∧ Int32.toInt (g_length_ j_) ≤ 60) ∧ True) (fun z_ => match z_ with | (g_sort_, g_length_, g_item_) => [(a_this, .inr (9, [w_windows, w_minutes, w_wet, w_comes, w_side, w_herFloor, w_herRoom, w_kind, w_v, w_floor, w_room, w_takes, w_rows, w_isShut, w_houses, w_the, w_fed, w_at, w_digits, w_text, w_clauses, w_word, w_number, w_from, w_to, w_sign, w_waits, w_signs, w_waiting, w_open, w_letters, w_pile, w_since, w_rain, w_shutAt, w_ways, w_path, w_rounds, w_round, w_bestPath, w_seen, w_seenWho, w_seenHarm, w_books, w_bookWho, w_bookWhen, w_hasImage, w_imageThe, w_imageWindows, w_imageMinutes, w_imageWet, w_imageComes, w_imageSide, w_imageFloor, w_imageRoom, w_imageRounds, w_imageSeen, w_imageBooks, w_imageKind, w_imageV, w_imageFloors, w_imageRooms, w_imageTakes, w_imageRows, w_imageRound, w_imageWho, w_imageHarm, w_imageBookWho, w_imageWhen, w_imageShut, w_ran, w_bodies, .ref a_sort, .ref a_length, .ref a_item, w_aside])), (a_sort, .inl (y 0, 6, .inl g_sort_)), (a_length, .inl (y 0, 6, .inl g_length_)), (a_item, .inl (y 1, 360, .inr (.inl g_item_)))])) := by
  refine zent (cc := cX10_tape) (maxL := 5) (ret := (some .int)) (by decide) (Nat.le_of_ble_eq_true rfl) ?_
  intro p e s m below meth c A H locs ls hx hb hml hr ht hown hlocks hin hA hK hE hS hW hl
  replace hown : s.vm.findClass RX10 = some m.cls := hown
  replace hW : zPD D A [(a_this, .inr (9, [w_windows, w_minutes, w_wet, w_comes, w_side, w_herFloor, w_herRoom, w_kind, w_v, w_floor, w_room, w_takes, w_rows, w_isShut, w_houses, w_the, w_fed, w_at, w_digits, w_text, w_clauses, w_word, w_number, w_from, w_to, w_sign, w_waits, w_signs, w_waiting, w_open, w_letters, w_pile, w_since, w_rain, w_shutAt, w_ways, w_path, w_rounds, w_round, w_bestPath, w_seen, w_seenWho, w_seenHarm, w_books, w_bookWho, w_bookWhen, w_hasImage, w_imageThe, w_imageWindows, w_imageMinutes, w_imageWet, w_imageComes, w_imageSide, w_imageFloor, w_imageRoom, w_imageRounds, w_imageSeen, w_imageBooks, w_imageKind, w_imageV, w_imageFloors, w_imageRooms, w_imageTakes, w_imageRows, w_imageRound, w_imageWho, w_imageHarm, w_imageBookWho, w_imageWhen, w_imageShut, w_ran, w_bodies, .ref a_sort, .ref a_length, .ref a_item, w_aside])), (a_sort, .inl (y 0, 6, .inl f_sort)), (a_length, .inl (y 0, 6, .inl f_length)), (a_item, .inl (y 1, 360, .inr (.inl f_item)))] H := hW
  replace hl : lv_has ls 5 [(0, .ref a_this), (1, .int n0), (2, .int n1), (3, .int n2)] := hl
  refine lv_aload_n hx hb dX10_tape_0 rfl (lv_at hl 0 rfl) ?_
  refine lv_iload_n hx hb dX10_tape_1 rfl (lv_at hl 1 rfl) ?_
  refine zgo_i (wr := [(a_sort, .inl (y 0, 6, .inl f_sort)), (a_length, .inl (y 0, 6, .inl f_length)), (a_item, .inl (y 1, 360, .inr (.inl f_item)))]) (zrunV (As := [.int n0]) (rest := []) ⟨hx, hb, hml, hown, ht⟩ (zd_X10_isTape_x l D y a_this w_windows w_minutes w_wet w_comes w_side w_herFloor w_herRoom w_kind w_v w_floor w_room w_takes w_rows w_isShut w_houses w_the w_fed w_at w_digits w_text w_clauses w_word w_number w_from w_to w_sign w_waits w_signs w_waiting w_open w_letters w_pile w_since w_rain w_shutAt w_ways w_path w_rounds w_round w_bestPath w_seen w_seenWho w_seenHarm w_books w_bookWho w_bookWhen w_hasImage w_imageThe w_imageWindows w_imageMinutes w_imageWet w_imageComes w_imageSide w_imageFloor w_imageRoom w_imageRounds w_imageSeen w_imageBooks w_imageKind w_imageV w_imageFloors w_imageRooms w_imageTakes w_imageRows w_imageRound w_imageWho w_imageHarm w_imageBookWho w_imageWhen w_imageShut w_ran w_bodies (.ref a_sort) (.ref a_length) (.ref a_item) w_aside n0) (cwV 1 ht (zgV zm_1097 zm_1098 zm_1099 zm_5 zm_1100) rfl rfl rfl (by decide +kernel) ⟨(Nat.le_of_ble_eq_true rfl), (Nat.le_of_ble_eq_true rfl)⟩) hK hE hS hA hW [0] (by decide) rfl 0 rfl rfl rfl rfl hl.1 rfl (Nat.le_of_ble_eq_true rfl) dX10_tape_2 (Nat.le_of_ble_eq_true rfl) (Nat.le_of_ble_eq_true rfl)) hS hA hW [0] [1, 2, 3] rfl rfl (by decide) (by decide) (fun r1_ u H locs hw hW hS => ?_)
  replace hW : zPD D A [(a_this, .inr (9, [w_windows, w_minutes, w_wet, w_comes, w_side, w_herFloor, w_herRoom, w_kind, w_v, w_floor, w_room, w_takes, w_rows, w_isShut, w_houses, w_the, w_fed, w_at, w_digits, w_text, w_clauses, w_word, w_number, w_from, w_to, w_sign, w_waits, w_signs, w_waiting, w_open, w_letters, w_pile, w_since, w_rain, w_shutAt, w_ways, w_path, w_rounds, w_round, w_bestPath, w_seen, w_seenWho, w_seenHarm, w_books, w_bookWho, w_bookWhen, w_hasImage, w_imageThe, w_imageWindows, w_imageMinutes, w_imageWet, w_imageComes, w_imageSide, w_imageFloor, w_imageRoom, w_imageRounds, w_imageSeen, w_imageBooks, w_imageKind, w_imageV, w_imageFloors, w_imageRooms, w_imageTakes, w_imageRows, w_imageRound, w_imageWho, w_imageHarm, w_imageBookWho, w_imageWhen, w_imageShut, w_ran, w_bodies, .ref a_sort, .ref a_length, .ref a_item, w_aside])), (a_sort, .inl (y 0, 6, .inl f_sort)), (a_length, .inl (y 0, 6, .inl f_length)), (a_item, .inl (y 1, 360, .inr (.inl f_item)))] H := hW.sub [3, 0, 1, 2] (by decide) rfl
  replace hw : (r1_ = (if n0 < 0 then 0 else (if 5 < n0 then 0 else 1))) ∧ True := hw
  obtain ⟨hw, -⟩ := hw
  by_cases c2_ : n0 < 0
  · have b3_ : (-2147483648) ≤ Int32.toInt n0 ∧ Int32.toInt n0 ≤ (-1) := zr_lt_l (-1) c2_ (zbnd n0) (show 0 ≤ Int32.toInt 0 ∧ Int32.toInt 0 ≤ 0 from (by decide)) (by decide)
    rw [if_pos c2_] at hw
    subst r1_
    refine lv_if_ne (tgt := 10) hx hb dX10_tape_5 (by decide) (fun c4_ => absurd (by decide) c4_) (fun c4_ => ?_)
    refine lv_iconst (v := (-1)) hx hb dX10_tape_8 (by decide) ?_
    exact zret_i (v := (-1)) hx hb hr hlocks hS (f_sort, f_length, f_item) ⟨(by show _ = _; rw [if_pos c2_]), hf_sort, hf_length, trivial⟩ hW (Nat.le_of_ble_eq_true rfl) (Nat.le_of_ble_eq_true rfl) dX10_tape_9
  · have b5_ : 0 ≤ Int32.toInt n0 ∧ Int32.toInt n0 ≤ 2147483647 := zr_nlt_l 0 c2_ (zbnd n0) (show 0 ≤ Int32.toInt 0 ∧ Int32.toInt 0 ≤ 0 from (by decide)) (by decide)
    rw [if_neg c2_] at hw
    by_cases c6_ : 5 < n0
    · have b7_ : 6 ≤ Int32.toInt n0 ∧ Int32.toInt n0 ≤ 2147483647 := zr_lt_r 6 c6_ b5_ (show 5 ≤ Int32.toInt 5 ∧ Int32.toInt 5 ≤ 5 from (by decide)) (by decide)
      rw [if_pos c6_] at hw
      subst r1_
      refine lv_if_ne (tgt := 10) hx hb dX10_tape_5 (by decide) (fun c8_ => absurd (by decide) c8_) (fun c8_ => ?_)
      refine lv_iconst (v := (-1)) hx hb dX10_tape_8 (by decide) ?_
      exact zret_i (v := (-1)) hx hb hr hlocks hS (f_sort, f_length, f_item) ⟨(by show _ = _; rw [if_neg c2_, if_pos c6_]), hf_sort, hf_length, trivial⟩ hW (Nat.le_of_ble_eq_true rfl) (Nat.le_of_ble_eq_true rfl) dX10_tape_9
    · have b9_ : 0 ≤ Int32.toInt n0 ∧ Int32.toInt n0 ≤ 5 := zr_nlt_r 5 c6_ b5_ (show 5 ≤ Int32.toInt 5 ∧ Int32.toInt 5 ≤ 5 from (by decide)) (by decide)
      rw [if_neg c6_] at hw
      subst r1_
      refine lv_if_ne (tgt := 10) hx hb dX10_tape_5 (by decide) (fun c10_ => ?_) (fun c10_ => absurd c10_ (by decide))
      refine lv_aload_n hx hb dX10_tape_10 rfl (lv_at hl 0 rfl) ?_
      refine lv_iload_n hx hb dX10_tape_11 rfl (lv_at hl 2 rfl) ?_
      refine lv_iconst (v := (-1)) hx hb dX10_tape_12 (by decide) ?_
      refine lv_iconst (v := 4) hx hb dX10_tape_13 (by decide) ?_
      refine zgo_i (wr := [(a_sort, .inl (y 0, 6, .inl f_sort)), (a_length, .inl (y 0, 6, .inl f_length)), (a_item, .inl (y 1, 360, .inr (.inl f_item)))]) (zrunV (As := [.int n1, .int (-1), .int 4]) (rest := []) ⟨hx, hb, hml, hown, ht⟩ (zd_X10_in_x_m1_4 l D y a_this w_windows w_minutes w_wet w_comes w_side w_herFloor w_herRoom w_kind w_v w_floor w_room w_takes w_rows w_isShut w_houses w_the w_fed w_at w_digits w_text w_clauses w_word w_number w_from w_to w_sign w_waits w_signs w_waiting w_open w_letters w_pile w_since w_rain w_shutAt w_ways w_path w_rounds w_round w_bestPath w_seen w_seenWho w_seenHarm w_books w_bookWho w_bookWhen w_hasImage w_imageThe w_imageWindows w_imageMinutes w_imageWet w_imageComes w_imageSide w_imageFloor w_imageRoom w_imageRounds w_imageSeen w_imageBooks w_imageKind w_imageV w_imageFloors w_imageRooms w_imageTakes w_imageRows w_imageRound w_imageWho w_imageHarm w_imageBookWho w_imageWhen w_imageShut w_ran w_bodies (.ref a_sort) (.ref a_length) (.ref a_item) w_aside n1) (cwV 3 ht (zgV zm_240 zm_241 zm_242 zm_5 zm_243) rfl rfl rfl (by decide +kernel) ⟨(Nat.le_of_ble_eq_true rfl), (Nat.le_of_ble_eq_true rfl)⟩) hK hE hS hA hW [0] (by decide) rfl 0 rfl rfl rfl rfl hl.1 rfl (Nat.le_of_ble_eq_true rfl) dX10_tape_14 (Nat.le_of_ble_eq_true rfl) (Nat.le_of_ble_eq_true rfl)) hS hA hW [0] [1, 2, 3] rfl rfl (by decide) (by decide) (fun r11_ u H locs hw hW hS => ?_)
      replace hW : zPD D A [(a_this, .inr (9, [w_windows, w_minutes, w_wet, w_comes, w_side, w_herFloor, w_herRoom, w_kind, w_v, w_floor, w_room, w_takes, w_rows, w_isShut, w_houses, w_the, w_fed, w_at, w_digits, w_text, w_clauses, w_word, w_number, w_from, w_to, w_sign, w_waits, w_signs, w_waiting, w_open, w_letters, w_pile, w_since, w_rain, w_shutAt, w_ways, w_path, w_rounds, w_round, w_bestPath, w_seen, w_seenWho, w_seenHarm, w_books, w_bookWho, w_bookWhen, w_hasImage, w_imageThe, w_imageWindows, w_imageMinutes, w_imageWet, w_imageComes, w_imageSide, w_imageFloor, w_imageRoom, w_imageRounds, w_imageSeen, w_imageBooks, w_imageKind, w_imageV, w_imageFloors, w_imageRooms, w_imageTakes, w_imageRows, w_imageRound, w_imageWho, w_imageHarm, w_imageBookWho, w_imageWhen, w_imageShut, w_ran, w_bodies, .ref a_sort, .ref a_length, .ref a_item, w_aside])), (a_sort, .inl (y 0, 6, .inl f_sort)), (a_length, .inl (y 0, 6, .inl f_length)), (a_item, .inl (y 1, 360, .inr (.inl f_item)))] H := hW.sub [3, 0, 1, 2] (by decide) rfl
      replace hw : (r11_ = (if n1 < (-1) then 0 else (if 4 < n1 then 0 else 1))) ∧ True := hw
      obtain ⟨hw, -⟩ := hw
      by_cases c12_ : n1 < (-1)
      · have b13_ : (-2147483648) ≤ Int32.toInt n1 ∧ Int32.toInt n1 ≤ (-2) := zr_lt_l (-2) c12_ (zbnd n1) (show (-1) ≤ Int32.toInt (-1) ∧ Int32.toInt (-1) ≤ (-1) from (by decide)) (by decide)
        rw [if_pos c12_] at hw
        subst r11_
        refine lv_if_eq (tgt := 30) hx hb dX10_tape_17 (by decide) (fun c14_ => ?_) (fun c14_ => absurd (by decide) c14_)
        refine lv_bipush (v := (-2)) hx hb dX10_tape_30 (by decide) ?_
        exact zret_i (v := (-2)) hx hb hr hlocks hS (f_sort, f_length, f_item) ⟨(by show _ = _; rw [if_neg c2_, if_neg c6_, if_pos c12_]), hf_sort, hf_length, trivial⟩ hW (Nat.le_of_ble_eq_true rfl) (Nat.le_of_ble_eq_true rfl) dX10_tape_32
      · have b15_ : (-1) ≤ Int32.toInt n1 ∧ Int32.toInt n1 ≤ 2147483647 := zr_nlt_l (-1) c12_ (zbnd n1) (show (-1) ≤ Int32.toInt (-1) ∧ Int32.toInt (-1) ≤ (-1) from (by decide)) (by decide)
        rw [if_neg c12_] at hw
        by_cases c16_ : 4 < n1
        · have b17_ : 5 ≤ Int32.toInt n1 ∧ Int32.toInt n1 ≤ 2147483647 := zr_lt_r 5 c16_ b15_ (show 4 ≤ Int32.toInt 4 ∧ Int32.toInt 4 ≤ 4 from (by decide)) (by decide)
          rw [if_pos c16_] at hw
          subst r11_
          refine lv_if_eq (tgt := 30) hx hb dX10_tape_17 (by decide) (fun c18_ => ?_) (fun c18_ => absurd (by decide) c18_)
          refine lv_bipush (v := (-2)) hx hb dX10_tape_30 (by decide) ?_
          exact zret_i (v := (-2)) hx hb hr hlocks hS (f_sort, f_length, f_item) ⟨(by show _ = _; rw [if_neg c2_, if_neg c6_, if_neg c12_, if_pos c16_]), hf_sort, hf_length, trivial⟩ hW (Nat.le_of_ble_eq_true rfl) (Nat.le_of_ble_eq_true rfl) dX10_tape_32
        · have b19_ : (-1) ≤ Int32.toInt n1 ∧ Int32.toInt n1 ≤ 4 := zr_nlt_r 4 c16_ b15_ (show 4 ≤ Int32.toInt 4 ∧ Int32.toInt 4 ≤ 4 from (by decide)) (by decide)
          rw [if_neg c16_] at hw
          subst r11_
          refine lv_if_eq (tgt := 30) hx hb dX10_tape_17 (by decide) (fun c20_ => absurd c20_ (by decide)) (fun c20_ => ?_)
          refine lv_iload_n hx hb dX10_tape_20 rfl (lv_at hl 2 rfl) ?_
          refine lv_if_lt (tgt := 33) hx hb dX10_tape_21 (by decide) (fun c21_ => ?_) (fun c21_ => ?_)
          · have b22_ : (-1) ≤ Int32.toInt n1 ∧ Int32.toInt n1 ≤ (-1) := zr_lt_l (-1) c21_ b19_ (show 0 ≤ Int32.toInt 0 ∧ Int32.toInt 0 ≤ 0 from (by decide)) (by decide)
            refine lv_iload_n hx hb dX10_tape_33 rfl (lv_at hl 2 rfl) ?_
            refine lv_if_lt (tgt := 44) hx hb dX10_tape_34 (by decide) (fun c23_ => ?_) (fun c23_ => absurd c21_ c23_)
            refine lv_aload_n hx hb dX10_tape_44 rfl (lv_at hl 0 rfl) ?_
            refine zget hx hb ht inlX10 hown hK hW 0 rfl rfl 72 (by decide) zm_212 rfl dX10_tape_45 ?_
            refine lv_iload_n hx hb dX10_tape_48 rfl (lv_at hl 1 rfl) ?_
            refine lv_iload_n hx hb dX10_tape_49 rfl (lv_at hl 2 rfl) ?_
            refine ziastN (ws' := fun g24_ => [(a_this, .inr (9, [w_windows, w_minutes, w_wet, w_comes, w_side, w_herFloor, w_herRoom, w_kind, w_v, w_floor, w_room, w_takes, w_rows, w_isShut, w_houses, w_the, w_fed, w_at, w_digits, w_text, w_clauses, w_word, w_number, w_from, w_to, w_sign, w_waits, w_signs, w_waiting, w_open, w_letters, w_pile, w_since, w_rain, w_shutAt, w_ways, w_path, w_rounds, w_round, w_bestPath, w_seen, w_seenWho, w_seenHarm, w_books, w_bookWho, w_bookWhen, w_hasImage, w_imageThe, w_imageWindows, w_imageMinutes, w_imageWet, w_imageComes, w_imageSide, w_imageFloor, w_imageRoom, w_imageRounds, w_imageSeen, w_imageBooks, w_imageKind, w_imageV, w_imageFloors, w_imageRooms, w_imageTakes, w_imageRows, w_imageRound, w_imageWho, w_imageHarm, w_imageBookWho, w_imageWhen, w_imageShut, w_ran, w_bodies, .ref a_sort, .ref a_length, .ref a_item, w_aside])), (a_sort, .inl (y 0, 6, .inl g24_)), (a_length, .inl (y 0, 6, .inl f_length)), (a_item, .inl (y 1, 360, .inr (.inl f_item)))]) hx hb hK hS hW 1 rfl (zr_in b9_ (by decide) (by decide)) (fun _ => rfl) dX10_tape_50 (fun g24_ H locs eg24_ hW hS => ?_)
            have b25_ : ∀ j_, (-1) ≤ Int32.toInt (g24_ j_) ∧ Int32.toInt (g24_ j_) ≤ 4 := zall_upd eg24_ hf_sort (zr_wide b22_ (by decide) (by decide))
            refine lv_aload_n hx hb dX10_tape_51 rfl (lv_at hl 0 rfl) ?_
            refine zget hx hb ht inlX10 hown hK hW 0 rfl rfl 73 (by decide) zm_213 rfl dX10_tape_52 ?_
            refine lv_iload_n hx hb dX10_tape_55 rfl (lv_at hl 1 rfl) ?_
            refine lv_iload_n hx hb dX10_tape_56 rfl (lv_at hl 2 rfl) ?_
            refine lv_if_ge (tgt := 64) hx hb dX10_tape_57 (by decide) (fun c26_ => absurd c26_ (by have z0 := b22_; have e0 : (0 : Int32).toInt = 0 := (by decide); rw [zi_le]; omega)) (fun c26_ => ?_)
            refine lv_iconst (v := 0) hx hb dX10_tape_60 (by decide) ?_
            refine lv_goto (tgt := 65) hx hb dX10_tape_61 (by decide) ?_
            refine ziastN (ws' := fun g27_ => [(a_this, .inr (9, [w_windows, w_minutes, w_wet, w_comes, w_side, w_herFloor, w_herRoom, w_kind, w_v, w_floor, w_room, w_takes, w_rows, w_isShut, w_houses, w_the, w_fed, w_at, w_digits, w_text, w_clauses, w_word, w_number, w_from, w_to, w_sign, w_waits, w_signs, w_waiting, w_open, w_letters, w_pile, w_since, w_rain, w_shutAt, w_ways, w_path, w_rounds, w_round, w_bestPath, w_seen, w_seenWho, w_seenHarm, w_books, w_bookWho, w_bookWhen, w_hasImage, w_imageThe, w_imageWindows, w_imageMinutes, w_imageWet, w_imageComes, w_imageSide, w_imageFloor, w_imageRoom, w_imageRounds, w_imageSeen, w_imageBooks, w_imageKind, w_imageV, w_imageFloors, w_imageRooms, w_imageTakes, w_imageRows, w_imageRound, w_imageWho, w_imageHarm, w_imageBookWho, w_imageWhen, w_imageShut, w_ran, w_bodies, .ref a_sort, .ref a_length, .ref a_item, w_aside])), (a_sort, .inl (y 0, 6, .inl g24_)), (a_length, .inl (y 0, 6, .inl g27_)), (a_item, .inl (y 1, 360, .inr (.inl f_item)))]) hx hb hK hS hW 2 rfl (zr_in b9_ (by decide) (by decide)) (fun _ => rfl) dX10_tape_65 (fun g27_ H locs eg27_ hW hS => ?_)
            have b28_ : ∀ j_, 0 ≤ Int32.toInt (g27_ j_) ∧ Int32.toInt (g27_ j_) ≤ 60 := zall_upd eg27_ hf_length (by decide)
            refine lv_iconst (v := 0) hx hb dX10_tape_66 (by decide) ?_
            refine lv_istore (lv' := [(4, .int 0), (0, .ref a_this), (1, .int n0), (2, .int n1), (3, .int n2)]) hx hb dX10_tape_67 hl (by decide) rfl (fun ls hl => ?_)
            obtain ⟨x29_, ex29_⟩ : ∃ z : Int32, z = 0 := ⟨_, rfl⟩
            obtain ⟨g30_, eg30_⟩ : ∃ z : Nat → Int64, z = f_item := ⟨_, rfl⟩
            obtain ⟨n69_, hI69_⟩ : ∃ n : Nat, (0 ≤ Int32.toInt x29_ ∧ Int32.toInt x29_ ≤ 60) ∧ (60 - Int32.toInt x29_ < (n : Int)) ∧ zPD D A [(a_this, .inr (9, [w_windows, w_minutes, w_wet, w_comes, w_side, w_herFloor, w_herRoom, w_kind, w_v, w_floor, w_room, w_takes, w_rows, w_isShut, w_houses, w_the, w_fed, w_at, w_digits, w_text, w_clauses, w_word, w_number, w_from, w_to, w_sign, w_waits, w_signs, w_waiting, w_open, w_letters, w_pile, w_since, w_rain, w_shutAt, w_ways, w_path, w_rounds, w_round, w_bestPath, w_seen, w_seenWho, w_seenHarm, w_books, w_bookWho, w_bookWhen, w_hasImage, w_imageThe, w_imageWindows, w_imageMinutes, w_imageWet, w_imageComes, w_imageSide, w_imageFloor, w_imageRoom, w_imageRounds, w_imageSeen, w_imageBooks, w_imageKind, w_imageV, w_imageFloors, w_imageRooms, w_imageTakes, w_imageRows, w_imageRound, w_imageWho, w_imageHarm, w_imageBookWho, w_imageWhen, w_imageShut, w_ran, w_bodies, .ref a_sort, .ref a_length, .ref a_item, w_aside])), (a_sort, .inl (y 0, 6, .inl g24_)), (a_length, .inl (y 0, 6, .inl g27_)), (a_item, .inl (y 1, 360, .inr (.inl g30_)))] H ∧ va_S A s.heap H locs ∧ lv_has ls 5 [(4, .int x29_), (0, .ref a_this), (1, .int n0), (2, .int n1), (3, .int n2)] := ⟨(60 - Int32.toInt x29_ + 1).toNat, by (try rw [ex29_]); exact (by decide), by omega, by (try rw [ex29_]); (try rw [eg30_]); exact hW, hS, by (try rw [ex29_]); (try rw [eg30_]); exact hl⟩
            clear hW hS hl ex29_ eg30_
            induction n69_ generalizing x29_ g30_ H locs ls with
            | zero => obtain ⟨bx29_, hn, -⟩ := hI69_; exact absurd hn (by omega)
            | succ n ih =>
              obtain ⟨bx29_, hn, hW, hS, hl⟩ := hI69_
              refine lv_iload hx hb dX10_tape_69 (lv_at hl 0 rfl) ?_
              refine lv_bipush (v := 60) hx hb dX10_tape_71 (by decide) ?_
              refine lv_icmp_ge (tgt := 95) hx hb dX10_tape_73 (by decide) (fun c31_ => ?_) (fun c31_ => ?_)
              · have b32_ : 60 ≤ Int32.toInt x29_ ∧ Int32.toInt x29_ ≤ 60 := zr_le_r 60 c31_ bx29_ (show 60 ≤ Int32.toInt 60 ∧ Int32.toInt 60 ≤ 60 from (by decide)) (by decide)
                refine lv_iconst (v := 1) hx hb dX10_tape_95 (by decide) ?_
                exact zret_i (v := 1) hx hb hr hlocks hS (g24_, g27_, g30_) ⟨(by show _ = _; rw [if_neg c2_, if_neg c6_, if_neg c12_, if_neg c16_, if_pos c21_]), b25_, b28_, trivial⟩ hW (Nat.le_of_ble_eq_true rfl) (Nat.le_of_ble_eq_true rfl) dX10_tape_96
              · have b33_ : 0 ≤ Int32.toInt x29_ ∧ Int32.toInt x29_ ≤ 59 := zr_nle_r 59 c31_ bx29_ (show 60 ≤ Int32.toInt 60 ∧ Int32.toInt 60 ≤ 60 from (by decide)) (by decide)
                refine lv_aload_n hx hb dX10_tape_76 rfl (lv_at hl 1 rfl) ?_
                refine zget hx hb ht inlX10 hown hK hW 0 rfl rfl 74 (by decide) zm_214 rfl dX10_tape_77 ?_
                refine lv_bipush (v := 60) hx hb dX10_tape_80 (by decide) ?_
                refine lv_iload_n hx hb dX10_tape_82 rfl (lv_at hl 2 rfl) ?_
                refine lv_imul hx hb dX10_tape_83 ?_
                have q35_ : Int32.toInt (60 * n0) = 60 * Int32.toInt n0 := by have u0 := (show (60 : Int32).toInt = 60 from (by decide)); have u1 := b9_; have u2 := zmul 60 n0 (by rw [u0]; omega) (by rw [u0]; omega); rw [u0] at u2; omega
                have b34_ : 0 ≤ Int32.toInt (60 * n0) ∧ Int32.toInt (60 * n0) ≤ 300 := by have u0 := (show (60 : Int32).toInt = 60 from (by decide)); have u1 := b9_; omega
                refine lv_iload hx hb dX10_tape_84 (lv_at hl 0 rfl) ?_
                refine lv_iadd hx hb dX10_tape_86 ?_
                obtain ⟨q37_, b36_⟩ : (Int32.toInt ((60 * n0) + x29_) = Int32.toInt (60 * n0) + Int32.toInt x29_) ∧ (0 ≤ Int32.toInt ((60 * n0) + x29_) ∧ Int32.toInt ((60 * n0) + x29_) ≤ 359) := zadd_r (60 * n0) x29_ 0 359 b34_ b33_ (by decide) (by decide) (by decide) (by decide)
                refine lv_lconst (v := 0) hx hb dX10_tape_87 (by decide) ?_
                refine zlastN (ws' := fun g38_ => [(a_this, .inr (9, [w_windows, w_minutes, w_wet, w_comes, w_side, w_herFloor, w_herRoom, w_kind, w_v, w_floor, w_room, w_takes, w_rows, w_isShut, w_houses, w_the, w_fed, w_at, w_digits, w_text, w_clauses, w_word, w_number, w_from, w_to, w_sign, w_waits, w_signs, w_waiting, w_open, w_letters, w_pile, w_since, w_rain, w_shutAt, w_ways, w_path, w_rounds, w_round, w_bestPath, w_seen, w_seenWho, w_seenHarm, w_books, w_bookWho, w_bookWhen, w_hasImage, w_imageThe, w_imageWindows, w_imageMinutes, w_imageWet, w_imageComes, w_imageSide, w_imageFloor, w_imageRoom, w_imageRounds, w_imageSeen, w_imageBooks, w_imageKind, w_imageV, w_imageFloors, w_imageRooms, w_imageTakes, w_imageRows, w_imageRound, w_imageWho, w_imageHarm, w_imageBookWho, w_imageWhen, w_imageShut, w_ran, w_bodies, .ref a_sort, .ref a_length, .ref a_item, w_aside])), (a_sort, .inl (y 0, 6, .inl g24_)), (a_length, .inl (y 0, 6, .inl g27_)), (a_item, .inl (y 1, 360, .inr (.inl g38_)))]) hx hb hK hS hW 3 rfl (zr_in b36_ (by decide) (by decide)) (fun _ => rfl) dX10_tape_88 (fun g38_ H locs eg38_ hW hS => ?_)
                refine lv_iinc (k := 0) (v := (x29_ + 1)) (lv' := [(4, .int (x29_ + 1)), (0, .ref a_this), (1, .int n0), (2, .int n1), (3, .int n2)]) hx hb dX10_tape_89 hl rfl (by rfl) (by decide) rfl (fun ls hl => ?_)
                obtain ⟨q40_, b39_⟩ : (Int32.toInt (x29_ + 1) = Int32.toInt x29_ + 1) ∧ (1 ≤ Int32.toInt (x29_ + 1) ∧ Int32.toInt (x29_ + 1) ≤ 60) := zadd_k x29_ 1 1 1 60 b33_ (by decide) (by decide) (by decide) (by decide) (by decide)
                refine lv_goto (tgt := 69) hx hb dX10_tape_92 (by decide) ?_
                exact ih _ _ _ _ _ ⟨(zr_wide b39_ (by decide) (by decide)), by have u0 := q40_; omega, hW, hS, (lv_sub hl [0, 1, 2, 3, 4] rfl)⟩
          · have b41_ : 0 ≤ Int32.toInt n1 ∧ Int32.toInt n1 ≤ 4 := zr_nlt_l 0 c21_ b19_ (show 0 ≤ Int32.toInt 0 ∧ Int32.toInt 0 ≤ 0 from (by decide)) (by decide)
            refine lv_iload_n hx hb dX10_tape_24 rfl (lv_at hl 3 rfl) ?_
            refine lv_bipush (v := 60) hx hb dX10_tape_25 (by decide) ?_
            refine lv_icmp_le (tgt := 33) hx hb dX10_tape_27 (by decide) (fun c42_ => ?_) (fun c42_ => ?_)
            · have b43_ : (-2147483648) ≤ Int32.toInt n2 ∧ Int32.toInt n2 ≤ 60 := zr_le_l 60 c42_ (zbnd n2) (show 60 ≤ Int32.toInt 60 ∧ Int32.toInt 60 ≤ 60 from (by decide)) (by decide)
              refine lv_iload_n hx hb dX10_tape_33 rfl (lv_at hl 2 rfl) ?_
              refine lv_if_lt (tgt := 44) hx hb dX10_tape_34 (by decide) (fun c44_ => absurd c44_ c21_) (fun c44_ => ?_)
              refine lv_iload_n hx hb dX10_tape_37 rfl (lv_at hl 3 rfl) ?_
              refine lv_if_ge (tgt := 44) hx hb dX10_tape_38 (by decide) (fun c45_ => ?_) (fun c45_ => ?_)
              · have b46_ : 0 ≤ Int32.toInt n2 ∧ Int32.toInt n2 ≤ 60 := zr_le_r 0 c45_ b43_ (show 0 ≤ Int32.toInt 0 ∧ Int32.toInt 0 ≤ 0 from (by decide)) (by decide)
                refine lv_aload_n hx hb dX10_tape_44 rfl (lv_at hl 0 rfl) ?_
                refine zget hx hb ht inlX10 hown hK hW 0 rfl rfl 72 (by decide) zm_212 rfl dX10_tape_45 ?_
                refine lv_iload_n hx hb dX10_tape_48 rfl (lv_at hl 1 rfl) ?_
                refine lv_iload_n hx hb dX10_tape_49 rfl (lv_at hl 2 rfl) ?_
                refine ziastN (ws' := fun g47_ => [(a_this, .inr (9, [w_windows, w_minutes, w_wet, w_comes, w_side, w_herFloor, w_herRoom, w_kind, w_v, w_floor, w_room, w_takes, w_rows, w_isShut, w_houses, w_the, w_fed, w_at, w_digits, w_text, w_clauses, w_word, w_number, w_from, w_to, w_sign, w_waits, w_signs, w_waiting, w_open, w_letters, w_pile, w_since, w_rain, w_shutAt, w_ways, w_path, w_rounds, w_round, w_bestPath, w_seen, w_seenWho, w_seenHarm, w_books, w_bookWho, w_bookWhen, w_hasImage, w_imageThe, w_imageWindows, w_imageMinutes, w_imageWet, w_imageComes, w_imageSide, w_imageFloor, w_imageRoom, w_imageRounds, w_imageSeen, w_imageBooks, w_imageKind, w_imageV, w_imageFloors, w_imageRooms, w_imageTakes, w_imageRows, w_imageRound, w_imageWho, w_imageHarm, w_imageBookWho, w_imageWhen, w_imageShut, w_ran, w_bodies, .ref a_sort, .ref a_length, .ref a_item, w_aside])), (a_sort, .inl (y 0, 6, .inl g47_)), (a_length, .inl (y 0, 6, .inl f_length)), (a_item, .inl (y 1, 360, .inr (.inl f_item)))]) hx hb hK hS hW 1 rfl (zr_in b9_ (by decide) (by decide)) (fun _ => rfl) dX10_tape_50 (fun g47_ H locs eg47_ hW hS => ?_)
                have b48_ : ∀ j_, (-1) ≤ Int32.toInt (g47_ j_) ∧ Int32.toInt (g47_ j_) ≤ 4 := zall_upd eg47_ hf_sort (zr_wide b41_ (by decide) (by decide))
                refine lv_aload_n hx hb dX10_tape_51 rfl (lv_at hl 0 rfl) ?_
                refine zget hx hb ht inlX10 hown hK hW 0 rfl rfl 73 (by decide) zm_213 rfl dX10_tape_52 ?_
                refine lv_iload_n hx hb dX10_tape_55 rfl (lv_at hl 1 rfl) ?_
                refine lv_iload_n hx hb dX10_tape_56 rfl (lv_at hl 2 rfl) ?_
                refine lv_if_ge (tgt := 64) hx hb dX10_tape_57 (by decide) (fun c49_ => ?_) (fun c49_ => absurd (by have z0 := b41_; have e0 : (0 : Int32).toInt = 0 := (by decide); rw [zi_le]; omega) c49_)
                refine lv_iload_n hx hb dX10_tape_64 rfl (lv_at hl 3 rfl) ?_
                refine ziastN (ws' := fun g50_ => [(a_this, .inr (9, [w_windows, w_minutes, w_wet, w_comes, w_side, w_herFloor, w_herRoom, w_kind, w_v, w_floor, w_room, w_takes, w_rows, w_isShut, w_houses, w_the, w_fed, w_at, w_digits, w_text, w_clauses, w_word, w_number, w_from, w_to, w_sign, w_waits, w_signs, w_waiting, w_open, w_letters, w_pile, w_since, w_rain, w_shutAt, w_ways, w_path, w_rounds, w_round, w_bestPath, w_seen, w_seenWho, w_seenHarm, w_books, w_bookWho, w_bookWhen, w_hasImage, w_imageThe, w_imageWindows, w_imageMinutes, w_imageWet, w_imageComes, w_imageSide, w_imageFloor, w_imageRoom, w_imageRounds, w_imageSeen, w_imageBooks, w_imageKind, w_imageV, w_imageFloors, w_imageRooms, w_imageTakes, w_imageRows, w_imageRound, w_imageWho, w_imageHarm, w_imageBookWho, w_imageWhen, w_imageShut, w_ran, w_bodies, .ref a_sort, .ref a_length, .ref a_item, w_aside])), (a_sort, .inl (y 0, 6, .inl g47_)), (a_length, .inl (y 0, 6, .inl g50_)), (a_item, .inl (y 1, 360, .inr (.inl f_item)))]) hx hb hK hS hW 2 rfl (zr_in b9_ (by decide) (by decide)) (fun _ => rfl) dX10_tape_65 (fun g50_ H locs eg50_ hW hS => ?_)
                have b51_ : ∀ j_, 0 ≤ Int32.toInt (g50_ j_) ∧ Int32.toInt (g50_ j_) ≤ 60 := zall_upd eg50_ hf_length (zr_wide b46_ (by decide) (by decide))
                refine lv_iconst (v := 0) hx hb dX10_tape_66 (by decide) ?_
                refine lv_istore (lv' := [(4, .int 0), (0, .ref a_this), (1, .int n0), (2, .int n1), (3, .int n2)]) hx hb dX10_tape_67 hl (by decide) rfl (fun ls hl => ?_)
                obtain ⟨x52_, ex52_⟩ : ∃ z : Int32, z = 0 := ⟨_, rfl⟩
                obtain ⟨g53_, eg53_⟩ : ∃ z : Nat → Int64, z = f_item := ⟨_, rfl⟩
                obtain ⟨n69_, hI69_⟩ : ∃ n : Nat, (0 ≤ Int32.toInt x52_ ∧ Int32.toInt x52_ ≤ 60) ∧ (60 - Int32.toInt x52_ < (n : Int)) ∧ zPD D A [(a_this, .inr (9, [w_windows, w_minutes, w_wet, w_comes, w_side, w_herFloor, w_herRoom, w_kind, w_v, w_floor, w_room, w_takes, w_rows, w_isShut, w_houses, w_the, w_fed, w_at, w_digits, w_text, w_clauses, w_word, w_number, w_from, w_to, w_sign, w_waits, w_signs, w_waiting, w_open, w_letters, w_pile, w_since, w_rain, w_shutAt, w_ways, w_path, w_rounds, w_round, w_bestPath, w_seen, w_seenWho, w_seenHarm, w_books, w_bookWho, w_bookWhen, w_hasImage, w_imageThe, w_imageWindows, w_imageMinutes, w_imageWet, w_imageComes, w_imageSide, w_imageFloor, w_imageRoom, w_imageRounds, w_imageSeen, w_imageBooks, w_imageKind, w_imageV, w_imageFloors, w_imageRooms, w_imageTakes, w_imageRows, w_imageRound, w_imageWho, w_imageHarm, w_imageBookWho, w_imageWhen, w_imageShut, w_ran, w_bodies, .ref a_sort, .ref a_length, .ref a_item, w_aside])), (a_sort, .inl (y 0, 6, .inl g47_)), (a_length, .inl (y 0, 6, .inl g50_)), (a_item, .inl (y 1, 360, .inr (.inl g53_)))] H ∧ va_S A s.heap H locs ∧ lv_has ls 5 [(4, .int x52_), (0, .ref a_this), (1, .int n0), (2, .int n1), (3, .int n2)] := ⟨(60 - Int32.toInt x52_ + 1).toNat, by (try rw [ex52_]); exact (by decide), by omega, by (try rw [ex52_]); (try rw [eg53_]); exact hW, hS, by (try rw [ex52_]); (try rw [eg53_]); exact hl⟩
                clear hW hS hl ex52_ eg53_
                induction n69_ generalizing x52_ g53_ H locs ls with
                | zero => obtain ⟨bx52_, hn, -⟩ := hI69_; exact absurd hn (by omega)
                | succ n ih =>
                  obtain ⟨bx52_, hn, hW, hS, hl⟩ := hI69_
                  refine lv_iload hx hb dX10_tape_69 (lv_at hl 0 rfl) ?_
                  refine lv_bipush (v := 60) hx hb dX10_tape_71 (by decide) ?_
                  refine lv_icmp_ge (tgt := 95) hx hb dX10_tape_73 (by decide) (fun c54_ => ?_) (fun c54_ => ?_)
                  · have b55_ : 60 ≤ Int32.toInt x52_ ∧ Int32.toInt x52_ ≤ 60 := zr_le_r 60 c54_ bx52_ (show 60 ≤ Int32.toInt 60 ∧ Int32.toInt 60 ≤ 60 from (by decide)) (by decide)
                    refine lv_iconst (v := 1) hx hb dX10_tape_95 (by decide) ?_
                    exact zret_i (v := 1) hx hb hr hlocks hS (g47_, g50_, g53_) ⟨(by show _ = _; rw [if_neg c2_, if_neg c6_, if_neg c12_, if_neg c16_, if_neg c21_, if_pos c42_, if_pos c45_]), b48_, b51_, trivial⟩ hW (Nat.le_of_ble_eq_true rfl) (Nat.le_of_ble_eq_true rfl) dX10_tape_96
                  · have b56_ : 0 ≤ Int32.toInt x52_ ∧ Int32.toInt x52_ ≤ 59 := zr_nle_r 59 c54_ bx52_ (show 60 ≤ Int32.toInt 60 ∧ Int32.toInt 60 ≤ 60 from (by decide)) (by decide)
                    refine lv_aload_n hx hb dX10_tape_76 rfl (lv_at hl 1 rfl) ?_
                    refine zget hx hb ht inlX10 hown hK hW 0 rfl rfl 74 (by decide) zm_214 rfl dX10_tape_77 ?_
                    refine lv_bipush (v := 60) hx hb dX10_tape_80 (by decide) ?_
                    refine lv_iload_n hx hb dX10_tape_82 rfl (lv_at hl 2 rfl) ?_
                    refine lv_imul hx hb dX10_tape_83 ?_
                    have q58_ : Int32.toInt (60 * n0) = 60 * Int32.toInt n0 := by have u0 := (show (60 : Int32).toInt = 60 from (by decide)); have u1 := b9_; have u2 := zmul 60 n0 (by rw [u0]; omega) (by rw [u0]; omega); rw [u0] at u2; omega
                    have b57_ : 0 ≤ Int32.toInt (60 * n0) ∧ Int32.toInt (60 * n0) ≤ 300 := by have u0 := (show (60 : Int32).toInt = 60 from (by decide)); have u1 := b9_; omega
                    refine lv_iload hx hb dX10_tape_84 (lv_at hl 0 rfl) ?_
                    refine lv_iadd hx hb dX10_tape_86 ?_
                    obtain ⟨q60_, b59_⟩ : (Int32.toInt ((60 * n0) + x52_) = Int32.toInt (60 * n0) + Int32.toInt x52_) ∧ (0 ≤ Int32.toInt ((60 * n0) + x52_) ∧ Int32.toInt ((60 * n0) + x52_) ≤ 359) := zadd_r (60 * n0) x52_ 0 359 b57_ b56_ (by decide) (by decide) (by decide) (by decide)
                    refine lv_lconst (v := 0) hx hb dX10_tape_87 (by decide) ?_
                    refine zlastN (ws' := fun g61_ => [(a_this, .inr (9, [w_windows, w_minutes, w_wet, w_comes, w_side, w_herFloor, w_herRoom, w_kind, w_v, w_floor, w_room, w_takes, w_rows, w_isShut, w_houses, w_the, w_fed, w_at, w_digits, w_text, w_clauses, w_word, w_number, w_from, w_to, w_sign, w_waits, w_signs, w_waiting, w_open, w_letters, w_pile, w_since, w_rain, w_shutAt, w_ways, w_path, w_rounds, w_round, w_bestPath, w_seen, w_seenWho, w_seenHarm, w_books, w_bookWho, w_bookWhen, w_hasImage, w_imageThe, w_imageWindows, w_imageMinutes, w_imageWet, w_imageComes, w_imageSide, w_imageFloor, w_imageRoom, w_imageRounds, w_imageSeen, w_imageBooks, w_imageKind, w_imageV, w_imageFloors, w_imageRooms, w_imageTakes, w_imageRows, w_imageRound, w_imageWho, w_imageHarm, w_imageBookWho, w_imageWhen, w_imageShut, w_ran, w_bodies, .ref a_sort, .ref a_length, .ref a_item, w_aside])), (a_sort, .inl (y 0, 6, .inl g47_)), (a_length, .inl (y 0, 6, .inl g50_)), (a_item, .inl (y 1, 360, .inr (.inl g61_)))]) hx hb hK hS hW 3 rfl (zr_in b59_ (by decide) (by decide)) (fun _ => rfl) dX10_tape_88 (fun g61_ H locs eg61_ hW hS => ?_)
                    refine lv_iinc (k := 0) (v := (x52_ + 1)) (lv' := [(4, .int (x52_ + 1)), (0, .ref a_this), (1, .int n0), (2, .int n1), (3, .int n2)]) hx hb dX10_tape_89 hl rfl (by rfl) (by decide) rfl (fun ls hl => ?_)
                    obtain ⟨q63_, b62_⟩ : (Int32.toInt (x52_ + 1) = Int32.toInt x52_ + 1) ∧ (1 ≤ Int32.toInt (x52_ + 1) ∧ Int32.toInt (x52_ + 1) ≤ 60) := zadd_k x52_ 1 1 1 60 b56_ (by decide) (by decide) (by decide) (by decide) (by decide)
                    refine lv_goto (tgt := 69) hx hb dX10_tape_92 (by decide) ?_
                    exact ih _ _ _ _ _ ⟨(zr_wide b62_ (by decide) (by decide)), by have u0 := q63_; omega, hW, hS, (lv_sub hl [0, 1, 2, 3, 4] rfl)⟩
              · have b64_ : (-2147483648) ≤ Int32.toInt n2 ∧ Int32.toInt n2 ≤ (-1) := zr_nle_r (-1) c45_ b43_ (show 0 ≤ Int32.toInt 0 ∧ Int32.toInt 0 ≤ 0 from (by decide)) (by decide)
                refine lv_bipush (v := (-14)) hx hb dX10_tape_41 (by decide) ?_
                exact zret_i (v := (-14)) hx hb hr hlocks hS (f_sort, f_length, f_item) ⟨(by show _ = _; rw [if_neg c2_, if_neg c6_, if_neg c12_, if_neg c16_, if_neg c21_, if_pos c42_, if_neg c45_]), hf_sort, hf_length, trivial⟩ hW (Nat.le_of_ble_eq_true rfl) (Nat.le_of_ble_eq_true rfl) dX10_tape_43
            · have b65_ : 61 ≤ Int32.toInt n2 ∧ Int32.toInt n2 ≤ 2147483647 := zr_nle_l 61 c42_ (zbnd n2) (show 60 ≤ Int32.toInt 60 ∧ Int32.toInt 60 ≤ 60 from (by decide)) (by decide)
              refine lv_bipush (v := (-2)) hx hb dX10_tape_30 (by decide) ?_
              exact zret_i (v := (-2)) hx hb hr hlocks hS (f_sort, f_length, f_item) ⟨(by show _ = _; rw [if_neg c2_, if_neg c6_, if_neg c12_, if_neg c16_, if_neg c21_, if_neg c42_]), hf_sort, hf_length, trivial⟩ hW (Nat.le_of_ble_eq_true rfl) (Nat.le_of_ble_eq_true rfl) dX10_tape_32
set_option maxHeartbeats 8000000 in
set_option maxRecDepth 100000 in
theorem zd_X10_narrow_x_x (l : Launch) (D : va_G) (y : Nat → ClassId) (a_this : Nat) (w_windows : Value) (w_minutes : Value) (w_wet : Value) (w_comes : Value) (w_side : Value) (w_herFloor : Value) (w_herRoom : Value) (w_kind : Value) (w_v : Value) (w_floor : Value) (w_room : Value) (w_takes : Value) (w_rows : Value) (w_isShut : Value) (w_houses : Value) (w_the : Value) (w_fed : Value) (w_at : Value) (w_digits : Value) (w_text : Value) (w_clauses : Value) (w_word : Value) (w_number : Value) (w_from : Value) (w_to : Value) (w_sign : Value) (w_waits : Value) (w_signs : Value) (w_waiting : Value) (w_open : Value) (w_letters : Value) (w_pile : Value) (w_since : Value) (w_rain : Value) (w_shutAt : Value) (w_ways : Value) (w_path : Value) (w_rounds : Value) (w_round : Value) (w_bestPath : Value) (w_seen : Value) (w_seenWho : Value) (w_seenHarm : Value) (w_books : Value) (w_bookWho : Value) (w_bookWhen : Value) (w_hasImage : Value) (w_imageThe : Value) (w_imageWindows : Value) (w_imageMinutes : Value) (w_imageWet : Value) (w_imageComes : Value) (w_imageSide : Value) (w_imageFloor : Value) (w_imageRoom : Value) (w_imageRounds : Value) (w_imageSeen : Value) (w_imageBooks : Value) (w_imageKind : Value) (w_imageV : Value) (w_imageFloors : Value) (w_imageRooms : Value) (w_imageTakes : Value) (w_imageRows : Value) (w_imageRound : Value) (w_imageWho : Value) (w_imageHarm : Value) (w_imageBookWho : Value) (w_imageWhen : Value) (w_imageShut : Value) (w_ran : Value) (w_bodies : Value) (w_sort : Value) (w_length : Value) (w_item : Value) (w_aside : Value) (n0 : Int32) (n1 : Int64) : zM l D y yX10_narrow (Cond.code yX10_narrow cX10_narrow 4 (some .long) :: zT) { frames := 0, cells := 0, slots := 0, locals := 0 } [.ref a_this, .int n0, .long n1] [(a_this, .inr (9, [w_windows, w_minutes, w_wet, w_comes, w_side, w_herFloor, w_herRoom, w_kind, w_v, w_floor, w_room, w_takes, w_rows, w_isShut, w_houses, w_the, w_fed, w_at, w_digits, w_text, w_clauses, w_word, w_number, w_from, w_to, w_sign, w_waits, w_signs, w_waiting, w_open, w_letters, w_pile, w_since, w_rain, w_shutAt, w_ways, w_path, w_rounds, w_round, w_bestPath, w_seen, w_seenWho, w_seenHarm, w_books, w_bookWho, w_bookWhen, w_hasImage, w_imageThe, w_imageWindows, w_imageMinutes, w_imageWet, w_imageComes, w_imageSide, w_imageFloor, w_imageRoom, w_imageRounds, w_imageSeen, w_imageBooks, w_imageKind, w_imageV, w_imageFloors, w_imageRooms, w_imageTakes, w_imageRows, w_imageRound, w_imageWho, w_imageHarm, w_imageBookWho, w_imageWhen, w_imageShut, w_ran, w_bodies, w_sort, w_length, w_item, w_aside]))] (zQl (S := Unit) D (fun r_ _ => (r_ = (if n0 = 0 then (Int32.toInt64 (Int8.toInt32 (Int32.toInt8 (Int64.toInt32 n1)))) else (if n0 = 1 then (Int32.toInt64 (Int16.toInt32 (Int32.toInt16 (Int64.toInt32 n1)))) else (if n0 = 2 then (Int32.toInt64 (Int64.toInt32 n1)) else (if n0 = 4 then (if (lg_cmp n1 0) = 0 then 0 else 1) else n1))))) ∧ True) (fun _ => [(a_this, .inr (9, [w_windows, w_minutes, w_wet, w_comes, w_side, w_herFloor, w_herRoom, w_kind, w_v, w_floor, w_room, w_takes, w_rows, w_isShut, w_houses, w_the, w_fed, w_at, w_digits, w_text, w_clauses, w_word, w_number, w_from, w_to, w_sign, w_waits, w_signs, w_waiting, w_open, w_letters, w_pile, w_since, w_rain, w_shutAt, w_ways, w_path, w_rounds, w_round, w_bestPath, w_seen, w_seenWho, w_seenHarm, w_books, w_bookWho, w_bookWhen, w_hasImage, w_imageThe, w_imageWindows, w_imageMinutes, w_imageWet, w_imageComes, w_imageSide, w_imageFloor, w_imageRoom, w_imageRounds, w_imageSeen, w_imageBooks, w_imageKind, w_imageV, w_imageFloors, w_imageRooms, w_imageTakes, w_imageRows, w_imageRound, w_imageWho, w_imageHarm, w_imageBookWho, w_imageWhen, w_imageShut, w_ran, w_bodies, w_sort, w_length, w_item, w_aside]))])) := by
  refine zent (cc := cX10_narrow) (maxL := 4) (ret := (some .long)) (by decide) (Nat.le_of_ble_eq_true rfl) ?_
  intro p e s m below meth c A H locs ls hx hb hml hr ht hown hlocks hin hA hK hE hS hW hl
  replace hown : s.vm.findClass RX10 = some m.cls := hown
  replace hW : zPD D A [(a_this, .inr (9, [w_windows, w_minutes, w_wet, w_comes, w_side, w_herFloor, w_herRoom, w_kind, w_v, w_floor, w_room, w_takes, w_rows, w_isShut, w_houses, w_the, w_fed, w_at, w_digits, w_text, w_clauses, w_word, w_number, w_from, w_to, w_sign, w_waits, w_signs, w_waiting, w_open, w_letters, w_pile, w_since, w_rain, w_shutAt, w_ways, w_path, w_rounds, w_round, w_bestPath, w_seen, w_seenWho, w_seenHarm, w_books, w_bookWho, w_bookWhen, w_hasImage, w_imageThe, w_imageWindows, w_imageMinutes, w_imageWet, w_imageComes, w_imageSide, w_imageFloor, w_imageRoom, w_imageRounds, w_imageSeen, w_imageBooks, w_imageKind, w_imageV, w_imageFloors, w_imageRooms, w_imageTakes, w_imageRows, w_imageRound, w_imageWho, w_imageHarm, w_imageBookWho, w_imageWhen, w_imageShut, w_ran, w_bodies, w_sort, w_length, w_item, w_aside]))] H := hW
  replace hl : lv_has ls 4 [(0, .ref a_this), (1, .int n0), (2, .long n1)] := hl
  refine lv_iload_n hx hb dX10_narrow_0 rfl (lv_at hl 1 rfl) ?_
  refine lv_if_ne (tgt := 11) hx hb dX10_narrow_1 (by decide) (fun c1_ => ?_) (fun c1_ => ?_)
  · refine lv_iload_n hx hb dX10_narrow_11 rfl (lv_at hl 1 rfl) ?_
    refine lv_iconst (v := 1) hx hb dX10_narrow_12 (by decide) ?_
    refine lv_icmp_ne (tgt := 23) hx hb dX10_narrow_13 (by decide) (fun c2_ => ?_) (fun c2_ => ?_)
    · refine lv_iload_n hx hb dX10_narrow_23 rfl (lv_at hl 1 rfl) ?_
      refine lv_iconst (v := 2) hx hb dX10_narrow_24 (by decide) ?_
      refine lv_icmp_ne (tgt := 34) hx hb dX10_narrow_25 (by decide) (fun c3_ => ?_) (fun c3_ => ?_)
      · refine lv_iload_n hx hb dX10_narrow_34 rfl (lv_at hl 1 rfl) ?_
        refine lv_iconst (v := 4) hx hb dX10_narrow_35 (by decide) ?_
        refine lv_icmp_ne (tgt := 53) hx hb dX10_narrow_36 (by decide) (fun c4_ => ?_) (fun c4_ => ?_)
        · refine lv_lload_n hx hb dX10_narrow_53 rfl (lv_at hl 2 rfl) ?_
          exact zret_l (v := n1) hx hb hr hlocks hS () ⟨(by show _ = _; rw [if_neg c1_, if_neg c2_, if_neg c3_, if_neg c4_]), trivial⟩ hW (Nat.le_of_ble_eq_true rfl) (Nat.le_of_ble_eq_true rfl) dX10_narrow_54
        · have b5_ : 4 ≤ Int32.toInt n0 ∧ Int32.toInt n0 ≤ 4 := zr_eq_l c4_ (show 4 ≤ Int32.toInt 4 ∧ Int32.toInt 4 ≤ 4 from (by decide))
          refine lv_lload_n hx hb dX10_narrow_39 rfl (lv_at hl 2 rfl) ?_
          refine lv_lconst (v := 0) hx hb dX10_narrow_40 (by decide) ?_
          refine W.lcmp hx hb dX10_narrow_41 ?_
          refine lv_if_eq (tgt := 49) hx hb dX10_narrow_42 (by decide) (fun c6_ => ?_) (fun c6_ => ?_)
          · have b7_ : 0 ≤ Int32.toInt (lg_cmp n1 0) ∧ Int32.toInt (lg_cmp n1 0) ≤ 0 := zr_eq_l c6_ (show 0 ≤ Int32.toInt 0 ∧ Int32.toInt 0 ≤ 0 from (by decide))
            refine lv_lconst (v := 0) hx hb dX10_narrow_49 (by decide) ?_
            refine lv_goto (tgt := 54) hx hb dX10_narrow_50 (by decide) ?_
            exact zret_l (v := 0) hx hb hr hlocks hS () ⟨(by show _ = _; rw [if_neg c1_, if_neg c2_, if_neg c3_, if_pos c4_, if_pos c6_]), trivial⟩ hW (Nat.le_of_ble_eq_true rfl) (Nat.le_of_ble_eq_true rfl) dX10_narrow_54
          · refine lv_lconst (v := 1) hx hb dX10_narrow_45 (by decide) ?_
            refine lv_goto (tgt := 54) hx hb dX10_narrow_46 (by decide) ?_
            exact zret_l (v := 1) hx hb hr hlocks hS () ⟨(by show _ = _; rw [if_neg c1_, if_neg c2_, if_neg c3_, if_pos c4_, if_neg c6_]), trivial⟩ hW (Nat.le_of_ble_eq_true rfl) (Nat.le_of_ble_eq_true rfl) dX10_narrow_54
      · have b8_ : 2 ≤ Int32.toInt n0 ∧ Int32.toInt n0 ≤ 2 := zr_eq_l c3_ (show 2 ≤ Int32.toInt 2 ∧ Int32.toInt 2 ≤ 2 from (by decide))
        refine lv_lload_n hx hb dX10_narrow_28 rfl (lv_at hl 2 rfl) ?_
        refine lv_l2i (v := (Int64.toInt32 n1)) hx hb dX10_narrow_29 rfl ?_
        refine lv_i2l (v := (Int32.toInt64 (Int64.toInt32 n1))) hx hb dX10_narrow_30 rfl ?_
        refine lv_goto (tgt := 54) hx hb dX10_narrow_31 (by decide) ?_
        exact zret_l (v := (Int32.toInt64 (Int64.toInt32 n1))) hx hb hr hlocks hS () ⟨(by show _ = _; rw [if_neg c1_, if_neg c2_, if_pos c3_]), trivial⟩ hW (Nat.le_of_ble_eq_true rfl) (Nat.le_of_ble_eq_true rfl) dX10_narrow_54
    · have b9_ : 1 ≤ Int32.toInt n0 ∧ Int32.toInt n0 ≤ 1 := zr_eq_l c2_ (show 1 ≤ Int32.toInt 1 ∧ Int32.toInt 1 ≤ 1 from (by decide))
      refine lv_lload_n hx hb dX10_narrow_16 rfl (lv_at hl 2 rfl) ?_
      refine lv_l2i (v := (Int64.toInt32 n1)) hx hb dX10_narrow_17 rfl ?_
      refine lv_i2s (v := (Int16.toInt32 (Int32.toInt16 (Int64.toInt32 n1)))) hx hb dX10_narrow_18 rfl ?_
      refine lv_i2l (v := (Int32.toInt64 (Int16.toInt32 (Int32.toInt16 (Int64.toInt32 n1))))) hx hb dX10_narrow_19 rfl ?_
      refine lv_goto (tgt := 54) hx hb dX10_narrow_20 (by decide) ?_
      exact zret_l (v := (Int32.toInt64 (Int16.toInt32 (Int32.toInt16 (Int64.toInt32 n1))))) hx hb hr hlocks hS () ⟨(by show _ = _; rw [if_neg c1_, if_pos c2_]), trivial⟩ hW (Nat.le_of_ble_eq_true rfl) (Nat.le_of_ble_eq_true rfl) dX10_narrow_54
  · have b10_ : 0 ≤ Int32.toInt n0 ∧ Int32.toInt n0 ≤ 0 := zr_eq_l c1_ (show 0 ≤ Int32.toInt 0 ∧ Int32.toInt 0 ≤ 0 from (by decide))
    refine lv_lload_n hx hb dX10_narrow_4 rfl (lv_at hl 2 rfl) ?_
    refine lv_l2i (v := (Int64.toInt32 n1)) hx hb dX10_narrow_5 rfl ?_
    refine lv_i2b (v := (Int8.toInt32 (Int32.toInt8 (Int64.toInt32 n1)))) hx hb dX10_narrow_6 rfl ?_
    refine lv_i2l (v := (Int32.toInt64 (Int8.toInt32 (Int32.toInt8 (Int64.toInt32 n1))))) hx hb dX10_narrow_7 rfl ?_
    refine lv_goto (tgt := 54) hx hb dX10_narrow_8 (by decide) ?_
    exact zret_l (v := (Int32.toInt64 (Int8.toInt32 (Int32.toInt8 (Int64.toInt32 n1))))) hx hb hr hlocks hS () ⟨(by show _ = _; rw [if_pos c1_]), trivial⟩ hW (Nat.le_of_ble_eq_true rfl) (Nat.le_of_ble_eq_true rfl) dX10_narrow_54
set_option maxHeartbeats 8000000 in
set_option maxRecDepth 100000 in
theorem zd_X10_item_x_x_x (l : Launch) (D : va_G) (y : Nat → ClassId) (a_this : Nat) (a_sort : Nat) (a_length : Nat) (a_item : Nat) (w_windows : Value) (w_minutes : Value) (w_wet : Value) (w_comes : Value) (w_side : Value) (w_herFloor : Value) (w_herRoom : Value) (w_kind : Value) (w_v : Value) (w_floor : Value) (w_room : Value) (w_takes : Value) (w_rows : Value) (w_isShut : Value) (w_houses : Value) (w_the : Value) (w_fed : Value) (w_at : Value) (w_digits : Value) (w_text : Value) (w_clauses : Value) (w_word : Value) (w_number : Value) (w_from : Value) (w_to : Value) (w_sign : Value) (w_waits : Value) (w_signs : Value) (w_waiting : Value) (w_open : Value) (w_letters : Value) (w_pile : Value) (w_since : Value) (w_rain : Value) (w_shutAt : Value) (w_ways : Value) (w_path : Value) (w_rounds : Value) (w_round : Value) (w_bestPath : Value) (w_seen : Value) (w_seenWho : Value) (w_seenHarm : Value) (w_books : Value) (w_bookWho : Value) (w_bookWhen : Value) (w_hasImage : Value) (w_imageThe : Value) (w_imageWindows : Value) (w_imageMinutes : Value) (w_imageWet : Value) (w_imageComes : Value) (w_imageSide : Value) (w_imageFloor : Value) (w_imageRoom : Value) (w_imageRounds : Value) (w_imageSeen : Value) (w_imageBooks : Value) (w_imageKind : Value) (w_imageV : Value) (w_imageFloors : Value) (w_imageRooms : Value) (w_imageTakes : Value) (w_imageRows : Value) (w_imageRound : Value) (w_imageWho : Value) (w_imageHarm : Value) (w_imageBookWho : Value) (w_imageWhen : Value) (w_imageShut : Value) (w_ran : Value) (w_bodies : Value) (w_aside : Value) (f_sort : Nat → Int32) (f_length : Nat → Int32) (f_item : Nat → Int64) (n0 : Int32) (n1 : Int32) (n2 : Int64) (hf_sort : ∀ j_, (-1) ≤ Int32.toInt (f_sort j_) ∧ Int32.toInt (f_sort j_) ≤ 4) (hf_length : ∀ j_, 0 ≤ Int32.toInt (f_length j_) ∧ Int32.toInt (f_length j_) ≤ 60) : zM l D y yX10_item (Cond.code yX10_item cX10_item 5 (some .int) :: zT) { frames := 2, cells := 0, slots := 0, locals := 44 } [.ref a_this, .int n0, .int n1, .long n2] [(a_this, .inr (9, [w_windows, w_minutes, w_wet, w_comes, w_side, w_herFloor, w_herRoom, w_kind, w_v, w_floor, w_room, w_takes, w_rows, w_isShut, w_houses, w_the, w_fed, w_at, w_digits, w_text, w_clauses, w_word, w_number, w_from, w_to, w_sign, w_waits, w_signs, w_waiting, w_open, w_letters, w_pile, w_since, w_rain, w_shutAt, w_ways, w_path, w_rounds, w_round, w_bestPath, w_seen, w_seenWho, w_seenHarm, w_books, w_bookWho, w_bookWhen, w_hasImage, w_imageThe, w_imageWindows, w_imageMinutes, w_imageWet, w_imageComes, w_imageSide, w_imageFloor, w_imageRoom, w_imageRounds, w_imageSeen, w_imageBooks, w_imageKind, w_imageV, w_imageFloors, w_imageRooms, w_imageTakes, w_imageRows, w_imageRound, w_imageWho, w_imageHarm, w_imageBookWho, w_imageWhen, w_imageShut, w_ran, w_bodies, .ref a_sort, .ref a_length, .ref a_item, w_aside])), (a_sort, .inl (y 0, 6, .inl f_sort)), (a_length, .inl (y 0, 6, .inl f_length)), (a_item, .inl (y 1, 360, .inr (.inl f_item)))] (zQi (S := (Nat → Int64)) D (fun r_ g_item_ => ((-13) ≤ Int32.toInt r_ ∧ Int32.toInt r_ ≤ 1) ∧ True) (fun g_item_ => [(a_this, .inr (9, [w_windows, w_minutes, w_wet, w_comes, w_side, w_herFloor, w_herRoom, w_kind, w_v, w_floor, w_room, w_takes, w_rows, w_isShut, w_houses, w_the, w_fed, w_at, w_digits, w_text, w_clauses, w_word, w_number, w_from, w_to, w_sign, w_waits, w_signs, w_waiting, w_open, w_letters, w_pile, w_since, w_rain, w_shutAt, w_ways, w_path, w_rounds, w_round, w_bestPath, w_seen, w_seenWho, w_seenHarm, w_books, w_bookWho, w_bookWhen, w_hasImage, w_imageThe, w_imageWindows, w_imageMinutes, w_imageWet, w_imageComes, w_imageSide, w_imageFloor, w_imageRoom, w_imageRounds, w_imageSeen, w_imageBooks, w_imageKind, w_imageV, w_imageFloors, w_imageRooms, w_imageTakes, w_imageRows, w_imageRound, w_imageWho, w_imageHarm, w_imageBookWho, w_imageWhen, w_imageShut, w_ran, w_bodies, .ref a_sort, .ref a_length, .ref a_item, w_aside])), (a_sort, .inl (y 0, 6, .inl f_sort)), (a_length, .inl (y 0, 6, .inl f_length)), (a_item, .inl (y 1, 360, .inr (.inl g_item_)))])) := by
  refine zent (cc := cX10_item) (maxL := 5) (ret := (some .int)) (by decide) (Nat.le_of_ble_eq_true rfl) ?_
  intro p e s m below meth c A H locs ls hx hb hml hr ht hown hlocks hin hA hK hE hS hW hl
  replace hown : s.vm.findClass RX10 = some m.cls := hown
  replace hW : zPD D A [(a_this, .inr (9, [w_windows, w_minutes, w_wet, w_comes, w_side, w_herFloor, w_herRoom, w_kind, w_v, w_floor, w_room, w_takes, w_rows, w_isShut, w_houses, w_the, w_fed, w_at, w_digits, w_text, w_clauses, w_word, w_number, w_from, w_to, w_sign, w_waits, w_signs, w_waiting, w_open, w_letters, w_pile, w_since, w_rain, w_shutAt, w_ways, w_path, w_rounds, w_round, w_bestPath, w_seen, w_seenWho, w_seenHarm, w_books, w_bookWho, w_bookWhen, w_hasImage, w_imageThe, w_imageWindows, w_imageMinutes, w_imageWet, w_imageComes, w_imageSide, w_imageFloor, w_imageRoom, w_imageRounds, w_imageSeen, w_imageBooks, w_imageKind, w_imageV, w_imageFloors, w_imageRooms, w_imageTakes, w_imageRows, w_imageRound, w_imageWho, w_imageHarm, w_imageBookWho, w_imageWhen, w_imageShut, w_ran, w_bodies, .ref a_sort, .ref a_length, .ref a_item, w_aside])), (a_sort, .inl (y 0, 6, .inl f_sort)), (a_length, .inl (y 0, 6, .inl f_length)), (a_item, .inl (y 1, 360, .inr (.inl f_item)))] H := hW
  replace hl : lv_has ls 5 [(0, .ref a_this), (1, .int n0), (2, .int n1), (3, .long n2)] := hl
  refine lv_aload_n hx hb dX10_item_0 rfl (lv_at hl 0 rfl) ?_
  refine lv_iload_n hx hb dX10_item_1 rfl (lv_at hl 1 rfl) ?_
  refine zgo_i (wr := [(a_sort, .inl (y 0, 6, .inl f_sort)), (a_length, .inl (y 0, 6, .inl f_length)), (a_item, .inl (y 1, 360, .inr (.inl f_item)))]) (zrunV (As := [.int n0]) (rest := []) ⟨hx, hb, hml, hown, ht⟩ (zd_X10_isTape_x l D y a_this w_windows w_minutes w_wet w_comes w_side w_herFloor w_herRoom w_kind w_v w_floor w_room w_takes w_rows w_isShut w_houses w_the w_fed w_at w_digits w_text w_clauses w_word w_number w_from w_to w_sign w_waits w_signs w_waiting w_open w_letters w_pile w_since w_rain w_shutAt w_ways w_path w_rounds w_round w_bestPath w_seen w_seenWho w_seenHarm w_books w_bookWho w_bookWhen w_hasImage w_imageThe w_imageWindows w_imageMinutes w_imageWet w_imageComes w_imageSide w_imageFloor w_imageRoom w_imageRounds w_imageSeen w_imageBooks w_imageKind w_imageV w_imageFloors w_imageRooms w_imageTakes w_imageRows w_imageRound w_imageWho w_imageHarm w_imageBookWho w_imageWhen w_imageShut w_ran w_bodies (.ref a_sort) (.ref a_length) (.ref a_item) w_aside n0) (cwV 1 ht (zgV zm_1097 zm_1098 zm_1099 zm_5 zm_1100) rfl rfl rfl (by decide +kernel) ⟨(Nat.le_of_ble_eq_true rfl), (Nat.le_of_ble_eq_true rfl)⟩) hK hE hS hA hW [0] (by decide) rfl 0 rfl rfl rfl rfl hl.1 rfl (Nat.le_of_ble_eq_true rfl) dX10_item_2 (Nat.le_of_ble_eq_true rfl) (Nat.le_of_ble_eq_true rfl)) hS hA hW [0] [1, 2, 3] rfl rfl (by decide) (by decide) (fun r1_ u H locs hw hW hS => ?_)
  replace hW : zPD D A [(a_this, .inr (9, [w_windows, w_minutes, w_wet, w_comes, w_side, w_herFloor, w_herRoom, w_kind, w_v, w_floor, w_room, w_takes, w_rows, w_isShut, w_houses, w_the, w_fed, w_at, w_digits, w_text, w_clauses, w_word, w_number, w_from, w_to, w_sign, w_waits, w_signs, w_waiting, w_open, w_letters, w_pile, w_since, w_rain, w_shutAt, w_ways, w_path, w_rounds, w_round, w_bestPath, w_seen, w_seenWho, w_seenHarm, w_books, w_bookWho, w_bookWhen, w_hasImage, w_imageThe, w_imageWindows, w_imageMinutes, w_imageWet, w_imageComes, w_imageSide, w_imageFloor, w_imageRoom, w_imageRounds, w_imageSeen, w_imageBooks, w_imageKind, w_imageV, w_imageFloors, w_imageRooms, w_imageTakes, w_imageRows, w_imageRound, w_imageWho, w_imageHarm, w_imageBookWho, w_imageWhen, w_imageShut, w_ran, w_bodies, .ref a_sort, .ref a_length, .ref a_item, w_aside])), (a_sort, .inl (y 0, 6, .inl f_sort)), (a_length, .inl (y 0, 6, .inl f_length)), (a_item, .inl (y 1, 360, .inr (.inl f_item)))] H := hW.sub [3, 0, 1, 2] (by decide) rfl
  replace hw : (r1_ = (if n0 < 0 then 0 else (if 5 < n0 then 0 else 1))) ∧ True := hw
  obtain ⟨hw, -⟩ := hw
  by_cases c2_ : n0 < 0
  · have b3_ : (-2147483648) ≤ Int32.toInt n0 ∧ Int32.toInt n0 ≤ (-1) := zr_lt_l (-1) c2_ (zbnd n0) (show 0 ≤ Int32.toInt 0 ∧ Int32.toInt 0 ≤ 0 from (by decide)) (by decide)
    rw [if_pos c2_] at hw
    subst r1_
    refine lv_if_ne (tgt := 10) hx hb dX10_item_5 (by decide) (fun c4_ => absurd (by decide) c4_) (fun c4_ => ?_)
    refine lv_iconst (v := (-1)) hx hb dX10_item_8 (by decide) ?_
    exact zret_i (v := (-1)) hx hb hr hlocks hS f_item ⟨(by decide), trivial⟩ hW (Nat.le_of_ble_eq_true rfl) (Nat.le_of_ble_eq_true rfl) dX10_item_9
  · have b5_ : 0 ≤ Int32.toInt n0 ∧ Int32.toInt n0 ≤ 2147483647 := zr_nlt_l 0 c2_ (zbnd n0) (show 0 ≤ Int32.toInt 0 ∧ Int32.toInt 0 ≤ 0 from (by decide)) (by decide)
    rw [if_neg c2_] at hw
    by_cases c6_ : 5 < n0
    · have b7_ : 6 ≤ Int32.toInt n0 ∧ Int32.toInt n0 ≤ 2147483647 := zr_lt_r 6 c6_ b5_ (show 5 ≤ Int32.toInt 5 ∧ Int32.toInt 5 ≤ 5 from (by decide)) (by decide)
      rw [if_pos c6_] at hw
      subst r1_
      refine lv_if_ne (tgt := 10) hx hb dX10_item_5 (by decide) (fun c8_ => absurd (by decide) c8_) (fun c8_ => ?_)
      refine lv_iconst (v := (-1)) hx hb dX10_item_8 (by decide) ?_
      exact zret_i (v := (-1)) hx hb hr hlocks hS f_item ⟨(by decide), trivial⟩ hW (Nat.le_of_ble_eq_true rfl) (Nat.le_of_ble_eq_true rfl) dX10_item_9
    · have b9_ : 0 ≤ Int32.toInt n0 ∧ Int32.toInt n0 ≤ 5 := zr_nlt_r 5 c6_ b5_ (show 5 ≤ Int32.toInt 5 ∧ Int32.toInt 5 ≤ 5 from (by decide)) (by decide)
      rw [if_neg c6_] at hw
      subst r1_
      refine lv_if_ne (tgt := 10) hx hb dX10_item_5 (by decide) (fun c10_ => ?_) (fun c10_ => absurd c10_ (by decide))
      refine lv_aload_n hx hb dX10_item_10 rfl (lv_at hl 0 rfl) ?_
      refine zget hx hb ht inlX10 hown hK hW 0 rfl rfl 72 (by decide) zm_212 rfl dX10_item_11 ?_
      refine lv_iload_n hx hb dX10_item_14 rfl (lv_at hl 1 rfl) ?_
      have b11_ : (-1) ≤ Int32.toInt (f_sort (Int32.toNatClampNeg n0)) ∧ Int32.toInt (f_sort (Int32.toNatClampNeg n0)) ≤ 4 := hf_sort (Int32.toNatClampNeg n0)
      refine ziald (v := (f_sort (Int32.toNatClampNeg n0))) hx hb hK hW 1 rfl (zr_in b9_ (by decide) (by decide)) rfl dX10_item_15 ?_
      refine lv_if_ge (tgt := 22) hx hb dX10_item_16 (by decide) (fun c12_ => ?_) (fun c12_ => ?_)
      · have b13_ : 0 ≤ Int32.toInt (f_sort (Int32.toNatClampNeg n0)) ∧ Int32.toInt (f_sort (Int32.toNatClampNeg n0)) ≤ 4 := zr_le_r 0 c12_ b11_ (show 0 ≤ Int32.toInt 0 ∧ Int32.toInt 0 ≤ 0 from (by decide)) (by decide)
        refine lv_aload_n hx hb dX10_item_22 rfl (lv_at hl 0 rfl) ?_
        refine lv_iload_n hx hb dX10_item_23 rfl (lv_at hl 2 rfl) ?_
        refine lv_iconst (v := 0) hx hb dX10_item_24 (by decide) ?_
        refine lv_aload_n hx hb dX10_item_25 rfl (lv_at hl 0 rfl) ?_
        refine zget hx hb ht inlX10 hown hK hW 0 rfl rfl 73 (by decide) zm_213 rfl dX10_item_26 ?_
        refine lv_iload_n hx hb dX10_item_29 rfl (lv_at hl 1 rfl) ?_
        have b14_ : 0 ≤ Int32.toInt (f_length (Int32.toNatClampNeg n0)) ∧ Int32.toInt (f_length (Int32.toNatClampNeg n0)) ≤ 60 := hf_length (Int32.toNatClampNeg n0)
        refine ziald (v := (f_length (Int32.toNatClampNeg n0))) hx hb hK hW 2 rfl (zr_in b9_ (by decide) (by decide)) rfl dX10_item_30 ?_
        refine lv_iconst (v := 1) hx hb dX10_item_31 (by decide) ?_
        refine lv_isub hx hb dX10_item_32 ?_
        obtain ⟨q16_, b15_⟩ : (Int32.toInt ((f_length (Int32.toNatClampNeg n0)) - 1) = Int32.toInt (f_length (Int32.toNatClampNeg n0)) - 1) ∧ ((-1) ≤ Int32.toInt ((f_length (Int32.toNatClampNeg n0)) - 1) ∧ Int32.toInt ((f_length (Int32.toNatClampNeg n0)) - 1) ≤ 59) := zsub_k (f_length (Int32.toNatClampNeg n0)) 1 1 (-1) 59 b14_ (by decide) (by decide) (by decide) (by decide) (by decide)
        refine zgo_i (wr := [(a_sort, .inl (y 0, 6, .inl f_sort)), (a_length, .inl (y 0, 6, .inl f_length)), (a_item, .inl (y 1, 360, .inr (.inl f_item)))]) (zrunV (As := [.int n1, .int 0, .int ((f_length (Int32.toNatClampNeg n0)) - 1)]) (rest := []) ⟨hx, hb, hml, hown, ht⟩ (zd_X10_in_x_0_x l D y a_this w_windows w_minutes w_wet w_comes w_side w_herFloor w_herRoom w_kind w_v w_floor w_room w_takes w_rows w_isShut w_houses w_the w_fed w_at w_digits w_text w_clauses w_word w_number w_from w_to w_sign w_waits w_signs w_waiting w_open w_letters w_pile w_since w_rain w_shutAt w_ways w_path w_rounds w_round w_bestPath w_seen w_seenWho w_seenHarm w_books w_bookWho w_bookWhen w_hasImage w_imageThe w_imageWindows w_imageMinutes w_imageWet w_imageComes w_imageSide w_imageFloor w_imageRoom w_imageRounds w_imageSeen w_imageBooks w_imageKind w_imageV w_imageFloors w_imageRooms w_imageTakes w_imageRows w_imageRound w_imageWho w_imageHarm w_imageBookWho w_imageWhen w_imageShut w_ran w_bodies (.ref a_sort) (.ref a_length) (.ref a_item) w_aside n1 ((f_length (Int32.toNatClampNeg n0)) - 1)) (cwV 3 ht (zgV zm_240 zm_241 zm_242 zm_5 zm_243) rfl rfl rfl (by decide +kernel) ⟨(Nat.le_of_ble_eq_true rfl), (Nat.le_of_ble_eq_true rfl)⟩) hK hE hS hA hW [0] (by decide) rfl 0 rfl rfl rfl rfl hl.1 rfl (Nat.le_of_ble_eq_true rfl) dX10_item_33 (Nat.le_of_ble_eq_true rfl) (Nat.le_of_ble_eq_true rfl)) hS hA hW [0] [1, 2, 3] rfl rfl (by decide) (by decide) (fun r17_ u H locs hw hW hS => ?_)
        replace hW : zPD D A [(a_this, .inr (9, [w_windows, w_minutes, w_wet, w_comes, w_side, w_herFloor, w_herRoom, w_kind, w_v, w_floor, w_room, w_takes, w_rows, w_isShut, w_houses, w_the, w_fed, w_at, w_digits, w_text, w_clauses, w_word, w_number, w_from, w_to, w_sign, w_waits, w_signs, w_waiting, w_open, w_letters, w_pile, w_since, w_rain, w_shutAt, w_ways, w_path, w_rounds, w_round, w_bestPath, w_seen, w_seenWho, w_seenHarm, w_books, w_bookWho, w_bookWhen, w_hasImage, w_imageThe, w_imageWindows, w_imageMinutes, w_imageWet, w_imageComes, w_imageSide, w_imageFloor, w_imageRoom, w_imageRounds, w_imageSeen, w_imageBooks, w_imageKind, w_imageV, w_imageFloors, w_imageRooms, w_imageTakes, w_imageRows, w_imageRound, w_imageWho, w_imageHarm, w_imageBookWho, w_imageWhen, w_imageShut, w_ran, w_bodies, .ref a_sort, .ref a_length, .ref a_item, w_aside])), (a_sort, .inl (y 0, 6, .inl f_sort)), (a_length, .inl (y 0, 6, .inl f_length)), (a_item, .inl (y 1, 360, .inr (.inl f_item)))] H := hW.sub [3, 0, 1, 2] (by decide) rfl
        replace hw : (r17_ = (if n1 < 0 then 0 else (if ((f_length (Int32.toNatClampNeg n0)) - 1) < n1 then 0 else 1))) ∧ True := hw
        obtain ⟨hw, -⟩ := hw
        by_cases c18_ : n1 < 0
        · have b19_ : (-2147483648) ≤ Int32.toInt n1 ∧ Int32.toInt n1 ≤ (-1) := zr_lt_l (-1) c18_ (zbnd n1) (show 0 ≤ Int32.toInt 0 ∧ Int32.toInt 0 ≤ 0 from (by decide)) (by decide)
          rw [if_pos c18_] at hw
          subst r17_
          refine lv_if_ne (tgt := 42) hx hb dX10_item_36 (by decide) (fun c20_ => absurd (by decide) c20_) (fun c20_ => ?_)
          refine lv_bipush (v := (-13)) hx hb dX10_item_39 (by decide) ?_
          exact zret_i (v := (-13)) hx hb hr hlocks hS f_item ⟨(by decide), trivial⟩ hW (Nat.le_of_ble_eq_true rfl) (Nat.le_of_ble_eq_true rfl) dX10_item_41
        · have b21_ : 0 ≤ Int32.toInt n1 ∧ Int32.toInt n1 ≤ 2147483647 := zr_nlt_l 0 c18_ (zbnd n1) (show 0 ≤ Int32.toInt 0 ∧ Int32.toInt 0 ≤ 0 from (by decide)) (by decide)
          rw [if_neg c18_] at hw
          by_cases c22_ : ((f_length (Int32.toNatClampNeg n0)) - 1) < n1
          · have d23_ : Int32.toInt ((f_length (Int32.toNatClampNeg n0)) - 1) < Int32.toInt n1 := (zi_lt _ _).mp c22_
            rw [if_pos c22_] at hw
            subst r17_
            refine lv_if_ne (tgt := 42) hx hb dX10_item_36 (by decide) (fun c24_ => absurd (by decide) c24_) (fun c24_ => ?_)
            refine lv_bipush (v := (-13)) hx hb dX10_item_39 (by decide) ?_
            exact zret_i (v := (-13)) hx hb hr hlocks hS f_item ⟨(by decide), trivial⟩ hW (Nat.le_of_ble_eq_true rfl) (Nat.le_of_ble_eq_true rfl) dX10_item_41
          · have b25_ : 0 ≤ Int32.toInt ((f_length (Int32.toNatClampNeg n0)) - 1) ∧ Int32.toInt ((f_length (Int32.toNatClampNeg n0)) - 1) ≤ 59 := zr_nlt_l 0 c22_ b15_ b21_ (by decide)
            have b26_ : 0 ≤ Int32.toInt n1 ∧ Int32.toInt n1 ≤ 59 := zr_nlt_r 59 c22_ b21_ b25_ (by decide)
            have d27_ : Int32.toInt ((f_length (Int32.toNatClampNeg n0)) - 1) ≥ Int32.toInt n1 := Int.not_lt.mp ((not_congr (zi_lt _ _)).mp c22_)
            rw [if_neg c22_] at hw
            subst r17_
            refine lv_if_ne (tgt := 42) hx hb dX10_item_36 (by decide) (fun c28_ => ?_) (fun c28_ => absurd c28_ (by decide))
            refine lv_aload_n hx hb dX10_item_42 rfl (lv_at hl 0 rfl) ?_
            refine zget hx hb ht inlX10 hown hK hW 0 rfl rfl 74 (by decide) zm_214 rfl dX10_item_43 ?_
            refine lv_bipush (v := 60) hx hb dX10_item_46 (by decide) ?_
            refine lv_iload_n hx hb dX10_item_48 rfl (lv_at hl 1 rfl) ?_
            refine lv_imul hx hb dX10_item_49 ?_
            have q30_ : Int32.toInt (60 * n0) = 60 * Int32.toInt n0 := by have u0 := (show (60 : Int32).toInt = 60 from (by decide)); have u1 := b9_; have u2 := zmul 60 n0 (by rw [u0]; omega) (by rw [u0]; omega); rw [u0] at u2; omega
            have b29_ : 0 ≤ Int32.toInt (60 * n0) ∧ Int32.toInt (60 * n0) ≤ 300 := by have u0 := (show (60 : Int32).toInt = 60 from (by decide)); have u1 := b9_; omega
            refine lv_iload_n hx hb dX10_item_50 rfl (lv_at hl 2 rfl) ?_
            refine lv_iadd hx hb dX10_item_51 ?_
            obtain ⟨q32_, b31_⟩ : (Int32.toInt ((60 * n0) + n1) = Int32.toInt (60 * n0) + Int32.toInt n1) ∧ (0 ≤ Int32.toInt ((60 * n0) + n1) ∧ Int32.toInt ((60 * n0) + n1) ≤ 359) := zadd_r (60 * n0) n1 0 359 b29_ b26_ (by decide) (by decide) (by decide) (by decide)
            refine lv_aload_n hx hb dX10_item_52 rfl (lv_at hl 0 rfl) ?_
            refine lv_aload_n hx hb dX10_item_53 rfl (lv_at hl 0 rfl) ?_
            refine zget hx hb ht inlX10 hown hK hW 0 rfl rfl 72 (by decide) zm_212 rfl dX10_item_54 ?_
            refine lv_iload_n hx hb dX10_item_57 rfl (lv_at hl 1 rfl) ?_
            refine ziald (v := (f_sort (Int32.toNatClampNeg n0))) hx hb hK hW 1 rfl (zr_in b9_ (by decide) (by decide)) rfl dX10_item_58 ?_
            refine lv_lload_n hx hb dX10_item_59 rfl (lv_at hl 3 rfl) ?_
            refine zgo_l (wr := [(a_sort, .inl (y 0, 6, .inl f_sort)), (a_length, .inl (y 0, 6, .inl f_length)), (a_item, .inl (y 1, 360, .inr (.inl f_item)))]) (zrunV (As := [.int (f_sort (Int32.toNatClampNeg n0)), .long n2]) (rest := [.int ((60 * n0) + n1), .ref a_item]) ⟨hx, hb, hml, hown, ht⟩ (zd_X10_narrow_x_x l D y a_this w_windows w_minutes w_wet w_comes w_side w_herFloor w_herRoom w_kind w_v w_floor w_room w_takes w_rows w_isShut w_houses w_the w_fed w_at w_digits w_text w_clauses w_word w_number w_from w_to w_sign w_waits w_signs w_waiting w_open w_letters w_pile w_since w_rain w_shutAt w_ways w_path w_rounds w_round w_bestPath w_seen w_seenWho w_seenHarm w_books w_bookWho w_bookWhen w_hasImage w_imageThe w_imageWindows w_imageMinutes w_imageWet w_imageComes w_imageSide w_imageFloor w_imageRoom w_imageRounds w_imageSeen w_imageBooks w_imageKind w_imageV w_imageFloors w_imageRooms w_imageTakes w_imageRows w_imageRound w_imageWho w_imageHarm w_imageBookWho w_imageWhen w_imageShut w_ran w_bodies (.ref a_sort) (.ref a_length) (.ref a_item) w_aside (f_sort (Int32.toNatClampNeg n0)) n2) (cwV 2 ht (zgV zm_1253 zm_1254 zm_1255 zm_5 zm_1256) rfl rfl rfl (by decide +kernel) ⟨(Nat.le_of_ble_eq_true rfl), (Nat.le_of_ble_eq_true rfl)⟩) hK hE hS hA hW [0] (by decide) rfl 0 rfl rfl rfl rfl hl.1 rfl (Nat.le_of_ble_eq_true rfl) dX10_item_60 (Nat.le_of_ble_eq_true rfl) (Nat.le_of_ble_eq_true rfl)) hS hA hW [0] [1, 2, 3] rfl rfl (by decide) (by decide) (fun r33_ u H locs hw hW hS => ?_)
            replace hW : zPD D A [(a_this, .inr (9, [w_windows, w_minutes, w_wet, w_comes, w_side, w_herFloor, w_herRoom, w_kind, w_v, w_floor, w_room, w_takes, w_rows, w_isShut, w_houses, w_the, w_fed, w_at, w_digits, w_text, w_clauses, w_word, w_number, w_from, w_to, w_sign, w_waits, w_signs, w_waiting, w_open, w_letters, w_pile, w_since, w_rain, w_shutAt, w_ways, w_path, w_rounds, w_round, w_bestPath, w_seen, w_seenWho, w_seenHarm, w_books, w_bookWho, w_bookWhen, w_hasImage, w_imageThe, w_imageWindows, w_imageMinutes, w_imageWet, w_imageComes, w_imageSide, w_imageFloor, w_imageRoom, w_imageRounds, w_imageSeen, w_imageBooks, w_imageKind, w_imageV, w_imageFloors, w_imageRooms, w_imageTakes, w_imageRows, w_imageRound, w_imageWho, w_imageHarm, w_imageBookWho, w_imageWhen, w_imageShut, w_ran, w_bodies, .ref a_sort, .ref a_length, .ref a_item, w_aside])), (a_sort, .inl (y 0, 6, .inl f_sort)), (a_length, .inl (y 0, 6, .inl f_length)), (a_item, .inl (y 1, 360, .inr (.inl f_item)))] H := hW.sub [3, 0, 1, 2] (by decide) rfl
            replace hw : (r33_ = (if (f_sort (Int32.toNatClampNeg n0)) = 0 then (Int32.toInt64 (Int8.toInt32 (Int32.toInt8 (Int64.toInt32 n2)))) else (if (f_sort (Int32.toNatClampNeg n0)) = 1 then (Int32.toInt64 (Int16.toInt32 (Int32.toInt16 (Int64.toInt32 n2)))) else (if (f_sort (Int32.toNatClampNeg n0)) = 2 then (Int32.toInt64 (Int64.toInt32 n2)) else (if (f_sort (Int32.toNatClampNeg n0)) = 4 then (if (lg_cmp n2 0) = 0 then 0 else 1) else n2))))) ∧ True := hw
            obtain ⟨hw, -⟩ := hw
            by_cases c34_ : (f_sort (Int32.toNatClampNeg n0)) = 0
            · have b35_ : 0 ≤ Int32.toInt (f_sort (Int32.toNatClampNeg n0)) ∧ Int32.toInt (f_sort (Int32.toNatClampNeg n0)) ≤ 0 := zr_eq_l c34_ (show 0 ≤ Int32.toInt 0 ∧ Int32.toInt 0 ≤ 0 from (by decide))
              rw [if_pos c34_] at hw
              subst r33_
              refine zlastN (ws' := fun g36_ => [(a_this, .inr (9, [w_windows, w_minutes, w_wet, w_comes, w_side, w_herFloor, w_herRoom, w_kind, w_v, w_floor, w_room, w_takes, w_rows, w_isShut, w_houses, w_the, w_fed, w_at, w_digits, w_text, w_clauses, w_word, w_number, w_from, w_to, w_sign, w_waits, w_signs, w_waiting, w_open, w_letters, w_pile, w_since, w_rain, w_shutAt, w_ways, w_path, w_rounds, w_round, w_bestPath, w_seen, w_seenWho, w_seenHarm, w_books, w_bookWho, w_bookWhen, w_hasImage, w_imageThe, w_imageWindows, w_imageMinutes, w_imageWet, w_imageComes, w_imageSide, w_imageFloor, w_imageRoom, w_imageRounds, w_imageSeen, w_imageBooks, w_imageKind, w_imageV, w_imageFloors, w_imageRooms, w_imageTakes, w_imageRows, w_imageRound, w_imageWho, w_imageHarm, w_imageBookWho, w_imageWhen, w_imageShut, w_ran, w_bodies, .ref a_sort, .ref a_length, .ref a_item, w_aside])), (a_sort, .inl (y 0, 6, .inl f_sort)), (a_length, .inl (y 0, 6, .inl f_length)), (a_item, .inl (y 1, 360, .inr (.inl g36_)))]) hx hb hK hS hW 3 rfl (zr_in b31_ (by decide) (by decide)) (fun _ => rfl) dX10_item_63 (fun g36_ H locs eg36_ hW hS => ?_)
              refine lv_iconst (v := 1) hx hb dX10_item_64 (by decide) ?_
              exact zret_i (v := 1) hx hb hr hlocks hS g36_ ⟨(by decide), trivial⟩ hW (Nat.le_of_ble_eq_true rfl) (Nat.le_of_ble_eq_true rfl) dX10_item_65
            · have b37_ : 1 ≤ Int32.toInt (f_sort (Int32.toNatClampNeg n0)) ∧ Int32.toInt (f_sort (Int32.toNatClampNeg n0)) ≤ 4 := (by have u0 := b13_; have u1 := (not_congr (zi_eq _ _)).mp c34_; have u2 := (show 0 ≤ Int32.toInt 0 ∧ Int32.toInt 0 ≤ 0 from (by decide)); omega)
              rw [if_neg c34_] at hw
              by_cases c38_ : (f_sort (Int32.toNatClampNeg n0)) = 1
              · have b39_ : 1 ≤ Int32.toInt (f_sort (Int32.toNatClampNeg n0)) ∧ Int32.toInt (f_sort (Int32.toNatClampNeg n0)) ≤ 1 := zr_eq_l c38_ (show 1 ≤ Int32.toInt 1 ∧ Int32.toInt 1 ≤ 1 from (by decide))
                rw [if_pos c38_] at hw
                subst r33_
                refine zlastN (ws' := fun g40_ => [(a_this, .inr (9, [w_windows, w_minutes, w_wet, w_comes, w_side, w_herFloor, w_herRoom, w_kind, w_v, w_floor, w_room, w_takes, w_rows, w_isShut, w_houses, w_the, w_fed, w_at, w_digits, w_text, w_clauses, w_word, w_number, w_from, w_to, w_sign, w_waits, w_signs, w_waiting, w_open, w_letters, w_pile, w_since, w_rain, w_shutAt, w_ways, w_path, w_rounds, w_round, w_bestPath, w_seen, w_seenWho, w_seenHarm, w_books, w_bookWho, w_bookWhen, w_hasImage, w_imageThe, w_imageWindows, w_imageMinutes, w_imageWet, w_imageComes, w_imageSide, w_imageFloor, w_imageRoom, w_imageRounds, w_imageSeen, w_imageBooks, w_imageKind, w_imageV, w_imageFloors, w_imageRooms, w_imageTakes, w_imageRows, w_imageRound, w_imageWho, w_imageHarm, w_imageBookWho, w_imageWhen, w_imageShut, w_ran, w_bodies, .ref a_sort, .ref a_length, .ref a_item, w_aside])), (a_sort, .inl (y 0, 6, .inl f_sort)), (a_length, .inl (y 0, 6, .inl f_length)), (a_item, .inl (y 1, 360, .inr (.inl g40_)))]) hx hb hK hS hW 3 rfl (zr_in b31_ (by decide) (by decide)) (fun _ => rfl) dX10_item_63 (fun g40_ H locs eg40_ hW hS => ?_)
                refine lv_iconst (v := 1) hx hb dX10_item_64 (by decide) ?_
                exact zret_i (v := 1) hx hb hr hlocks hS g40_ ⟨(by decide), trivial⟩ hW (Nat.le_of_ble_eq_true rfl) (Nat.le_of_ble_eq_true rfl) dX10_item_65
              · have b41_ : 2 ≤ Int32.toInt (f_sort (Int32.toNatClampNeg n0)) ∧ Int32.toInt (f_sort (Int32.toNatClampNeg n0)) ≤ 4 := (by have u0 := b37_; have u1 := (not_congr (zi_eq _ _)).mp c38_; have u2 := (show 1 ≤ Int32.toInt 1 ∧ Int32.toInt 1 ≤ 1 from (by decide)); omega)
                rw [if_neg c38_] at hw
                by_cases c42_ : (f_sort (Int32.toNatClampNeg n0)) = 2
                · have b43_ : 2 ≤ Int32.toInt (f_sort (Int32.toNatClampNeg n0)) ∧ Int32.toInt (f_sort (Int32.toNatClampNeg n0)) ≤ 2 := zr_eq_l c42_ (show 2 ≤ Int32.toInt 2 ∧ Int32.toInt 2 ≤ 2 from (by decide))
                  rw [if_pos c42_] at hw
                  subst r33_
                  refine zlastN (ws' := fun g44_ => [(a_this, .inr (9, [w_windows, w_minutes, w_wet, w_comes, w_side, w_herFloor, w_herRoom, w_kind, w_v, w_floor, w_room, w_takes, w_rows, w_isShut, w_houses, w_the, w_fed, w_at, w_digits, w_text, w_clauses, w_word, w_number, w_from, w_to, w_sign, w_waits, w_signs, w_waiting, w_open, w_letters, w_pile, w_since, w_rain, w_shutAt, w_ways, w_path, w_rounds, w_round, w_bestPath, w_seen, w_seenWho, w_seenHarm, w_books, w_bookWho, w_bookWhen, w_hasImage, w_imageThe, w_imageWindows, w_imageMinutes, w_imageWet, w_imageComes, w_imageSide, w_imageFloor, w_imageRoom, w_imageRounds, w_imageSeen, w_imageBooks, w_imageKind, w_imageV, w_imageFloors, w_imageRooms, w_imageTakes, w_imageRows, w_imageRound, w_imageWho, w_imageHarm, w_imageBookWho, w_imageWhen, w_imageShut, w_ran, w_bodies, .ref a_sort, .ref a_length, .ref a_item, w_aside])), (a_sort, .inl (y 0, 6, .inl f_sort)), (a_length, .inl (y 0, 6, .inl f_length)), (a_item, .inl (y 1, 360, .inr (.inl g44_)))]) hx hb hK hS hW 3 rfl (zr_in b31_ (by decide) (by decide)) (fun _ => rfl) dX10_item_63 (fun g44_ H locs eg44_ hW hS => ?_)
                  refine lv_iconst (v := 1) hx hb dX10_item_64 (by decide) ?_
                  exact zret_i (v := 1) hx hb hr hlocks hS g44_ ⟨(by decide), trivial⟩ hW (Nat.le_of_ble_eq_true rfl) (Nat.le_of_ble_eq_true rfl) dX10_item_65
                · have b45_ : 3 ≤ Int32.toInt (f_sort (Int32.toNatClampNeg n0)) ∧ Int32.toInt (f_sort (Int32.toNatClampNeg n0)) ≤ 4 := (by have u0 := b41_; have u1 := (not_congr (zi_eq _ _)).mp c42_; have u2 := (show 2 ≤ Int32.toInt 2 ∧ Int32.toInt 2 ≤ 2 from (by decide)); omega)
                  rw [if_neg c42_] at hw
                  by_cases c46_ : (f_sort (Int32.toNatClampNeg n0)) = 4
                  · have b47_ : 4 ≤ Int32.toInt (f_sort (Int32.toNatClampNeg n0)) ∧ Int32.toInt (f_sort (Int32.toNatClampNeg n0)) ≤ 4 := zr_eq_l c46_ (show 4 ≤ Int32.toInt 4 ∧ Int32.toInt 4 ≤ 4 from (by decide))
                    rw [if_pos c46_] at hw
                    by_cases c48_ : (lg_cmp n2 0) = 0
                    · have b49_ : 0 ≤ Int32.toInt (lg_cmp n2 0) ∧ Int32.toInt (lg_cmp n2 0) ≤ 0 := zr_eq_l c48_ (show 0 ≤ Int32.toInt 0 ∧ Int32.toInt 0 ≤ 0 from (by decide))
                      rw [if_pos c48_] at hw
                      subst r33_
                      refine zlastN (ws' := fun g50_ => [(a_this, .inr (9, [w_windows, w_minutes, w_wet, w_comes, w_side, w_herFloor, w_herRoom, w_kind, w_v, w_floor, w_room, w_takes, w_rows, w_isShut, w_houses, w_the, w_fed, w_at, w_digits, w_text, w_clauses, w_word, w_number, w_from, w_to, w_sign, w_waits, w_signs, w_waiting, w_open, w_letters, w_pile, w_since, w_rain, w_shutAt, w_ways, w_path, w_rounds, w_round, w_bestPath, w_seen, w_seenWho, w_seenHarm, w_books, w_bookWho, w_bookWhen, w_hasImage, w_imageThe, w_imageWindows, w_imageMinutes, w_imageWet, w_imageComes, w_imageSide, w_imageFloor, w_imageRoom, w_imageRounds, w_imageSeen, w_imageBooks, w_imageKind, w_imageV, w_imageFloors, w_imageRooms, w_imageTakes, w_imageRows, w_imageRound, w_imageWho, w_imageHarm, w_imageBookWho, w_imageWhen, w_imageShut, w_ran, w_bodies, .ref a_sort, .ref a_length, .ref a_item, w_aside])), (a_sort, .inl (y 0, 6, .inl f_sort)), (a_length, .inl (y 0, 6, .inl f_length)), (a_item, .inl (y 1, 360, .inr (.inl g50_)))]) hx hb hK hS hW 3 rfl (zr_in b31_ (by decide) (by decide)) (fun _ => rfl) dX10_item_63 (fun g50_ H locs eg50_ hW hS => ?_)
                      refine lv_iconst (v := 1) hx hb dX10_item_64 (by decide) ?_
                      exact zret_i (v := 1) hx hb hr hlocks hS g50_ ⟨(by decide), trivial⟩ hW (Nat.le_of_ble_eq_true rfl) (Nat.le_of_ble_eq_true rfl) dX10_item_65
                    · rw [if_neg c48_] at hw
                      subst r33_
                      refine zlastN (ws' := fun g51_ => [(a_this, .inr (9, [w_windows, w_minutes, w_wet, w_comes, w_side, w_herFloor, w_herRoom, w_kind, w_v, w_floor, w_room, w_takes, w_rows, w_isShut, w_houses, w_the, w_fed, w_at, w_digits, w_text, w_clauses, w_word, w_number, w_from, w_to, w_sign, w_waits, w_signs, w_waiting, w_open, w_letters, w_pile, w_since, w_rain, w_shutAt, w_ways, w_path, w_rounds, w_round, w_bestPath, w_seen, w_seenWho, w_seenHarm, w_books, w_bookWho, w_bookWhen, w_hasImage, w_imageThe, w_imageWindows, w_imageMinutes, w_imageWet, w_imageComes, w_imageSide, w_imageFloor, w_imageRoom, w_imageRounds, w_imageSeen, w_imageBooks, w_imageKind, w_imageV, w_imageFloors, w_imageRooms, w_imageTakes, w_imageRows, w_imageRound, w_imageWho, w_imageHarm, w_imageBookWho, w_imageWhen, w_imageShut, w_ran, w_bodies, .ref a_sort, .ref a_length, .ref a_item, w_aside])), (a_sort, .inl (y 0, 6, .inl f_sort)), (a_length, .inl (y 0, 6, .inl f_length)), (a_item, .inl (y 1, 360, .inr (.inl g51_)))]) hx hb hK hS hW 3 rfl (zr_in b31_ (by decide) (by decide)) (fun _ => rfl) dX10_item_63 (fun g51_ H locs eg51_ hW hS => ?_)
                      refine lv_iconst (v := 1) hx hb dX10_item_64 (by decide) ?_
                      exact zret_i (v := 1) hx hb hr hlocks hS g51_ ⟨(by decide), trivial⟩ hW (Nat.le_of_ble_eq_true rfl) (Nat.le_of_ble_eq_true rfl) dX10_item_65
                  · have b52_ : 3 ≤ Int32.toInt (f_sort (Int32.toNatClampNeg n0)) ∧ Int32.toInt (f_sort (Int32.toNatClampNeg n0)) ≤ 3 := (by have u0 := b45_; have u1 := (not_congr (zi_eq _ _)).mp c46_; have u2 := (show 4 ≤ Int32.toInt 4 ∧ Int32.toInt 4 ≤ 4 from (by decide)); omega)
                    rw [if_neg c46_] at hw
                    subst r33_
                    refine zlastN (ws' := fun g53_ => [(a_this, .inr (9, [w_windows, w_minutes, w_wet, w_comes, w_side, w_herFloor, w_herRoom, w_kind, w_v, w_floor, w_room, w_takes, w_rows, w_isShut, w_houses, w_the, w_fed, w_at, w_digits, w_text, w_clauses, w_word, w_number, w_from, w_to, w_sign, w_waits, w_signs, w_waiting, w_open, w_letters, w_pile, w_since, w_rain, w_shutAt, w_ways, w_path, w_rounds, w_round, w_bestPath, w_seen, w_seenWho, w_seenHarm, w_books, w_bookWho, w_bookWhen, w_hasImage, w_imageThe, w_imageWindows, w_imageMinutes, w_imageWet, w_imageComes, w_imageSide, w_imageFloor, w_imageRoom, w_imageRounds, w_imageSeen, w_imageBooks, w_imageKind, w_imageV, w_imageFloors, w_imageRooms, w_imageTakes, w_imageRows, w_imageRound, w_imageWho, w_imageHarm, w_imageBookWho, w_imageWhen, w_imageShut, w_ran, w_bodies, .ref a_sort, .ref a_length, .ref a_item, w_aside])), (a_sort, .inl (y 0, 6, .inl f_sort)), (a_length, .inl (y 0, 6, .inl f_length)), (a_item, .inl (y 1, 360, .inr (.inl g53_)))]) hx hb hK hS hW 3 rfl (zr_in b31_ (by decide) (by decide)) (fun _ => rfl) dX10_item_63 (fun g53_ H locs eg53_ hW hS => ?_)
                    refine lv_iconst (v := 1) hx hb dX10_item_64 (by decide) ?_
                    exact zret_i (v := 1) hx hb hr hlocks hS g53_ ⟨(by decide), trivial⟩ hW (Nat.le_of_ble_eq_true rfl) (Nat.le_of_ble_eq_true rfl) dX10_item_65
      · have b54_ : (-1) ≤ Int32.toInt (f_sort (Int32.toNatClampNeg n0)) ∧ Int32.toInt (f_sort (Int32.toNatClampNeg n0)) ≤ (-1) := zr_nle_r (-1) c12_ b11_ (show 0 ≤ Int32.toInt 0 ∧ Int32.toInt 0 ≤ 0 from (by decide)) (by decide)
        refine lv_bipush (v := (-11)) hx hb dX10_item_19 (by decide) ?_
        exact zret_i (v := (-11)) hx hb hr hlocks hS f_item ⟨(by decide), trivial⟩ hW (Nat.le_of_ble_eq_true rfl) (Nat.le_of_ble_eq_true rfl) dX10_item_21
set_option maxHeartbeats 8000000 in
set_option maxRecDepth 100000 in
theorem zd_X10_read_x_x (l : Launch) (D : va_G) (y : Nat → ClassId) (a_this : Nat) (a_sort : Nat) (a_length : Nat) (a_item : Nat) (w_windows : Value) (w_minutes : Value) (w_wet : Value) (w_comes : Value) (w_side : Value) (w_herFloor : Value) (w_herRoom : Value) (w_kind : Value) (w_v : Value) (w_floor : Value) (w_room : Value) (w_takes : Value) (w_rows : Value) (w_isShut : Value) (w_houses : Value) (w_the : Value) (w_fed : Value) (w_at : Value) (w_digits : Value) (w_text : Value) (w_clauses : Value) (w_word : Value) (w_number : Value) (w_from : Value) (w_to : Value) (w_sign : Value) (w_waits : Value) (w_signs : Value) (w_waiting : Value) (w_open : Value) (w_letters : Value) (w_pile : Value) (w_since : Value) (w_rain : Value) (w_shutAt : Value) (w_ways : Value) (w_path : Value) (w_rounds : Value) (w_round : Value) (w_bestPath : Value) (w_seen : Value) (w_seenWho : Value) (w_seenHarm : Value) (w_books : Value) (w_bookWho : Value) (w_bookWhen : Value) (w_hasImage : Value) (w_imageThe : Value) (w_imageWindows : Value) (w_imageMinutes : Value) (w_imageWet : Value) (w_imageComes : Value) (w_imageSide : Value) (w_imageFloor : Value) (w_imageRoom : Value) (w_imageRounds : Value) (w_imageSeen : Value) (w_imageBooks : Value) (w_imageKind : Value) (w_imageV : Value) (w_imageFloors : Value) (w_imageRooms : Value) (w_imageTakes : Value) (w_imageRows : Value) (w_imageRound : Value) (w_imageWho : Value) (w_imageHarm : Value) (w_imageBookWho : Value) (w_imageWhen : Value) (w_imageShut : Value) (w_ran : Value) (w_bodies : Value) (w_aside : Value) (f_sort : Nat → Int32) (f_length : Nat → Int32) (f_item : Nat → Int64) (n0 : Int32) (n1 : Int32) (hf_sort : ∀ j_, (-1) ≤ Int32.toInt (f_sort j_) ∧ Int32.toInt (f_sort j_) ≤ 4) (hf_length : ∀ j_, 0 ≤ Int32.toInt (f_length j_) ∧ Int32.toInt (f_length j_) ≤ 60) : zM l D y yX10_read (Cond.code yX10_read cX10_read 3 (some .long) :: zT) { frames := 2, cells := 0, slots := 0, locals := 44 } [.ref a_this, .int n0, .int n1] [(a_this, .inr (9, [w_windows, w_minutes, w_wet, w_comes, w_side, w_herFloor, w_herRoom, w_kind, w_v, w_floor, w_room, w_takes, w_rows, w_isShut, w_houses, w_the, w_fed, w_at, w_digits, w_text, w_clauses, w_word, w_number, w_from, w_to, w_sign, w_waits, w_signs, w_waiting, w_open, w_letters, w_pile, w_since, w_rain, w_shutAt, w_ways, w_path, w_rounds, w_round, w_bestPath, w_seen, w_seenWho, w_seenHarm, w_books, w_bookWho, w_bookWhen, w_hasImage, w_imageThe, w_imageWindows, w_imageMinutes, w_imageWet, w_imageComes, w_imageSide, w_imageFloor, w_imageRoom, w_imageRounds, w_imageSeen, w_imageBooks, w_imageKind, w_imageV, w_imageFloors, w_imageRooms, w_imageTakes, w_imageRows, w_imageRound, w_imageWho, w_imageHarm, w_imageBookWho, w_imageWhen, w_imageShut, w_ran, w_bodies, .ref a_sort, .ref a_length, .ref a_item, w_aside])), (a_sort, .inl (y 0, 6, .inl f_sort)), (a_length, .inl (y 0, 6, .inl f_length)), (a_item, .inl (y 1, 360, .inr (.inl f_item)))] (zQl (S := Unit) D (fun r_ _ => (r_ = (if n0 < 0 then (-9223372036854775808) else (if 5 < n0 then (-9223372036854775808) else (if (f_sort (Int32.toNatClampNeg n0)) < 0 then (-9223372036854775808) else (if n1 < 0 then (-9223372036854775808) else (if ((f_length (Int32.toNatClampNeg n0)) - 1) < n1 then (-9223372036854775808) else (f_item (Int32.toNatClampNeg ((60 * n0) + n1))))))))) ∧ True) (fun _ => [(a_this, .inr (9, [w_windows, w_minutes, w_wet, w_comes, w_side, w_herFloor, w_herRoom, w_kind, w_v, w_floor, w_room, w_takes, w_rows, w_isShut, w_houses, w_the, w_fed, w_at, w_digits, w_text, w_clauses, w_word, w_number, w_from, w_to, w_sign, w_waits, w_signs, w_waiting, w_open, w_letters, w_pile, w_since, w_rain, w_shutAt, w_ways, w_path, w_rounds, w_round, w_bestPath, w_seen, w_seenWho, w_seenHarm, w_books, w_bookWho, w_bookWhen, w_hasImage, w_imageThe, w_imageWindows, w_imageMinutes, w_imageWet, w_imageComes, w_imageSide, w_imageFloor, w_imageRoom, w_imageRounds, w_imageSeen, w_imageBooks, w_imageKind, w_imageV, w_imageFloors, w_imageRooms, w_imageTakes, w_imageRows, w_imageRound, w_imageWho, w_imageHarm, w_imageBookWho, w_imageWhen, w_imageShut, w_ran, w_bodies, .ref a_sort, .ref a_length, .ref a_item, w_aside])), (a_sort, .inl (y 0, 6, .inl f_sort)), (a_length, .inl (y 0, 6, .inl f_length)), (a_item, .inl (y 1, 360, .inr (.inl f_item)))])) := by
  refine zent (cc := cX10_read) (maxL := 3) (ret := (some .long)) (by decide) (Nat.le_of_ble_eq_true rfl) ?_
  intro p e s m below meth c A H locs ls hx hb hml hr ht hown hlocks hin hA hK hE hS hW hl
  replace hown : s.vm.findClass RX10 = some m.cls := hown
  replace hW : zPD D A [(a_this, .inr (9, [w_windows, w_minutes, w_wet, w_comes, w_side, w_herFloor, w_herRoom, w_kind, w_v, w_floor, w_room, w_takes, w_rows, w_isShut, w_houses, w_the, w_fed, w_at, w_digits, w_text, w_clauses, w_word, w_number, w_from, w_to, w_sign, w_waits, w_signs, w_waiting, w_open, w_letters, w_pile, w_since, w_rain, w_shutAt, w_ways, w_path, w_rounds, w_round, w_bestPath, w_seen, w_seenWho, w_seenHarm, w_books, w_bookWho, w_bookWhen, w_hasImage, w_imageThe, w_imageWindows, w_imageMinutes, w_imageWet, w_imageComes, w_imageSide, w_imageFloor, w_imageRoom, w_imageRounds, w_imageSeen, w_imageBooks, w_imageKind, w_imageV, w_imageFloors, w_imageRooms, w_imageTakes, w_imageRows, w_imageRound, w_imageWho, w_imageHarm, w_imageBookWho, w_imageWhen, w_imageShut, w_ran, w_bodies, .ref a_sort, .ref a_length, .ref a_item, w_aside])), (a_sort, .inl (y 0, 6, .inl f_sort)), (a_length, .inl (y 0, 6, .inl f_length)), (a_item, .inl (y 1, 360, .inr (.inl f_item)))] H := hW
  replace hl : lv_has ls 3 [(0, .ref a_this), (1, .int n0), (2, .int n1)] := hl
  refine lv_aload_n hx hb dX10_read_0 rfl (lv_at hl 0 rfl) ?_
  refine lv_iload_n hx hb dX10_read_1 rfl (lv_at hl 1 rfl) ?_
  refine zgo_i (wr := [(a_sort, .inl (y 0, 6, .inl f_sort)), (a_length, .inl (y 0, 6, .inl f_length)), (a_item, .inl (y 1, 360, .inr (.inl f_item)))]) (zrunV (As := [.int n0]) (rest := []) ⟨hx, hb, hml, hown, ht⟩ (zd_X10_isTape_x l D y a_this w_windows w_minutes w_wet w_comes w_side w_herFloor w_herRoom w_kind w_v w_floor w_room w_takes w_rows w_isShut w_houses w_the w_fed w_at w_digits w_text w_clauses w_word w_number w_from w_to w_sign w_waits w_signs w_waiting w_open w_letters w_pile w_since w_rain w_shutAt w_ways w_path w_rounds w_round w_bestPath w_seen w_seenWho w_seenHarm w_books w_bookWho w_bookWhen w_hasImage w_imageThe w_imageWindows w_imageMinutes w_imageWet w_imageComes w_imageSide w_imageFloor w_imageRoom w_imageRounds w_imageSeen w_imageBooks w_imageKind w_imageV w_imageFloors w_imageRooms w_imageTakes w_imageRows w_imageRound w_imageWho w_imageHarm w_imageBookWho w_imageWhen w_imageShut w_ran w_bodies (.ref a_sort) (.ref a_length) (.ref a_item) w_aside n0) (cwV 1 ht (zgV zm_1097 zm_1098 zm_1099 zm_5 zm_1100) rfl rfl rfl (by decide +kernel) ⟨(Nat.le_of_ble_eq_true rfl), (Nat.le_of_ble_eq_true rfl)⟩) hK hE hS hA hW [0] (by decide) rfl 0 rfl rfl rfl rfl hl.1 rfl (Nat.le_of_ble_eq_true rfl) dX10_read_2 (Nat.le_of_ble_eq_true rfl) (Nat.le_of_ble_eq_true rfl)) hS hA hW [0] [1, 2, 3] rfl rfl (by decide) (by decide) (fun r1_ u H locs hw hW hS => ?_)
  replace hW : zPD D A [(a_this, .inr (9, [w_windows, w_minutes, w_wet, w_comes, w_side, w_herFloor, w_herRoom, w_kind, w_v, w_floor, w_room, w_takes, w_rows, w_isShut, w_houses, w_the, w_fed, w_at, w_digits, w_text, w_clauses, w_word, w_number, w_from, w_to, w_sign, w_waits, w_signs, w_waiting, w_open, w_letters, w_pile, w_since, w_rain, w_shutAt, w_ways, w_path, w_rounds, w_round, w_bestPath, w_seen, w_seenWho, w_seenHarm, w_books, w_bookWho, w_bookWhen, w_hasImage, w_imageThe, w_imageWindows, w_imageMinutes, w_imageWet, w_imageComes, w_imageSide, w_imageFloor, w_imageRoom, w_imageRounds, w_imageSeen, w_imageBooks, w_imageKind, w_imageV, w_imageFloors, w_imageRooms, w_imageTakes, w_imageRows, w_imageRound, w_imageWho, w_imageHarm, w_imageBookWho, w_imageWhen, w_imageShut, w_ran, w_bodies, .ref a_sort, .ref a_length, .ref a_item, w_aside])), (a_sort, .inl (y 0, 6, .inl f_sort)), (a_length, .inl (y 0, 6, .inl f_length)), (a_item, .inl (y 1, 360, .inr (.inl f_item)))] H := hW.sub [3, 0, 1, 2] (by decide) rfl
  replace hw : (r1_ = (if n0 < 0 then 0 else (if 5 < n0 then 0 else 1))) ∧ True := hw
  obtain ⟨hw, -⟩ := hw
  by_cases c2_ : n0 < 0
  · have b3_ : (-2147483648) ≤ Int32.toInt n0 ∧ Int32.toInt n0 ≤ (-1) := zr_lt_l (-1) c2_ (zbnd n0) (show 0 ≤ Int32.toInt 0 ∧ Int32.toInt 0 ≤ 0 from (by decide)) (by decide)
    rw [if_pos c2_] at hw
    subst r1_
    refine lv_if_eq (tgt := 34) hx hb dX10_read_5 (by decide) (fun c4_ => ?_) (fun c4_ => absurd (by decide) c4_)
    refine lv_ldc2 (v := (-9223372036854775808)) hx hb hown (ht _ zm_1044) dX10_read_34 ?_
    refine lv_goto (tgt := 51) hx hb dX10_read_37 (by decide) ?_
    exact zret_l (v := (-9223372036854775808)) hx hb hr hlocks hS () ⟨(by show _ = _; rw [if_pos c2_]), trivial⟩ hW (Nat.le_of_ble_eq_true rfl) (Nat.le_of_ble_eq_true rfl) dX10_read_51
  · have b5_ : 0 ≤ Int32.toInt n0 ∧ Int32.toInt n0 ≤ 2147483647 := zr_nlt_l 0 c2_ (zbnd n0) (show 0 ≤ Int32.toInt 0 ∧ Int32.toInt 0 ≤ 0 from (by decide)) (by decide)
    rw [if_neg c2_] at hw
    by_cases c6_ : 5 < n0
    · have b7_ : 6 ≤ Int32.toInt n0 ∧ Int32.toInt n0 ≤ 2147483647 := zr_lt_r 6 c6_ b5_ (show 5 ≤ Int32.toInt 5 ∧ Int32.toInt 5 ≤ 5 from (by decide)) (by decide)
      rw [if_pos c6_] at hw
      subst r1_
      refine lv_if_eq (tgt := 34) hx hb dX10_read_5 (by decide) (fun c8_ => ?_) (fun c8_ => absurd (by decide) c8_)
      refine lv_ldc2 (v := (-9223372036854775808)) hx hb hown (ht _ zm_1044) dX10_read_34 ?_
      refine lv_goto (tgt := 51) hx hb dX10_read_37 (by decide) ?_
      exact zret_l (v := (-9223372036854775808)) hx hb hr hlocks hS () ⟨(by show _ = _; rw [if_neg c2_, if_pos c6_]), trivial⟩ hW (Nat.le_of_ble_eq_true rfl) (Nat.le_of_ble_eq_true rfl) dX10_read_51
    · have b9_ : 0 ≤ Int32.toInt n0 ∧ Int32.toInt n0 ≤ 5 := zr_nlt_r 5 c6_ b5_ (show 5 ≤ Int32.toInt 5 ∧ Int32.toInt 5 ≤ 5 from (by decide)) (by decide)
      rw [if_neg c6_] at hw
      subst r1_
      refine lv_if_eq (tgt := 34) hx hb dX10_read_5 (by decide) (fun c10_ => absurd c10_ (by decide)) (fun c10_ => ?_)
      refine lv_aload_n hx hb dX10_read_8 rfl (lv_at hl 0 rfl) ?_
      refine zget hx hb ht inlX10 hown hK hW 0 rfl rfl 72 (by decide) zm_212 rfl dX10_read_9 ?_
      refine lv_iload_n hx hb dX10_read_12 rfl (lv_at hl 1 rfl) ?_
      have b11_ : (-1) ≤ Int32.toInt (f_sort (Int32.toNatClampNeg n0)) ∧ Int32.toInt (f_sort (Int32.toNatClampNeg n0)) ≤ 4 := hf_sort (Int32.toNatClampNeg n0)
      refine ziald (v := (f_sort (Int32.toNatClampNeg n0))) hx hb hK hW 1 rfl (zr_in b9_ (by decide) (by decide)) rfl dX10_read_13 ?_
      refine lv_if_lt (tgt := 34) hx hb dX10_read_14 (by decide) (fun c12_ => ?_) (fun c12_ => ?_)
      · have b13_ : (-1) ≤ Int32.toInt (f_sort (Int32.toNatClampNeg n0)) ∧ Int32.toInt (f_sort (Int32.toNatClampNeg n0)) ≤ (-1) := zr_lt_l (-1) c12_ b11_ (show 0 ≤ Int32.toInt 0 ∧ Int32.toInt 0 ≤ 0 from (by decide)) (by decide)
        refine lv_ldc2 (v := (-9223372036854775808)) hx hb hown (ht _ zm_1044) dX10_read_34 ?_
        refine lv_goto (tgt := 51) hx hb dX10_read_37 (by decide) ?_
        exact zret_l (v := (-9223372036854775808)) hx hb hr hlocks hS () ⟨(by show _ = _; rw [if_neg c2_, if_neg c6_, if_pos c12_]), trivial⟩ hW (Nat.le_of_ble_eq_true rfl) (Nat.le_of_ble_eq_true rfl) dX10_read_51
      · have b14_ : 0 ≤ Int32.toInt (f_sort (Int32.toNatClampNeg n0)) ∧ Int32.toInt (f_sort (Int32.toNatClampNeg n0)) ≤ 4 := zr_nlt_l 0 c12_ b11_ (show 0 ≤ Int32.toInt 0 ∧ Int32.toInt 0 ≤ 0 from (by decide)) (by decide)
        refine lv_aload_n hx hb dX10_read_17 rfl (lv_at hl 0 rfl) ?_
        refine lv_iload_n hx hb dX10_read_18 rfl (lv_at hl 2 rfl) ?_
        refine lv_iconst (v := 0) hx hb dX10_read_19 (by decide) ?_
        refine lv_aload_n hx hb dX10_read_20 rfl (lv_at hl 0 rfl) ?_
        refine zget hx hb ht inlX10 hown hK hW 0 rfl rfl 73 (by decide) zm_213 rfl dX10_read_21 ?_
        refine lv_iload_n hx hb dX10_read_24 rfl (lv_at hl 1 rfl) ?_
        have b15_ : 0 ≤ Int32.toInt (f_length (Int32.toNatClampNeg n0)) ∧ Int32.toInt (f_length (Int32.toNatClampNeg n0)) ≤ 60 := hf_length (Int32.toNatClampNeg n0)
        refine ziald (v := (f_length (Int32.toNatClampNeg n0))) hx hb hK hW 2 rfl (zr_in b9_ (by decide) (by decide)) rfl dX10_read_25 ?_
        refine lv_iconst (v := 1) hx hb dX10_read_26 (by decide) ?_
        refine lv_isub hx hb dX10_read_27 ?_
        obtain ⟨q17_, b16_⟩ : (Int32.toInt ((f_length (Int32.toNatClampNeg n0)) - 1) = Int32.toInt (f_length (Int32.toNatClampNeg n0)) - 1) ∧ ((-1) ≤ Int32.toInt ((f_length (Int32.toNatClampNeg n0)) - 1) ∧ Int32.toInt ((f_length (Int32.toNatClampNeg n0)) - 1) ≤ 59) := zsub_k (f_length (Int32.toNatClampNeg n0)) 1 1 (-1) 59 b15_ (by decide) (by decide) (by decide) (by decide) (by decide)
        refine zgo_i (wr := [(a_sort, .inl (y 0, 6, .inl f_sort)), (a_length, .inl (y 0, 6, .inl f_length)), (a_item, .inl (y 1, 360, .inr (.inl f_item)))]) (zrunV (As := [.int n1, .int 0, .int ((f_length (Int32.toNatClampNeg n0)) - 1)]) (rest := []) ⟨hx, hb, hml, hown, ht⟩ (zd_X10_in_x_0_x l D y a_this w_windows w_minutes w_wet w_comes w_side w_herFloor w_herRoom w_kind w_v w_floor w_room w_takes w_rows w_isShut w_houses w_the w_fed w_at w_digits w_text w_clauses w_word w_number w_from w_to w_sign w_waits w_signs w_waiting w_open w_letters w_pile w_since w_rain w_shutAt w_ways w_path w_rounds w_round w_bestPath w_seen w_seenWho w_seenHarm w_books w_bookWho w_bookWhen w_hasImage w_imageThe w_imageWindows w_imageMinutes w_imageWet w_imageComes w_imageSide w_imageFloor w_imageRoom w_imageRounds w_imageSeen w_imageBooks w_imageKind w_imageV w_imageFloors w_imageRooms w_imageTakes w_imageRows w_imageRound w_imageWho w_imageHarm w_imageBookWho w_imageWhen w_imageShut w_ran w_bodies (.ref a_sort) (.ref a_length) (.ref a_item) w_aside n1 ((f_length (Int32.toNatClampNeg n0)) - 1)) (cwV 3 ht (zgV zm_240 zm_241 zm_242 zm_5 zm_243) rfl rfl rfl (by decide +kernel) ⟨(Nat.le_of_ble_eq_true rfl), (Nat.le_of_ble_eq_true rfl)⟩) hK hE hS hA hW [0] (by decide) rfl 0 rfl rfl rfl rfl hl.1 rfl (Nat.le_of_ble_eq_true rfl) dX10_read_28 (Nat.le_of_ble_eq_true rfl) (Nat.le_of_ble_eq_true rfl)) hS hA hW [0] [1, 2, 3] rfl rfl (by decide) (by decide) (fun r18_ u H locs hw hW hS => ?_)
        replace hW : zPD D A [(a_this, .inr (9, [w_windows, w_minutes, w_wet, w_comes, w_side, w_herFloor, w_herRoom, w_kind, w_v, w_floor, w_room, w_takes, w_rows, w_isShut, w_houses, w_the, w_fed, w_at, w_digits, w_text, w_clauses, w_word, w_number, w_from, w_to, w_sign, w_waits, w_signs, w_waiting, w_open, w_letters, w_pile, w_since, w_rain, w_shutAt, w_ways, w_path, w_rounds, w_round, w_bestPath, w_seen, w_seenWho, w_seenHarm, w_books, w_bookWho, w_bookWhen, w_hasImage, w_imageThe, w_imageWindows, w_imageMinutes, w_imageWet, w_imageComes, w_imageSide, w_imageFloor, w_imageRoom, w_imageRounds, w_imageSeen, w_imageBooks, w_imageKind, w_imageV, w_imageFloors, w_imageRooms, w_imageTakes, w_imageRows, w_imageRound, w_imageWho, w_imageHarm, w_imageBookWho, w_imageWhen, w_imageShut, w_ran, w_bodies, .ref a_sort, .ref a_length, .ref a_item, w_aside])), (a_sort, .inl (y 0, 6, .inl f_sort)), (a_length, .inl (y 0, 6, .inl f_length)), (a_item, .inl (y 1, 360, .inr (.inl f_item)))] H := hW.sub [3, 0, 1, 2] (by decide) rfl
        replace hw : (r18_ = (if n1 < 0 then 0 else (if ((f_length (Int32.toNatClampNeg n0)) - 1) < n1 then 0 else 1))) ∧ True := hw
        obtain ⟨hw, -⟩ := hw
        by_cases c19_ : n1 < 0
        · have b20_ : (-2147483648) ≤ Int32.toInt n1 ∧ Int32.toInt n1 ≤ (-1) := zr_lt_l (-1) c19_ (zbnd n1) (show 0 ≤ Int32.toInt 0 ∧ Int32.toInt 0 ≤ 0 from (by decide)) (by decide)
          rw [if_pos c19_] at hw
          subst r18_
          refine lv_if_ne (tgt := 40) hx hb dX10_read_31 (by decide) (fun c21_ => absurd (by decide) c21_) (fun c21_ => ?_)
          refine lv_ldc2 (v := (-9223372036854775808)) hx hb hown (ht _ zm_1044) dX10_read_34 ?_
          refine lv_goto (tgt := 51) hx hb dX10_read_37 (by decide) ?_
          exact zret_l (v := (-9223372036854775808)) hx hb hr hlocks hS () ⟨(by show _ = _; rw [if_neg c2_, if_neg c6_, if_neg c12_, if_pos c19_]), trivial⟩ hW (Nat.le_of_ble_eq_true rfl) (Nat.le_of_ble_eq_true rfl) dX10_read_51
        · have b22_ : 0 ≤ Int32.toInt n1 ∧ Int32.toInt n1 ≤ 2147483647 := zr_nlt_l 0 c19_ (zbnd n1) (show 0 ≤ Int32.toInt 0 ∧ Int32.toInt 0 ≤ 0 from (by decide)) (by decide)
          rw [if_neg c19_] at hw
          by_cases c23_ : ((f_length (Int32.toNatClampNeg n0)) - 1) < n1
          · have d24_ : Int32.toInt ((f_length (Int32.toNatClampNeg n0)) - 1) < Int32.toInt n1 := (zi_lt _ _).mp c23_
            rw [if_pos c23_] at hw
            subst r18_
            refine lv_if_ne (tgt := 40) hx hb dX10_read_31 (by decide) (fun c25_ => absurd (by decide) c25_) (fun c25_ => ?_)
            refine lv_ldc2 (v := (-9223372036854775808)) hx hb hown (ht _ zm_1044) dX10_read_34 ?_
            refine lv_goto (tgt := 51) hx hb dX10_read_37 (by decide) ?_
            exact zret_l (v := (-9223372036854775808)) hx hb hr hlocks hS () ⟨(by show _ = _; rw [if_neg c2_, if_neg c6_, if_neg c12_, if_neg c19_, if_pos c23_]), trivial⟩ hW (Nat.le_of_ble_eq_true rfl) (Nat.le_of_ble_eq_true rfl) dX10_read_51
          · have b26_ : 0 ≤ Int32.toInt ((f_length (Int32.toNatClampNeg n0)) - 1) ∧ Int32.toInt ((f_length (Int32.toNatClampNeg n0)) - 1) ≤ 59 := zr_nlt_l 0 c23_ b16_ b22_ (by decide)
            have b27_ : 0 ≤ Int32.toInt n1 ∧ Int32.toInt n1 ≤ 59 := zr_nlt_r 59 c23_ b22_ b26_ (by decide)
            have d28_ : Int32.toInt ((f_length (Int32.toNatClampNeg n0)) - 1) ≥ Int32.toInt n1 := Int.not_lt.mp ((not_congr (zi_lt _ _)).mp c23_)
            rw [if_neg c23_] at hw
            subst r18_
            refine lv_if_ne (tgt := 40) hx hb dX10_read_31 (by decide) (fun c29_ => ?_) (fun c29_ => absurd c29_ (by decide))
            refine lv_aload_n hx hb dX10_read_40 rfl (lv_at hl 0 rfl) ?_
            refine zget hx hb ht inlX10 hown hK hW 0 rfl rfl 74 (by decide) zm_214 rfl dX10_read_41 ?_
            refine lv_bipush (v := 60) hx hb dX10_read_44 (by decide) ?_
            refine lv_iload_n hx hb dX10_read_46 rfl (lv_at hl 1 rfl) ?_
            refine lv_imul hx hb dX10_read_47 ?_
            have q31_ : Int32.toInt (60 * n0) = 60 * Int32.toInt n0 := by have u0 := (show (60 : Int32).toInt = 60 from (by decide)); have u1 := b9_; have u2 := zmul 60 n0 (by rw [u0]; omega) (by rw [u0]; omega); rw [u0] at u2; omega
            have b30_ : 0 ≤ Int32.toInt (60 * n0) ∧ Int32.toInt (60 * n0) ≤ 300 := by have u0 := (show (60 : Int32).toInt = 60 from (by decide)); have u1 := b9_; omega
            refine lv_iload_n hx hb dX10_read_48 rfl (lv_at hl 2 rfl) ?_
            refine lv_iadd hx hb dX10_read_49 ?_
            obtain ⟨q33_, b32_⟩ : (Int32.toInt ((60 * n0) + n1) = Int32.toInt (60 * n0) + Int32.toInt n1) ∧ (0 ≤ Int32.toInt ((60 * n0) + n1) ∧ Int32.toInt ((60 * n0) + n1) ≤ 359) := zadd_r (60 * n0) n1 0 359 b30_ b27_ (by decide) (by decide) (by decide) (by decide)
            refine zlald (v := (f_item (Int32.toNatClampNeg ((60 * n0) + n1)))) hx hb hK hW 3 rfl (zr_in b32_ (by decide) (by decide)) rfl dX10_read_50 ?_
            exact zret_l (v := (f_item (Int32.toNatClampNeg ((60 * n0) + n1)))) hx hb hr hlocks hS () ⟨(by show _ = _; rw [if_neg c2_, if_neg c6_, if_neg c12_, if_neg c19_, if_neg c23_]), trivial⟩ hW (Nat.le_of_ble_eq_true rfl) (Nat.le_of_ble_eq_true rfl) dX10_read_51
set_option maxHeartbeats 8000000 in
set_option maxRecDepth 100000 in
theorem zd_X10_shift_x_x_x_x_x (l : Launch) (D : va_G) (y : Nat → ClassId) (a_this : Nat) (a_sort : Nat) (a_length : Nat) (a_item : Nat) (a_aside : Nat) (w_windows : Value) (w_minutes : Value) (w_wet : Value) (w_comes : Value) (w_side : Value) (w_herFloor : Value) (w_herRoom : Value) (w_kind : Value) (w_v : Value) (w_floor : Value) (w_room : Value) (w_takes : Value) (w_rows : Value) (w_isShut : Value) (w_houses : Value) (w_the : Value) (w_fed : Value) (w_at : Value) (w_digits : Value) (w_text : Value) (w_clauses : Value) (w_word : Value) (w_number : Value) (w_from : Value) (w_to : Value) (w_sign : Value) (w_waits : Value) (w_signs : Value) (w_waiting : Value) (w_open : Value) (w_letters : Value) (w_pile : Value) (w_since : Value) (w_rain : Value) (w_shutAt : Value) (w_ways : Value) (w_path : Value) (w_rounds : Value) (w_round : Value) (w_bestPath : Value) (w_seen : Value) (w_seenWho : Value) (w_seenHarm : Value) (w_books : Value) (w_bookWho : Value) (w_bookWhen : Value) (w_hasImage : Value) (w_imageThe : Value) (w_imageWindows : Value) (w_imageMinutes : Value) (w_imageWet : Value) (w_imageComes : Value) (w_imageSide : Value) (w_imageFloor : Value) (w_imageRoom : Value) (w_imageRounds : Value) (w_imageSeen : Value) (w_imageBooks : Value) (w_imageKind : Value) (w_imageV : Value) (w_imageFloors : Value) (w_imageRooms : Value) (w_imageTakes : Value) (w_imageRows : Value) (w_imageRound : Value) (w_imageWho : Value) (w_imageHarm : Value) (w_imageBookWho : Value) (w_imageWhen : Value) (w_imageShut : Value) (w_ran : Value) (w_bodies : Value) (f_sort : Nat → Int32) (f_length : Nat → Int32) (f_item : Nat → Int64) (f_aside : Nat → Int64) (n0 : Int32) (n1 : Int32) (n2 : Int32) (n3 : Int32) (n4 : Int32) (hf_sort : ∀ j_, (-1) ≤ Int32.toInt (f_sort j_) ∧ Int32.toInt (f_sort j_) ≤ 4) (hf_length : ∀ j_, 0 ≤ Int32.toInt (f_length j_) ∧ Int32.toInt (f_length j_) ≤ 60) : zM l D y yX10_shift (Cond.code yX10_shift cX10_shift 7 (some .int) :: zT) { frames := 2, cells := 0, slots := 0, locals := 44 } [.ref a_this, .int n0, .int n1, .int n2, .int n3, .int n4] [(a_this, .inr (9, [w_windows, w_minutes, w_wet, w_comes, w_side, w_herFloor, w_herRoom, w_kind, w_v, w_floor, w_room, w_takes, w_rows, w_isShut, w_houses, w_the, w_fed, w_at, w_digits, w_text, w_clauses, w_word, w_number, w_from, w_to, w_sign, w_waits, w_signs, w_waiting, w_open, w_letters, w_pile, w_since, w_rain, w_shutAt, w_ways, w_path, w_rounds, w_round, w_bestPath, w_seen, w_seenWho, w_seenHarm, w_books, w_bookWho, w_bookWhen, w_hasImage, w_imageThe, w_imageWindows, w_imageMinutes, w_imageWet, w_imageComes, w_imageSide, w_imageFloor, w_imageRoom, w_imageRounds, w_imageSeen, w_imageBooks, w_imageKind, w_imageV, w_imageFloors, w_imageRooms, w_imageTakes, w_imageRows, w_imageRound, w_imageWho, w_imageHarm, w_imageBookWho, w_imageWhen, w_imageShut, w_ran, w_bodies, .ref a_sort, .ref a_length, .ref a_item, .ref a_aside])), (a_sort, .inl (y 0, 6, .inl f_sort)), (a_length, .inl (y 0, 6, .inl f_length)), (a_item, .inl (y 1, 360, .inr (.inl f_item))), (a_aside, .inl (y 1, 60, .inr (.inl f_aside)))] (zQi (S := (Nat → Int64) × (Nat → Int64)) D (fun r_ z_ => match z_ with | (g_item_, g_aside_) => ((-13) ≤ Int32.toInt r_ ∧ Int32.toInt r_ ≤ 60) ∧ True) (fun z_ => match z_ with | (g_item_, g_aside_) => [(a_this, .inr (9, [w_windows, w_minutes, w_wet, w_comes, w_side, w_herFloor, w_herRoom, w_kind, w_v, w_floor, w_room, w_takes, w_rows, w_isShut, w_houses, w_the, w_fed, w_at, w_digits, w_text, w_clauses, w_word, w_number, w_from, w_to, w_sign, w_waits, w_signs, w_waiting, w_open, w_letters, w_pile, w_since, w_rain, w_shutAt, w_ways, w_path, w_rounds, w_round, w_bestPath, w_seen, w_seenWho, w_seenHarm, w_books, w_bookWho, w_bookWhen, w_hasImage, w_imageThe, w_imageWindows, w_imageMinutes, w_imageWet, w_imageComes, w_imageSide, w_imageFloor, w_imageRoom, w_imageRounds, w_imageSeen, w_imageBooks, w_imageKind, w_imageV, w_imageFloors, w_imageRooms, w_imageTakes, w_imageRows, w_imageRound, w_imageWho, w_imageHarm, w_imageBookWho, w_imageWhen, w_imageShut, w_ran, w_bodies, .ref a_sort, .ref a_length, .ref a_item, .ref a_aside])), (a_sort, .inl (y 0, 6, .inl f_sort)), (a_length, .inl (y 0, 6, .inl f_length)), (a_item, .inl (y 1, 360, .inr (.inl g_item_))), (a_aside, .inl (y 1, 60, .inr (.inl g_aside_)))])) := by
  refine zent (cc := cX10_shift) (maxL := 7) (ret := (some .int)) (by decide) (Nat.le_of_ble_eq_true rfl) ?_
  intro p e s m below meth c A H locs ls hx hb hml hr ht hown hlocks hin hA hK hE hS hW hl
  replace hown : s.vm.findClass RX10 = some m.cls := hown
  replace hW : zPD D A [(a_this, .inr (9, [w_windows, w_minutes, w_wet, w_comes, w_side, w_herFloor, w_herRoom, w_kind, w_v, w_floor, w_room, w_takes, w_rows, w_isShut, w_houses, w_the, w_fed, w_at, w_digits, w_text, w_clauses, w_word, w_number, w_from, w_to, w_sign, w_waits, w_signs, w_waiting, w_open, w_letters, w_pile, w_since, w_rain, w_shutAt, w_ways, w_path, w_rounds, w_round, w_bestPath, w_seen, w_seenWho, w_seenHarm, w_books, w_bookWho, w_bookWhen, w_hasImage, w_imageThe, w_imageWindows, w_imageMinutes, w_imageWet, w_imageComes, w_imageSide, w_imageFloor, w_imageRoom, w_imageRounds, w_imageSeen, w_imageBooks, w_imageKind, w_imageV, w_imageFloors, w_imageRooms, w_imageTakes, w_imageRows, w_imageRound, w_imageWho, w_imageHarm, w_imageBookWho, w_imageWhen, w_imageShut, w_ran, w_bodies, .ref a_sort, .ref a_length, .ref a_item, .ref a_aside])), (a_sort, .inl (y 0, 6, .inl f_sort)), (a_length, .inl (y 0, 6, .inl f_length)), (a_item, .inl (y 1, 360, .inr (.inl f_item))), (a_aside, .inl (y 1, 60, .inr (.inl f_aside)))] H := hW
  replace hl : lv_has ls 7 [(0, .ref a_this), (1, .int n0), (2, .int n1), (3, .int n2), (4, .int n3), (5, .int n4)] := hl
  refine lv_aload_n hx hb dX10_shift_0 rfl (lv_at hl 0 rfl) ?_
  refine lv_iload_n hx hb dX10_shift_1 rfl (lv_at hl 1 rfl) ?_
  refine zgo_i (wr := [(a_sort, .inl (y 0, 6, .inl f_sort)), (a_length, .inl (y 0, 6, .inl f_length)), (a_item, .inl (y 1, 360, .inr (.inl f_item))), (a_aside, .inl (y 1, 60, .inr (.inl f_aside)))]) (zrunV (As := [.int n0]) (rest := []) ⟨hx, hb, hml, hown, ht⟩ (zd_X10_isTape_x l D y a_this w_windows w_minutes w_wet w_comes w_side w_herFloor w_herRoom w_kind w_v w_floor w_room w_takes w_rows w_isShut w_houses w_the w_fed w_at w_digits w_text w_clauses w_word w_number w_from w_to w_sign w_waits w_signs w_waiting w_open w_letters w_pile w_since w_rain w_shutAt w_ways w_path w_rounds w_round w_bestPath w_seen w_seenWho w_seenHarm w_books w_bookWho w_bookWhen w_hasImage w_imageThe w_imageWindows w_imageMinutes w_imageWet w_imageComes w_imageSide w_imageFloor w_imageRoom w_imageRounds w_imageSeen w_imageBooks w_imageKind w_imageV w_imageFloors w_imageRooms w_imageTakes w_imageRows w_imageRound w_imageWho w_imageHarm w_imageBookWho w_imageWhen w_imageShut w_ran w_bodies (.ref a_sort) (.ref a_length) (.ref a_item) (.ref a_aside) n0) (cwV 1 ht (zgV zm_1097 zm_1098 zm_1099 zm_5 zm_1100) rfl rfl rfl (by decide +kernel) ⟨(Nat.le_of_ble_eq_true rfl), (Nat.le_of_ble_eq_true rfl)⟩) hK hE hS hA hW [0] (by decide) rfl 0 rfl rfl rfl rfl hl.1 rfl (Nat.le_of_ble_eq_true rfl) dX10_shift_2 (Nat.le_of_ble_eq_true rfl) (Nat.le_of_ble_eq_true rfl)) hS hA hW [0] [1, 2, 3, 4] rfl rfl (by decide) (by decide) (fun r1_ u H locs hw hW hS => ?_)
  replace hW : zPD D A [(a_this, .inr (9, [w_windows, w_minutes, w_wet, w_comes, w_side, w_herFloor, w_herRoom, w_kind, w_v, w_floor, w_room, w_takes, w_rows, w_isShut, w_houses, w_the, w_fed, w_at, w_digits, w_text, w_clauses, w_word, w_number, w_from, w_to, w_sign, w_waits, w_signs, w_waiting, w_open, w_letters, w_pile, w_since, w_rain, w_shutAt, w_ways, w_path, w_rounds, w_round, w_bestPath, w_seen, w_seenWho, w_seenHarm, w_books, w_bookWho, w_bookWhen, w_hasImage, w_imageThe, w_imageWindows, w_imageMinutes, w_imageWet, w_imageComes, w_imageSide, w_imageFloor, w_imageRoom, w_imageRounds, w_imageSeen, w_imageBooks, w_imageKind, w_imageV, w_imageFloors, w_imageRooms, w_imageTakes, w_imageRows, w_imageRound, w_imageWho, w_imageHarm, w_imageBookWho, w_imageWhen, w_imageShut, w_ran, w_bodies, .ref a_sort, .ref a_length, .ref a_item, .ref a_aside])), (a_sort, .inl (y 0, 6, .inl f_sort)), (a_length, .inl (y 0, 6, .inl f_length)), (a_item, .inl (y 1, 360, .inr (.inl f_item))), (a_aside, .inl (y 1, 60, .inr (.inl f_aside)))] H := hW.sub [4, 0, 1, 2, 3] (by decide) rfl
  replace hw : (r1_ = (if n0 < 0 then 0 else (if 5 < n0 then 0 else 1))) ∧ True := hw
  obtain ⟨hw, -⟩ := hw
  by_cases c2_ : n0 < 0
  · have b3_ : (-2147483648) ≤ Int32.toInt n0 ∧ Int32.toInt n0 ≤ (-1) := zr_lt_l (-1) c2_ (zbnd n0) (show 0 ≤ Int32.toInt 0 ∧ Int32.toInt 0 ≤ 0 from (by decide)) (by decide)
    rw [if_pos c2_] at hw
    subst r1_
    refine lv_if_eq (tgt := 16) hx hb dX10_shift_5 (by decide) (fun c4_ => ?_) (fun c4_ => absurd (by decide) c4_)
    refine lv_iconst (v := (-1)) hx hb dX10_shift_16 (by decide) ?_
    exact zret_i (v := (-1)) hx hb hr hlocks hS (f_item, f_aside) ⟨(by decide), trivial⟩ hW (Nat.le_of_ble_eq_true rfl) (Nat.le_of_ble_eq_true rfl) dX10_shift_17
  · have b5_ : 0 ≤ Int32.toInt n0 ∧ Int32.toInt n0 ≤ 2147483647 := zr_nlt_l 0 c2_ (zbnd n0) (show 0 ≤ Int32.toInt 0 ∧ Int32.toInt 0 ≤ 0 from (by decide)) (by decide)
    rw [if_neg c2_] at hw
    by_cases c6_ : 5 < n0
    · have b7_ : 6 ≤ Int32.toInt n0 ∧ Int32.toInt n0 ≤ 2147483647 := zr_lt_r 6 c6_ b5_ (show 5 ≤ Int32.toInt 5 ∧ Int32.toInt 5 ≤ 5 from (by decide)) (by decide)
      rw [if_pos c6_] at hw
      subst r1_
      refine lv_if_eq (tgt := 16) hx hb dX10_shift_5 (by decide) (fun c8_ => ?_) (fun c8_ => absurd (by decide) c8_)
      refine lv_iconst (v := (-1)) hx hb dX10_shift_16 (by decide) ?_
      exact zret_i (v := (-1)) hx hb hr hlocks hS (f_item, f_aside) ⟨(by decide), trivial⟩ hW (Nat.le_of_ble_eq_true rfl) (Nat.le_of_ble_eq_true rfl) dX10_shift_17
    · have b9_ : 0 ≤ Int32.toInt n0 ∧ Int32.toInt n0 ≤ 5 := zr_nlt_r 5 c6_ b5_ (show 5 ≤ Int32.toInt 5 ∧ Int32.toInt 5 ≤ 5 from (by decide)) (by decide)
      rw [if_neg c6_] at hw
      subst r1_
      refine lv_if_eq (tgt := 16) hx hb dX10_shift_5 (by decide) (fun c10_ => absurd c10_ (by decide)) (fun c10_ => ?_)
      refine lv_aload_n hx hb dX10_shift_8 rfl (lv_at hl 0 rfl) ?_
      refine lv_iload_n hx hb dX10_shift_9 rfl (lv_at hl 3 rfl) ?_
      refine zgo_i (wr := [(a_sort, .inl (y 0, 6, .inl f_sort)), (a_length, .inl (y 0, 6, .inl f_length)), (a_item, .inl (y 1, 360, .inr (.inl f_item))), (a_aside, .inl (y 1, 60, .inr (.inl f_aside)))]) (zrunV (As := [.int n2]) (rest := []) ⟨hx, hb, hml, hown, ht⟩ (zd_X10_isTape_x l D y a_this w_windows w_minutes w_wet w_comes w_side w_herFloor w_herRoom w_kind w_v w_floor w_room w_takes w_rows w_isShut w_houses w_the w_fed w_at w_digits w_text w_clauses w_word w_number w_from w_to w_sign w_waits w_signs w_waiting w_open w_letters w_pile w_since w_rain w_shutAt w_ways w_path w_rounds w_round w_bestPath w_seen w_seenWho w_seenHarm w_books w_bookWho w_bookWhen w_hasImage w_imageThe w_imageWindows w_imageMinutes w_imageWet w_imageComes w_imageSide w_imageFloor w_imageRoom w_imageRounds w_imageSeen w_imageBooks w_imageKind w_imageV w_imageFloors w_imageRooms w_imageTakes w_imageRows w_imageRound w_imageWho w_imageHarm w_imageBookWho w_imageWhen w_imageShut w_ran w_bodies (.ref a_sort) (.ref a_length) (.ref a_item) (.ref a_aside) n2) (cwV 1 ht (zgV zm_1097 zm_1098 zm_1099 zm_5 zm_1100) rfl rfl rfl (by decide +kernel) ⟨(Nat.le_of_ble_eq_true rfl), (Nat.le_of_ble_eq_true rfl)⟩) hK hE hS hA hW [0] (by decide) rfl 0 rfl rfl rfl rfl hl.1 rfl (Nat.le_of_ble_eq_true rfl) dX10_shift_10 (Nat.le_of_ble_eq_true rfl) (Nat.le_of_ble_eq_true rfl)) hS hA hW [0] [1, 2, 3, 4] rfl rfl (by decide) (by decide) (fun r11_ u H locs hw hW hS => ?_)
      replace hW : zPD D A [(a_this, .inr (9, [w_windows, w_minutes, w_wet, w_comes, w_side, w_herFloor, w_herRoom, w_kind, w_v, w_floor, w_room, w_takes, w_rows, w_isShut, w_houses, w_the, w_fed, w_at, w_digits, w_text, w_clauses, w_word, w_number, w_from, w_to, w_sign, w_waits, w_signs, w_waiting, w_open, w_letters, w_pile, w_since, w_rain, w_shutAt, w_ways, w_path, w_rounds, w_round, w_bestPath, w_seen, w_seenWho, w_seenHarm, w_books, w_bookWho, w_bookWhen, w_hasImage, w_imageThe, w_imageWindows, w_imageMinutes, w_imageWet, w_imageComes, w_imageSide, w_imageFloor, w_imageRoom, w_imageRounds, w_imageSeen, w_imageBooks, w_imageKind, w_imageV, w_imageFloors, w_imageRooms, w_imageTakes, w_imageRows, w_imageRound, w_imageWho, w_imageHarm, w_imageBookWho, w_imageWhen, w_imageShut, w_ran, w_bodies, .ref a_sort, .ref a_length, .ref a_item, .ref a_aside])), (a_sort, .inl (y 0, 6, .inl f_sort)), (a_length, .inl (y 0, 6, .inl f_length)), (a_item, .inl (y 1, 360, .inr (.inl f_item))), (a_aside, .inl (y 1, 60, .inr (.inl f_aside)))] H := hW.sub [4, 0, 1, 2, 3] (by decide) rfl
      replace hw : (r11_ = (if n2 < 0 then 0 else (if 5 < n2 then 0 else 1))) ∧ True := hw
      obtain ⟨hw, -⟩ := hw
      by_cases c12_ : n2 < 0
      · have b13_ : (-2147483648) ≤ Int32.toInt n2 ∧ Int32.toInt n2 ≤ (-1) := zr_lt_l (-1) c12_ (zbnd n2) (show 0 ≤ Int32.toInt 0 ∧ Int32.toInt 0 ≤ 0 from (by decide)) (by decide)
        rw [if_pos c12_] at hw
        subst r11_
        refine lv_if_ne (tgt := 18) hx hb dX10_shift_13 (by decide) (fun c14_ => absurd (by decide) c14_) (fun c14_ => ?_)
        refine lv_iconst (v := (-1)) hx hb dX10_shift_16 (by decide) ?_
        exact zret_i (v := (-1)) hx hb hr hlocks hS (f_item, f_aside) ⟨(by decide), trivial⟩ hW (Nat.le_of_ble_eq_true rfl) (Nat.le_of_ble_eq_true rfl) dX10_shift_17
      · have b15_ : 0 ≤ Int32.toInt n2 ∧ Int32.toInt n2 ≤ 2147483647 := zr_nlt_l 0 c12_ (zbnd n2) (show 0 ≤ Int32.toInt 0 ∧ Int32.toInt 0 ≤ 0 from (by decide)) (by decide)
        rw [if_neg c12_] at hw
        by_cases c16_ : 5 < n2
        · have b17_ : 6 ≤ Int32.toInt n2 ∧ Int32.toInt n2 ≤ 2147483647 := zr_lt_r 6 c16_ b15_ (show 5 ≤ Int32.toInt 5 ∧ Int32.toInt 5 ≤ 5 from (by decide)) (by decide)
          rw [if_pos c16_] at hw
          subst r11_
          refine lv_if_ne (tgt := 18) hx hb dX10_shift_13 (by decide) (fun c18_ => absurd (by decide) c18_) (fun c18_ => ?_)
          refine lv_iconst (v := (-1)) hx hb dX10_shift_16 (by decide) ?_
          exact zret_i (v := (-1)) hx hb hr hlocks hS (f_item, f_aside) ⟨(by decide), trivial⟩ hW (Nat.le_of_ble_eq_true rfl) (Nat.le_of_ble_eq_true rfl) dX10_shift_17
        · have b19_ : 0 ≤ Int32.toInt n2 ∧ Int32.toInt n2 ≤ 5 := zr_nlt_r 5 c16_ b15_ (show 5 ≤ Int32.toInt 5 ∧ Int32.toInt 5 ≤ 5 from (by decide)) (by decide)
          rw [if_neg c16_] at hw
          subst r11_
          refine lv_if_ne (tgt := 18) hx hb dX10_shift_13 (by decide) (fun c20_ => ?_) (fun c20_ => absurd c20_ (by decide))
          refine lv_aload_n hx hb dX10_shift_18 rfl (lv_at hl 0 rfl) ?_
          refine zget hx hb ht inlX10 hown hK hW 0 rfl rfl 72 (by decide) zm_212 rfl dX10_shift_19 ?_
          refine lv_iload_n hx hb dX10_shift_22 rfl (lv_at hl 1 rfl) ?_
          have b21_ : (-1) ≤ Int32.toInt (f_sort (Int32.toNatClampNeg n0)) ∧ Int32.toInt (f_sort (Int32.toNatClampNeg n0)) ≤ 4 := hf_sort (Int32.toNatClampNeg n0)
          refine ziald (v := (f_sort (Int32.toNatClampNeg n0))) hx hb hK hW 1 rfl (zr_in b9_ (by decide) (by decide)) rfl dX10_shift_23 ?_
          refine lv_if_lt (tgt := 36) hx hb dX10_shift_24 (by decide) (fun c22_ => ?_) (fun c22_ => ?_)
          · have b23_ : (-1) ≤ Int32.toInt (f_sort (Int32.toNatClampNeg n0)) ∧ Int32.toInt (f_sort (Int32.toNatClampNeg n0)) ≤ (-1) := zr_lt_l (-1) c22_ b21_ (show 0 ≤ Int32.toInt 0 ∧ Int32.toInt 0 ≤ 0 from (by decide)) (by decide)
            refine lv_bipush (v := (-11)) hx hb dX10_shift_36 (by decide) ?_
            exact zret_i (v := (-11)) hx hb hr hlocks hS (f_item, f_aside) ⟨(by decide), trivial⟩ hW (Nat.le_of_ble_eq_true rfl) (Nat.le_of_ble_eq_true rfl) dX10_shift_38
          · have b24_ : 0 ≤ Int32.toInt (f_sort (Int32.toNatClampNeg n0)) ∧ Int32.toInt (f_sort (Int32.toNatClampNeg n0)) ≤ 4 := zr_nlt_l 0 c22_ b21_ (show 0 ≤ Int32.toInt 0 ∧ Int32.toInt 0 ≤ 0 from (by decide)) (by decide)
            refine lv_aload_n hx hb dX10_shift_27 rfl (lv_at hl 0 rfl) ?_
            refine zget hx hb ht inlX10 hown hK hW 0 rfl rfl 72 (by decide) zm_212 rfl dX10_shift_28 ?_
            refine lv_iload_n hx hb dX10_shift_31 rfl (lv_at hl 3 rfl) ?_
            have b25_ : (-1) ≤ Int32.toInt (f_sort (Int32.toNatClampNeg n2)) ∧ Int32.toInt (f_sort (Int32.toNatClampNeg n2)) ≤ 4 := hf_sort (Int32.toNatClampNeg n2)
            refine ziald (v := (f_sort (Int32.toNatClampNeg n2))) hx hb hK hW 1 rfl (zr_in b19_ (by decide) (by decide)) rfl dX10_shift_32 ?_
            refine lv_if_ge (tgt := 39) hx hb dX10_shift_33 (by decide) (fun c26_ => ?_) (fun c26_ => ?_)
            · have b27_ : 0 ≤ Int32.toInt (f_sort (Int32.toNatClampNeg n2)) ∧ Int32.toInt (f_sort (Int32.toNatClampNeg n2)) ≤ 4 := zr_le_r 0 c26_ b25_ (show 0 ≤ Int32.toInt 0 ∧ Int32.toInt 0 ≤ 0 from (by decide)) (by decide)
              refine lv_aload_n hx hb dX10_shift_39 rfl (lv_at hl 0 rfl) ?_
              refine zget hx hb ht inlX10 hown hK hW 0 rfl rfl 72 (by decide) zm_212 rfl dX10_shift_40 ?_
              refine lv_iload_n hx hb dX10_shift_43 rfl (lv_at hl 1 rfl) ?_
              refine ziald (v := (f_sort (Int32.toNatClampNeg n0))) hx hb hK hW 1 rfl (zr_in b9_ (by decide) (by decide)) rfl dX10_shift_44 ?_
              refine lv_aload_n hx hb dX10_shift_45 rfl (lv_at hl 0 rfl) ?_
              refine zget hx hb ht inlX10 hown hK hW 0 rfl rfl 72 (by decide) zm_212 rfl dX10_shift_46 ?_
              refine lv_iload_n hx hb dX10_shift_49 rfl (lv_at hl 3 rfl) ?_
              refine ziald (v := (f_sort (Int32.toNatClampNeg n2))) hx hb hK hW 1 rfl (zr_in b19_ (by decide) (by decide)) rfl dX10_shift_50 ?_
              refine lv_icmp_eq (tgt := 57) hx hb dX10_shift_51 (by decide) (fun c28_ => ?_) (fun c28_ => ?_)
              · have d29_ : Int32.toInt (f_sort (Int32.toNatClampNeg n0)) = Int32.toInt (f_sort (Int32.toNatClampNeg n2)) := (zi_eq _ _).mp c28_
                refine lv_iload hx hb dX10_shift_57 (lv_at hl 5 rfl) ?_
                refine lv_if_lt (tgt := 98) hx hb dX10_shift_59 (by decide) (fun c30_ => ?_) (fun c30_ => ?_)
                · have b31_ : (-2147483648) ≤ Int32.toInt n4 ∧ Int32.toInt n4 ≤ (-1) := zr_lt_l (-1) c30_ (zbnd n4) (show 0 ≤ Int32.toInt 0 ∧ Int32.toInt 0 ≤ 0 from (by decide)) (by decide)
                  refine lv_bipush (v := (-13)) hx hb dX10_shift_98 (by decide) ?_
                  exact zret_i (v := (-13)) hx hb hr hlocks hS (f_item, f_aside) ⟨(by decide), trivial⟩ hW (Nat.le_of_ble_eq_true rfl) (Nat.le_of_ble_eq_true rfl) dX10_shift_100
                · have b32_ : 0 ≤ Int32.toInt n4 ∧ Int32.toInt n4 ≤ 2147483647 := zr_nlt_l 0 c30_ (zbnd n4) (show 0 ≤ Int32.toInt 0 ∧ Int32.toInt 0 ≤ 0 from (by decide)) (by decide)
                  refine lv_iload_n hx hb dX10_shift_62 rfl (lv_at hl 2 rfl) ?_
                  refine lv_if_lt (tgt := 98) hx hb dX10_shift_63 (by decide) (fun c33_ => ?_) (fun c33_ => ?_)
                  · have b34_ : (-2147483648) ≤ Int32.toInt n1 ∧ Int32.toInt n1 ≤ (-1) := zr_lt_l (-1) c33_ (zbnd n1) (show 0 ≤ Int32.toInt 0 ∧ Int32.toInt 0 ≤ 0 from (by decide)) (by decide)
                    refine lv_bipush (v := (-13)) hx hb dX10_shift_98 (by decide) ?_
                    exact zret_i (v := (-13)) hx hb hr hlocks hS (f_item, f_aside) ⟨(by decide), trivial⟩ hW (Nat.le_of_ble_eq_true rfl) (Nat.le_of_ble_eq_true rfl) dX10_shift_100
                  · have b35_ : 0 ≤ Int32.toInt n1 ∧ Int32.toInt n1 ≤ 2147483647 := zr_nlt_l 0 c33_ (zbnd n1) (show 0 ≤ Int32.toInt 0 ∧ Int32.toInt 0 ≤ 0 from (by decide)) (by decide)
                    refine lv_iload hx hb dX10_shift_66 (lv_at hl 4 rfl) ?_
                    refine lv_if_lt (tgt := 98) hx hb dX10_shift_68 (by decide) (fun c36_ => ?_) (fun c36_ => ?_)
                    · have b37_ : (-2147483648) ≤ Int32.toInt n3 ∧ Int32.toInt n3 ≤ (-1) := zr_lt_l (-1) c36_ (zbnd n3) (show 0 ≤ Int32.toInt 0 ∧ Int32.toInt 0 ≤ 0 from (by decide)) (by decide)
                      refine lv_bipush (v := (-13)) hx hb dX10_shift_98 (by decide) ?_
                      exact zret_i (v := (-13)) hx hb hr hlocks hS (f_item, f_aside) ⟨(by decide), trivial⟩ hW (Nat.le_of_ble_eq_true rfl) (Nat.le_of_ble_eq_true rfl) dX10_shift_100
                    · have b38_ : 0 ≤ Int32.toInt n3 ∧ Int32.toInt n3 ≤ 2147483647 := zr_nlt_l 0 c36_ (zbnd n3) (show 0 ≤ Int32.toInt 0 ∧ Int32.toInt 0 ≤ 0 from (by decide)) (by decide)
                      refine lv_iload_n hx hb dX10_shift_71 rfl (lv_at hl 2 rfl) ?_
                      refine lv_aload_n hx hb dX10_shift_72 rfl (lv_at hl 0 rfl) ?_
                      refine zget hx hb ht inlX10 hown hK hW 0 rfl rfl 73 (by decide) zm_213 rfl dX10_shift_73 ?_
                      refine lv_iload_n hx hb dX10_shift_76 rfl (lv_at hl 1 rfl) ?_
                      have b39_ : 0 ≤ Int32.toInt (f_length (Int32.toNatClampNeg n0)) ∧ Int32.toInt (f_length (Int32.toNatClampNeg n0)) ≤ 60 := hf_length (Int32.toNatClampNeg n0)
                      refine ziald (v := (f_length (Int32.toNatClampNeg n0))) hx hb hK hW 2 rfl (zr_in b9_ (by decide) (by decide)) rfl dX10_shift_77 ?_
                      refine lv_iload hx hb dX10_shift_78 (lv_at hl 5 rfl) ?_
                      refine lv_isub hx hb dX10_shift_80 ?_
                      obtain ⟨q41_, b40_⟩ : (Int32.toInt ((f_length (Int32.toNatClampNeg n0)) - n4) = Int32.toInt (f_length (Int32.toNatClampNeg n0)) - Int32.toInt n4) ∧ ((-2147483647) ≤ Int32.toInt ((f_length (Int32.toNatClampNeg n0)) - n4) ∧ Int32.toInt ((f_length (Int32.toNatClampNeg n0)) - n4) ≤ 60) := zsub_r (f_length (Int32.toNatClampNeg n0)) n4 (-2147483647) 60 b39_ b32_ (by decide) (by decide) (by decide) (by decide)
                      refine lv_icmp_gt (tgt := 98) hx hb dX10_shift_81 (by decide) (fun c42_ => ?_) (fun c42_ => ?_)
                      · have d43_ : Int32.toInt ((f_length (Int32.toNatClampNeg n0)) - n4) < Int32.toInt n1 := (zi_lt _ _).mp c42_
                        refine lv_bipush (v := (-13)) hx hb dX10_shift_98 (by decide) ?_
                        exact zret_i (v := (-13)) hx hb hr hlocks hS (f_item, f_aside) ⟨(by decide), trivial⟩ hW (Nat.le_of_ble_eq_true rfl) (Nat.le_of_ble_eq_true rfl) dX10_shift_100
                      · have b44_ : 0 ≤ Int32.toInt ((f_length (Int32.toNatClampNeg n0)) - n4) ∧ Int32.toInt ((f_length (Int32.toNatClampNeg n0)) - n4) ≤ 60 := zr_nlt_l 0 c42_ b40_ b35_ (by decide)
                        have b45_ : 0 ≤ Int32.toInt n1 ∧ Int32.toInt n1 ≤ 60 := zr_nlt_r 60 c42_ b35_ b44_ (by decide)
                        have d46_ : Int32.toInt ((f_length (Int32.toNatClampNeg n0)) - n4) ≥ Int32.toInt n1 := Int.not_lt.mp ((not_congr (zi_lt _ _)).mp c42_)
                        refine lv_iload hx hb dX10_shift_84 (lv_at hl 4 rfl) ?_
                        refine lv_aload_n hx hb dX10_shift_86 rfl (lv_at hl 0 rfl) ?_
                        refine zget hx hb ht inlX10 hown hK hW 0 rfl rfl 73 (by decide) zm_213 rfl dX10_shift_87 ?_
                        refine lv_iload_n hx hb dX10_shift_90 rfl (lv_at hl 3 rfl) ?_
                        have b47_ : 0 ≤ Int32.toInt (f_length (Int32.toNatClampNeg n2)) ∧ Int32.toInt (f_length (Int32.toNatClampNeg n2)) ≤ 60 := hf_length (Int32.toNatClampNeg n2)
                        refine ziald (v := (f_length (Int32.toNatClampNeg n2))) hx hb hK hW 2 rfl (zr_in b19_ (by decide) (by decide)) rfl dX10_shift_91 ?_
                        refine lv_iload hx hb dX10_shift_92 (lv_at hl 5 rfl) ?_
                        refine lv_isub hx hb dX10_shift_94 ?_
                        obtain ⟨q49_, b48_⟩ : (Int32.toInt ((f_length (Int32.toNatClampNeg n2)) - n4) = Int32.toInt (f_length (Int32.toNatClampNeg n2)) - Int32.toInt n4) ∧ ((-2147483647) ≤ Int32.toInt ((f_length (Int32.toNatClampNeg n2)) - n4) ∧ Int32.toInt ((f_length (Int32.toNatClampNeg n2)) - n4) ≤ 60) := zsub_r (f_length (Int32.toNatClampNeg n2)) n4 (-2147483647) 60 b47_ b32_ (by decide) (by decide) (by decide) (by decide)
                        refine lv_icmp_le (tgt := 101) hx hb dX10_shift_95 (by decide) (fun c50_ => ?_) (fun c50_ => ?_)
                        · have b51_ : 0 ≤ Int32.toInt n3 ∧ Int32.toInt n3 ≤ 60 := zr_le_l 60 c50_ b38_ b48_ (by decide)
                          have b52_ : 0 ≤ Int32.toInt ((f_length (Int32.toNatClampNeg n2)) - n4) ∧ Int32.toInt ((f_length (Int32.toNatClampNeg n2)) - n4) ≤ 60 := zr_le_r 0 c50_ b48_ b51_ (by decide)
                          have d53_ : Int32.toInt n3 ≤ Int32.toInt ((f_length (Int32.toNatClampNeg n2)) - n4) := (zi_le _ _).mp c50_
                          refine lv_iconst (v := 0) hx hb dX10_shift_101 (by decide) ?_
                          refine lv_istore (lv' := [(6, .int 0), (0, .ref a_this), (1, .int n0), (2, .int n1), (3, .int n2), (4, .int n3), (5, .int n4)]) hx hb dX10_shift_102 hl (by decide) rfl (fun ls hl => ?_)
                          obtain ⟨x54_, ex54_⟩ : ∃ z : Int32, z = 0 := ⟨_, rfl⟩
                          obtain ⟨g55_, eg55_⟩ : ∃ z : Nat → Int64, z = f_aside := ⟨_, rfl⟩
                          obtain ⟨n104_, hI104_⟩ : ∃ n : Nat, (0 ≤ Int32.toInt x54_ ∧ Int32.toInt x54_ ≤ 60) ∧ (60 - Int32.toInt x54_ < (n : Int)) ∧ zPD D A [(a_this, .inr (9, [w_windows, w_minutes, w_wet, w_comes, w_side, w_herFloor, w_herRoom, w_kind, w_v, w_floor, w_room, w_takes, w_rows, w_isShut, w_houses, w_the, w_fed, w_at, w_digits, w_text, w_clauses, w_word, w_number, w_from, w_to, w_sign, w_waits, w_signs, w_waiting, w_open, w_letters, w_pile, w_since, w_rain, w_shutAt, w_ways, w_path, w_rounds, w_round, w_bestPath, w_seen, w_seenWho, w_seenHarm, w_books, w_bookWho, w_bookWhen, w_hasImage, w_imageThe, w_imageWindows, w_imageMinutes, w_imageWet, w_imageComes, w_imageSide, w_imageFloor, w_imageRoom, w_imageRounds, w_imageSeen, w_imageBooks, w_imageKind, w_imageV, w_imageFloors, w_imageRooms, w_imageTakes, w_imageRows, w_imageRound, w_imageWho, w_imageHarm, w_imageBookWho, w_imageWhen, w_imageShut, w_ran, w_bodies, .ref a_sort, .ref a_length, .ref a_item, .ref a_aside])), (a_sort, .inl (y 0, 6, .inl f_sort)), (a_length, .inl (y 0, 6, .inl f_length)), (a_item, .inl (y 1, 360, .inr (.inl f_item))), (a_aside, .inl (y 1, 60, .inr (.inl g55_)))] H ∧ va_S A s.heap H locs ∧ lv_has ls 7 [(6, .int x54_), (0, .ref a_this), (1, .int n0), (2, .int n1), (3, .int n2), (4, .int n3), (5, .int n4)] := ⟨(60 - Int32.toInt x54_ + 1).toNat, by (try rw [ex54_]); exact (by decide), by omega, by (try rw [ex54_]); (try rw [eg55_]); exact hW, hS, by (try rw [ex54_]); (try rw [eg55_]); exact hl⟩
                          clear hW hS hl ex54_ eg55_
                          induction n104_ generalizing x54_ g55_ H locs ls with
                          | zero => obtain ⟨bx54_, hn, -⟩ := hI104_; exact absurd hn (by omega)
                          | succ n ih =>
                            obtain ⟨bx54_, hn, hW, hS, hl⟩ := hI104_
                            refine lv_iload hx hb dX10_shift_104 (lv_at hl 0 rfl) ?_
                            refine lv_iload hx hb dX10_shift_106 (lv_at hl 6 rfl) ?_
                            refine lv_icmp_ge (tgt := 138) hx hb dX10_shift_108 (by decide) (fun c56_ => ?_) (fun c56_ => ?_)
                            · have b57_ : 0 ≤ Int32.toInt n4 ∧ Int32.toInt n4 ≤ 60 := zr_le_l 60 c56_ b32_ bx54_ (by decide)
                              have d58_ : Int32.toInt n4 ≤ Int32.toInt x54_ := (zi_le _ _).mp c56_
                              refine lv_iconst (v := 0) hx hb dX10_shift_138 (by decide) ?_
                              refine lv_istore (lv' := [(6, .int 0), (0, .ref a_this), (1, .int n0), (2, .int n1), (3, .int n2), (4, .int n3), (5, .int n4)]) hx hb dX10_shift_139 hl (by decide) rfl (fun ls hl => ?_)
                              obtain ⟨x59_, ex59_⟩ : ∃ z : Int32, z = 0 := ⟨_, rfl⟩
                              obtain ⟨g60_, eg60_⟩ : ∃ z : Nat → Int64, z = f_item := ⟨_, rfl⟩
                              obtain ⟨n141_, hI141_⟩ : ∃ n : Nat, (0 ≤ Int32.toInt x59_ ∧ Int32.toInt x59_ ≤ 60) ∧ (60 - Int32.toInt x59_ < (n : Int)) ∧ zPD D A [(a_this, .inr (9, [w_windows, w_minutes, w_wet, w_comes, w_side, w_herFloor, w_herRoom, w_kind, w_v, w_floor, w_room, w_takes, w_rows, w_isShut, w_houses, w_the, w_fed, w_at, w_digits, w_text, w_clauses, w_word, w_number, w_from, w_to, w_sign, w_waits, w_signs, w_waiting, w_open, w_letters, w_pile, w_since, w_rain, w_shutAt, w_ways, w_path, w_rounds, w_round, w_bestPath, w_seen, w_seenWho, w_seenHarm, w_books, w_bookWho, w_bookWhen, w_hasImage, w_imageThe, w_imageWindows, w_imageMinutes, w_imageWet, w_imageComes, w_imageSide, w_imageFloor, w_imageRoom, w_imageRounds, w_imageSeen, w_imageBooks, w_imageKind, w_imageV, w_imageFloors, w_imageRooms, w_imageTakes, w_imageRows, w_imageRound, w_imageWho, w_imageHarm, w_imageBookWho, w_imageWhen, w_imageShut, w_ran, w_bodies, .ref a_sort, .ref a_length, .ref a_item, .ref a_aside])), (a_sort, .inl (y 0, 6, .inl f_sort)), (a_length, .inl (y 0, 6, .inl f_length)), (a_item, .inl (y 1, 360, .inr (.inl g60_))), (a_aside, .inl (y 1, 60, .inr (.inl g55_)))] H ∧ va_S A s.heap H locs ∧ lv_has ls 7 [(6, .int x59_), (0, .ref a_this), (1, .int n0), (2, .int n1), (3, .int n2), (4, .int n3), (5, .int n4)] := ⟨(60 - Int32.toInt x59_ + 1).toNat, by (try rw [ex59_]); exact (by decide), by omega, by (try rw [ex59_]); (try rw [eg60_]); exact hW, hS, by (try rw [ex59_]); (try rw [eg60_]); exact hl⟩
                              clear hW hS hl ex59_ eg60_
                              induction n141_ generalizing x59_ g60_ H locs ls with
                              | zero => obtain ⟨bx59_, hn, -⟩ := hI141_; exact absurd hn (by omega)
                              | succ n ih =>
                                obtain ⟨bx59_, hn, hW, hS, hl⟩ := hI141_
                                refine lv_iload hx hb dX10_shift_141 (lv_at hl 0 rfl) ?_
                                refine lv_iload hx hb dX10_shift_143 (lv_at hl 6 rfl) ?_
                                refine lv_icmp_ge (tgt := 176) hx hb dX10_shift_145 (by decide) (fun c61_ => ?_) (fun c61_ => ?_)
                                · have d62_ : Int32.toInt n4 ≤ Int32.toInt x59_ := (zi_le _ _).mp c61_
                                  refine lv_iload hx hb dX10_shift_176 (lv_at hl 6 rfl) ?_
                                  exact zret_i (v := n4) hx hb hr hlocks hS (g60_, g55_) ⟨(zr_wide b57_ (by decide) (by decide)), trivial⟩ hW (Nat.le_of_ble_eq_true rfl) (Nat.le_of_ble_eq_true rfl) dX10_shift_178
                                · have b63_ : 1 ≤ Int32.toInt n4 ∧ Int32.toInt n4 ≤ 60 := zr_nle_l 1 c61_ b57_ bx59_ (by decide)
                                  have b64_ : 0 ≤ Int32.toInt x59_ ∧ Int32.toInt x59_ ≤ 59 := zr_nle_r 59 c61_ bx59_ b63_ (by decide)
                                  have d65_ : Int32.toInt n4 > Int32.toInt x59_ := Int.not_le.mp ((not_congr (zi_le _ _)).mp c61_)
                                  refine lv_aload_n hx hb dX10_shift_148 rfl (lv_at hl 1 rfl) ?_
                                  refine zget hx hb ht inlX10 hown hK hW 0 rfl rfl 74 (by decide) zm_214 rfl dX10_shift_149 ?_
                                  refine lv_bipush (v := 60) hx hb dX10_shift_152 (by decide) ?_
                                  refine lv_iload_n hx hb dX10_shift_154 rfl (lv_at hl 4 rfl) ?_
                                  refine lv_imul hx hb dX10_shift_155 ?_
                                  have q67_ : Int32.toInt (60 * n2) = 60 * Int32.toInt n2 := by have u0 := (show (60 : Int32).toInt = 60 from (by decide)); have u1 := b19_; have u2 := zmul 60 n2 (by rw [u0]; omega) (by rw [u0]; omega); rw [u0] at u2; omega
                                  have b66_ : 0 ≤ Int32.toInt (60 * n2) ∧ Int32.toInt (60 * n2) ≤ 300 := by have u0 := (show (60 : Int32).toInt = 60 from (by decide)); have u1 := b19_; omega
                                  refine lv_iload hx hb dX10_shift_156 (lv_at hl 5 rfl) ?_
                                  refine lv_iadd hx hb dX10_shift_158 ?_
                                  obtain ⟨q69_, b68_⟩ : (Int32.toInt ((60 * n2) + n3) = Int32.toInt (60 * n2) + Int32.toInt n3) ∧ (0 ≤ Int32.toInt ((60 * n2) + n3) ∧ Int32.toInt ((60 * n2) + n3) ≤ 360) := zadd_r (60 * n2) n3 0 360 b66_ b51_ (by decide) (by decide) (by decide) (by decide)
                                  refine lv_iload hx hb dX10_shift_159 (lv_at hl 0 rfl) ?_
                                  refine lv_iadd hx hb dX10_shift_161 ?_
                                  obtain ⟨q71_, b70_⟩ : (Int32.toInt (((60 * n2) + n3) + x59_) = Int32.toInt ((60 * n2) + n3) + Int32.toInt x59_) ∧ (0 ≤ Int32.toInt (((60 * n2) + n3) + x59_) ∧ Int32.toInt (((60 * n2) + n3) + x59_) ≤ 419) := zadd_r ((60 * n2) + n3) x59_ 0 419 b68_ b64_ (by decide) (by decide) (by decide) (by decide)
                                  refine lv_aload_n hx hb dX10_shift_162 rfl (lv_at hl 1 rfl) ?_
                                  refine zget hx hb ht inlX10 hown hK hW 0 rfl rfl 75 (by decide) zm_215 rfl dX10_shift_163 ?_
                                  refine lv_iload hx hb dX10_shift_166 (lv_at hl 0 rfl) ?_
                                  refine zlald (v := (g55_ (Int32.toNatClampNeg x59_))) hx hb hK hW 4 rfl (zr_in b64_ (by decide) (by decide)) rfl dX10_shift_168 ?_
                                  refine zlastN (ws' := fun g72_ => [(a_this, .inr (9, [w_windows, w_minutes, w_wet, w_comes, w_side, w_herFloor, w_herRoom, w_kind, w_v, w_floor, w_room, w_takes, w_rows, w_isShut, w_houses, w_the, w_fed, w_at, w_digits, w_text, w_clauses, w_word, w_number, w_from, w_to, w_sign, w_waits, w_signs, w_waiting, w_open, w_letters, w_pile, w_since, w_rain, w_shutAt, w_ways, w_path, w_rounds, w_round, w_bestPath, w_seen, w_seenWho, w_seenHarm, w_books, w_bookWho, w_bookWhen, w_hasImage, w_imageThe, w_imageWindows, w_imageMinutes, w_imageWet, w_imageComes, w_imageSide, w_imageFloor, w_imageRoom, w_imageRounds, w_imageSeen, w_imageBooks, w_imageKind, w_imageV, w_imageFloors, w_imageRooms, w_imageTakes, w_imageRows, w_imageRound, w_imageWho, w_imageHarm, w_imageBookWho, w_imageWhen, w_imageShut, w_ran, w_bodies, .ref a_sort, .ref a_length, .ref a_item, .ref a_aside])), (a_sort, .inl (y 0, 6, .inl f_sort)), (a_length, .inl (y 0, 6, .inl f_length)), (a_item, .inl (y 1, 360, .inr (.inl g72_))), (a_aside, .inl (y 1, 60, .inr (.inl g55_)))]) hx hb hK hS hW 3 rfl (vp_in_iff.mpr (by omega)) (fun _ => rfl) dX10_shift_169 (fun g72_ H locs eg72_ hW hS => ?_)
                                  refine lv_iinc (k := 0) (v := (x59_ + 1)) (lv' := [(6, .int (x59_ + 1)), (0, .ref a_this), (1, .int n0), (2, .int n1), (3, .int n2), (4, .int n3), (5, .int n4)]) hx hb dX10_shift_170 hl rfl (by rfl) (by decide) rfl (fun ls hl => ?_)
                                  obtain ⟨q74_, b73_⟩ : (Int32.toInt (x59_ + 1) = Int32.toInt x59_ + 1) ∧ (1 ≤ Int32.toInt (x59_ + 1) ∧ Int32.toInt (x59_ + 1) ≤ 60) := zadd_k x59_ 1 1 1 60 b64_ (by decide) (by decide) (by decide) (by decide) (by decide)
                                  refine lv_goto (tgt := 141) hx hb dX10_shift_173 (by decide) ?_
                                  exact ih _ _ _ _ _ ⟨(zr_wide b73_ (by decide) (by decide)), by have u0 := q74_; omega, hW, hS, (lv_sub hl [0, 1, 2, 3, 4, 5, 6] rfl)⟩
                            · have b75_ : 1 ≤ Int32.toInt n4 ∧ Int32.toInt n4 ≤ 2147483647 := zr_nle_l 1 c56_ b32_ bx54_ (by decide)
                              have d76_ : Int32.toInt n4 > Int32.toInt x54_ := Int.not_le.mp ((not_congr (zi_le _ _)).mp c56_)
                              refine lv_aload_n hx hb dX10_shift_111 rfl (lv_at hl 1 rfl) ?_
                              refine zget hx hb ht inlX10 hown hK hW 0 rfl rfl 75 (by decide) zm_215 rfl dX10_shift_112 ?_
                              refine lv_iload hx hb dX10_shift_115 (lv_at hl 0 rfl) ?_
                              refine lv_aload_n hx hb dX10_shift_117 rfl (lv_at hl 1 rfl) ?_
                              refine zget hx hb ht inlX10 hown hK hW 0 rfl rfl 74 (by decide) zm_214 rfl dX10_shift_118 ?_
                              refine lv_bipush (v := 60) hx hb dX10_shift_121 (by decide) ?_
                              refine lv_iload_n hx hb dX10_shift_123 rfl (lv_at hl 2 rfl) ?_
                              refine lv_imul hx hb dX10_shift_124 ?_
                              have q78_ : Int32.toInt (60 * n0) = 60 * Int32.toInt n0 := by have u0 := (show (60 : Int32).toInt = 60 from (by decide)); have u1 := b9_; have u2 := zmul 60 n0 (by rw [u0]; omega) (by rw [u0]; omega); rw [u0] at u2; omega
                              have b77_ : 0 ≤ Int32.toInt (60 * n0) ∧ Int32.toInt (60 * n0) ≤ 300 := by have u0 := (show (60 : Int32).toInt = 60 from (by decide)); have u1 := b9_; omega
                              refine lv_iload_n hx hb dX10_shift_125 rfl (lv_at hl 3 rfl) ?_
                              refine lv_iadd hx hb dX10_shift_126 ?_
                              obtain ⟨q80_, b79_⟩ : (Int32.toInt ((60 * n0) + n1) = Int32.toInt (60 * n0) + Int32.toInt n1) ∧ (0 ≤ Int32.toInt ((60 * n0) + n1) ∧ Int32.toInt ((60 * n0) + n1) ≤ 360) := zadd_r (60 * n0) n1 0 360 b77_ b45_ (by decide) (by decide) (by decide) (by decide)
                              refine lv_iload hx hb dX10_shift_127 (lv_at hl 0 rfl) ?_
                              refine lv_iadd hx hb dX10_shift_129 ?_
                              obtain ⟨q82_, b81_⟩ : (Int32.toInt (((60 * n0) + n1) + x54_) = Int32.toInt ((60 * n0) + n1) + Int32.toInt x54_) ∧ (0 ≤ Int32.toInt (((60 * n0) + n1) + x54_) ∧ Int32.toInt (((60 * n0) + n1) + x54_) ≤ 420) := zadd_r ((60 * n0) + n1) x54_ 0 420 b79_ bx54_ (by decide) (by decide) (by decide) (by decide)
                              refine zlald (v := (f_item (Int32.toNatClampNeg (((60 * n0) + n1) + x54_)))) hx hb hK hW 3 rfl (vp_in_iff.mpr (by omega)) rfl dX10_shift_130 ?_
                              refine zlastN (ws' := fun g83_ => [(a_this, .inr (9, [w_windows, w_minutes, w_wet, w_comes, w_side, w_herFloor, w_herRoom, w_kind, w_v, w_floor, w_room, w_takes, w_rows, w_isShut, w_houses, w_the, w_fed, w_at, w_digits, w_text, w_clauses, w_word, w_number, w_from, w_to, w_sign, w_waits, w_signs, w_waiting, w_open, w_letters, w_pile, w_since, w_rain, w_shutAt, w_ways, w_path, w_rounds, w_round, w_bestPath, w_seen, w_seenWho, w_seenHarm, w_books, w_bookWho, w_bookWhen, w_hasImage, w_imageThe, w_imageWindows, w_imageMinutes, w_imageWet, w_imageComes, w_imageSide, w_imageFloor, w_imageRoom, w_imageRounds, w_imageSeen, w_imageBooks, w_imageKind, w_imageV, w_imageFloors, w_imageRooms, w_imageTakes, w_imageRows, w_imageRound, w_imageWho, w_imageHarm, w_imageBookWho, w_imageWhen, w_imageShut, w_ran, w_bodies, .ref a_sort, .ref a_length, .ref a_item, .ref a_aside])), (a_sort, .inl (y 0, 6, .inl f_sort)), (a_length, .inl (y 0, 6, .inl f_length)), (a_item, .inl (y 1, 360, .inr (.inl f_item))), (a_aside, .inl (y 1, 60, .inr (.inl g83_)))]) hx hb hK hS hW 4 rfl (vp_in_iff.mpr (by omega)) (fun _ => rfl) dX10_shift_131 (fun g83_ H locs eg83_ hW hS => ?_)
                              refine lv_iinc (k := 0) (v := (x54_ + 1)) (lv' := [(6, .int (x54_ + 1)), (0, .ref a_this), (1, .int n0), (2, .int n1), (3, .int n2), (4, .int n3), (5, .int n4)]) hx hb dX10_shift_132 hl rfl (by rfl) (by decide) rfl (fun ls hl => ?_)
                              obtain ⟨q85_, b84_⟩ : (Int32.toInt (x54_ + 1) = Int32.toInt x54_ + 1) ∧ (1 ≤ Int32.toInt (x54_ + 1) ∧ Int32.toInt (x54_ + 1) ≤ 61) := zadd_k x54_ 1 1 1 61 bx54_ (by decide) (by decide) (by decide) (by decide) (by decide)
                              refine lv_goto (tgt := 104) hx hb dX10_shift_135 (by decide) ?_
                              exact ih _ _ _ _ _ ⟨(by omega), by have u0 := q85_; omega, hW, hS, (lv_sub hl [0, 1, 2, 3, 4, 5, 6] rfl)⟩
                        · have d86_ : Int32.toInt n3 > Int32.toInt ((f_length (Int32.toNatClampNeg n2)) - n4) := Int.not_le.mp ((not_congr (zi_le _ _)).mp c50_)
                          refine lv_bipush (v := (-13)) hx hb dX10_shift_98 (by decide) ?_
                          exact zret_i (v := (-13)) hx hb hr hlocks hS (f_item, f_aside) ⟨(by decide), trivial⟩ hW (Nat.le_of_ble_eq_true rfl) (Nat.le_of_ble_eq_true rfl) dX10_shift_100
              · refine lv_bipush (v := (-12)) hx hb dX10_shift_54 (by decide) ?_
                exact zret_i (v := (-12)) hx hb hr hlocks hS (f_item, f_aside) ⟨(by decide), trivial⟩ hW (Nat.le_of_ble_eq_true rfl) (Nat.le_of_ble_eq_true rfl) dX10_shift_56
            · have b88_ : (-1) ≤ Int32.toInt (f_sort (Int32.toNatClampNeg n2)) ∧ Int32.toInt (f_sort (Int32.toNatClampNeg n2)) ≤ (-1) := zr_nle_r (-1) c26_ b25_ (show 0 ≤ Int32.toInt 0 ∧ Int32.toInt 0 ≤ 0 from (by decide)) (by decide)
              refine lv_bipush (v := (-11)) hx hb dX10_shift_36 (by decide) ?_
              exact zret_i (v := (-11)) hx hb hr hlocks hS (f_item, f_aside) ⟨(by decide), trivial⟩ hW (Nat.le_of_ble_eq_true rfl) (Nat.le_of_ble_eq_true rfl) dX10_shift_38

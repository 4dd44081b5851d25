theorem dJ6_bitCount_0f7a4_0 : decode cJ6_bitCount_0f7a4 0 = .ok (.iload_n 0, 1) := by decide +kernel
theorem dJ6_bitCount_0f7a4_1 : decode cJ6_bitCount_0f7a4 1 = .ok (.iload_n 0, 1) := by decide +kernel
theorem dJ6_bitCount_0f7a4_10 : decode cJ6_bitCount_0f7a4 10 = .ok (.iload_n 0, 1) := by decide +kernel
theorem dJ6_bitCount_0f7a4_11 : decode cJ6_bitCount_0f7a4 11 = .ok (.ldc_w 266, 3) := by decide +kernel
theorem dJ6_bitCount_0f7a4_14 : decode cJ6_bitCount_0f7a4 14 = .ok (.iand, 1) := by decide +kernel
theorem dJ6_bitCount_0f7a4_15 : decode cJ6_bitCount_0f7a4 15 = .ok (.iload_n 0, 1) := by decide +kernel
theorem dJ6_bitCount_0f7a4_16 : decode cJ6_bitCount_0f7a4 16 = .ok (.iconst 2, 1) := by decide +kernel
theorem dJ6_bitCount_0f7a4_17 : decode cJ6_bitCount_0f7a4 17 = .ok (.iushr, 1) := by decide +kernel
theorem dJ6_bitCount_0f7a4_18 : decode cJ6_bitCount_0f7a4 18 = .ok (.ldc_w 266, 3) := by decide +kernel
theorem dJ6_bitCount_0f7a4_2 : decode cJ6_bitCount_0f7a4 2 = .ok (.iconst 1, 1) := by decide +kernel
theorem dJ6_bitCount_0f7a4_21 : decode cJ6_bitCount_0f7a4 21 = .ok (.iand, 1) := by decide +kernel
theorem dJ6_bitCount_0f7a4_22 : decode cJ6_bitCount_0f7a4 22 = .ok (.iadd, 1) := by decide +kernel
theorem dJ6_bitCount_0f7a4_23 : decode cJ6_bitCount_0f7a4 23 = .ok (.istore_n 0, 1) := by decide +kernel
theorem dJ6_bitCount_0f7a4_24 : decode cJ6_bitCount_0f7a4 24 = .ok (.iload_n 0, 1) := by decide +kernel
theorem dJ6_bitCount_0f7a4_25 : decode cJ6_bitCount_0f7a4 25 = .ok (.iload_n 0, 1) := by decide +kernel
theorem dJ6_bitCount_0f7a4_26 : decode cJ6_bitCount_0f7a4 26 = .ok (.iconst 4, 1) := by decide +kernel
theorem dJ6_bitCount_0f7a4_27 : decode cJ6_bitCount_0f7a4 27 = .ok (.iushr, 1) := by decide +kernel
theorem dJ6_bitCount_0f7a4_28 : decode cJ6_bitCount_0f7a4 28 = .ok (.iadd, 1) := by decide +kernel
theorem dJ6_bitCount_0f7a4_29 : decode cJ6_bitCount_0f7a4 29 = .ok (.ldc_w 267, 3) := by decide +kernel
theorem dJ6_bitCount_0f7a4_3 : decode cJ6_bitCount_0f7a4 3 = .ok (.iushr, 1) := by decide +kernel
theorem dJ6_bitCount_0f7a4_32 : decode cJ6_bitCount_0f7a4 32 = .ok (.iand, 1) := by decide +kernel
theorem dJ6_bitCount_0f7a4_33 : decode cJ6_bitCount_0f7a4 33 = .ok (.istore_n 0, 1) := by decide +kernel
theorem dJ6_bitCount_0f7a4_34 : decode cJ6_bitCount_0f7a4 34 = .ok (.iload_n 0, 1) := by decide +kernel
theorem dJ6_bitCount_0f7a4_35 : decode cJ6_bitCount_0f7a4 35 = .ok (.iload_n 0, 1) := by decide +kernel
theorem dJ6_bitCount_0f7a4_36 : decode cJ6_bitCount_0f7a4 36 = .ok (.bipush 8, 2) := by decide +kernel
theorem dJ6_bitCount_0f7a4_38 : decode cJ6_bitCount_0f7a4 38 = .ok (.iushr, 1) := by decide +kernel
theorem dJ6_bitCount_0f7a4_39 : decode cJ6_bitCount_0f7a4 39 = .ok (.iadd, 1) := by decide +kernel
theorem dJ6_bitCount_0f7a4_4 : decode cJ6_bitCount_0f7a4 4 = .ok (.ldc_w 265, 3) := by decide +kernel
theorem dJ6_bitCount_0f7a4_40 : decode cJ6_bitCount_0f7a4 40 = .ok (.istore_n 0, 1) := by decide +kernel
theorem dJ6_bitCount_0f7a4_41 : decode cJ6_bitCount_0f7a4 41 = .ok (.iload_n 0, 1) := by decide +kernel
theorem dJ6_bitCount_0f7a4_42 : decode cJ6_bitCount_0f7a4 42 = .ok (.iload_n 0, 1) := by decide +kernel
theorem dJ6_bitCount_0f7a4_43 : decode cJ6_bitCount_0f7a4 43 = .ok (.bipush 16, 2) := by decide +kernel
theorem dJ6_bitCount_0f7a4_45 : decode cJ6_bitCount_0f7a4 45 = .ok (.iushr, 1) := by decide +kernel
theorem dJ6_bitCount_0f7a4_46 : decode cJ6_bitCount_0f7a4 46 = .ok (.iadd, 1) := by decide +kernel
theorem dJ6_bitCount_0f7a4_47 : decode cJ6_bitCount_0f7a4 47 = .ok (.istore_n 0, 1) := by decide +kernel
theorem dJ6_bitCount_0f7a4_48 : decode cJ6_bitCount_0f7a4 48 = .ok (.iload_n 0, 1) := by decide +kernel
theorem dJ6_bitCount_0f7a4_49 : decode cJ6_bitCount_0f7a4 49 = .ok (.bipush 63, 2) := by decide +kernel
theorem dJ6_bitCount_0f7a4_51 : decode cJ6_bitCount_0f7a4 51 = .ok (.iand, 1) := by decide +kernel
theorem dJ6_bitCount_0f7a4_52 : decode cJ6_bitCount_0f7a4 52 = .ok (.ireturn, 1) := by decide +kernel
theorem dJ6_bitCount_0f7a4_7 : decode cJ6_bitCount_0f7a4 7 = .ok (.iand, 1) := by decide +kernel
theorem dJ6_bitCount_0f7a4_8 : decode cJ6_bitCount_0f7a4 8 = .ok (.isub, 1) := by decide +kernel
theorem dJ6_bitCount_0f7a4_9 : decode cJ6_bitCount_0f7a4 9 = .ok (.istore_n 0, 1) := by decide +kernel
theorem dX10_add_0 : decode cX10_add 0 = .ok (.iload_n 1, 1) := by decide +kernel
theorem dX10_add_1 : decode cX10_add 1 = .ok (.iconst (-1), 1) := by decide +kernel
theorem dX10_add_10 : decode cX10_add 10 = .ok (.iconst 0, 1) := by decide +kernel
theorem dX10_add_11 : decode cX10_add 11 = .ok (.ireturn, 1) := by decide +kernel
theorem dX10_add_12 : decode cX10_add 12 = .ok (.aload_n 0, 1) := by decide +kernel
theorem dX10_add_13 : decode cX10_add 13 = .ok (.iload_n 1, 1) := by decide +kernel
theorem dX10_add_14 : decode cX10_add 14 = .ok (.invokevirtual 250, 3) := by decide +kernel
theorem dX10_add_17 : decode cX10_add 17 = .ok (.ifCond .ne 5, 3) := by decide +kernel
theorem dX10_add_2 : decode cX10_add 2 = .ok (.if_icmp .ne 10, 3) := by decide +kernel
theorem dX10_add_20 : decode cX10_add 20 = .ok (.iconst (-1), 1) := by decide +kernel
theorem dX10_add_21 : decode cX10_add 21 = .ok (.ireturn, 1) := by decide +kernel
theorem dX10_add_5 : decode cX10_add 5 = .ok (.aload_n 0, 1) := by decide +kernel
theorem dX10_add_6 : decode cX10_add 6 = .ok (.iconst 0, 1) := by decide +kernel
theorem dX10_add_7 : decode cX10_add 7 = .ok (.putfield 123, 3) := by decide +kernel
theorem dX10_best_0 : decode cX10_best 0 = .ok (.aload_n 0, 1) := by decide +kernel
theorem dX10_best_1 : decode cX10_best 1 = .ok (.iload_n 1, 1) := by decide +kernel
theorem dX10_best_10 : decode cX10_best 10 = .ok (.iconst (-1), 1) := by decide +kernel
theorem dX10_best_11 : decode cX10_best 11 = .ok (.ireturn, 1) := by decide +kernel
theorem dX10_best_111 : decode cX10_best 111 = .ok (.iload 5, 2) := by decide +kernel
theorem dX10_best_113 : decode cX10_best 113 = .ok (.istore_n 3, 1) := by decide +kernel
theorem dX10_best_114 : decode cX10_best 114 = .ok (.iconst 0, 1) := by decide +kernel
theorem dX10_best_115 : decode cX10_best 115 = .ok (.istore 6, 2) := by decide +kernel
theorem dX10_best_117 : decode cX10_best 117 = .ok (.iload 6, 2) := by decide +kernel
theorem dX10_best_119 : decode cX10_best 119 = .ok (.bipush 7, 2) := by decide +kernel
theorem dX10_best_12 : decode cX10_best 12 = .ok (.aload_n 0, 1) := by decide +kernel
theorem dX10_best_121 : decode cX10_best 121 = .ok (.if_icmp .ge 23, 3) := by decide +kernel
theorem dX10_best_124 : decode cX10_best 124 = .ok (.aload_n 0, 1) := by decide +kernel
theorem dX10_best_125 : decode cX10_best 125 = .ok (.getfield 129, 3) := by decide +kernel
theorem dX10_best_128 : decode cX10_best 128 = .ok (.iload 6, 2) := by decide +kernel
theorem dX10_best_13 : decode cX10_best 13 = .ok (.invokevirtual 347, 3) := by decide +kernel
theorem dX10_best_130 : decode cX10_best 130 = .ok (.aload_n 0, 1) := by decide +kernel
theorem dX10_best_131 : decode cX10_best 131 = .ok (.getfield 120, 3) := by decide +kernel
theorem dX10_best_134 : decode cX10_best 134 = .ok (.iload 6, 2) := by decide +kernel
theorem dX10_best_136 : decode cX10_best 136 = .ok (.iaload, 1) := by decide +kernel
theorem dX10_best_137 : decode cX10_best 137 = .ok (.iastore, 1) := by decide +kernel
theorem dX10_best_138 : decode cX10_best 138 = .ok (.iinc 6 1, 3) := by decide +kernel
theorem dX10_best_141 : decode cX10_best 141 = .ok (.goto (-24), 3) := by decide +kernel
theorem dX10_best_144 : decode cX10_best 144 = .ok (.iinc 4 1, 3) := by decide +kernel
theorem dX10_best_147 : decode cX10_best 147 = .ok (.goto (-66), 3) := by decide +kernel
theorem dX10_best_150 : decode cX10_best 150 = .ok (.iload_n 1, 1) := by decide +kernel
theorem dX10_best_151 : decode cX10_best 151 = .ok (.ifCond .ge 7, 3) := by decide +kernel
theorem dX10_best_154 : decode cX10_best 154 = .ok (.iload_n 3, 1) := by decide +kernel
theorem dX10_best_155 : decode cX10_best 155 = .ok (.goto 22, 3) := by decide +kernel
theorem dX10_best_158 : decode cX10_best 158 = .ok (.iload_n 1, 1) := by decide +kernel
theorem dX10_best_159 : decode cX10_best 159 = .ok (.aload_n 0, 1) := by decide +kernel
theorem dX10_best_16 : decode cX10_best 16 = .ok (.istore_n 2, 1) := by decide +kernel
theorem dX10_best_160 : decode cX10_best 160 = .ok (.getfield 117, 3) := by decide +kernel
theorem dX10_best_163 : decode cX10_best 163 = .ok (.if_icmp .ge 12, 3) := by decide +kernel
theorem dX10_best_17 : decode cX10_best 17 = .ok (.aload_n 0, 1) := by decide +kernel
theorem dX10_best_175 : decode cX10_best 175 = .ok (.bipush (-5), 2) := by decide +kernel
theorem dX10_best_177 : decode cX10_best 177 = .ok (.ireturn, 1) := by decide +kernel
theorem dX10_best_18 : decode cX10_best 18 = .ok (.iconst 0, 1) := by decide +kernel
theorem dX10_best_19 : decode cX10_best 19 = .ok (.putfield 117, 3) := by decide +kernel
theorem dX10_best_2 : decode cX10_best 2 = .ok (.iconst (-1), 1) := by decide +kernel
theorem dX10_best_22 : decode cX10_best 22 = .ok (.iconst 0, 1) := by decide +kernel
theorem dX10_best_23 : decode cX10_best 23 = .ok (.istore_n 3, 1) := by decide +kernel
theorem dX10_best_24 : decode cX10_best 24 = .ok (.iload_n 3, 1) := by decide +kernel
theorem dX10_best_25 : decode cX10_best 25 = .ok (.aload_n 0, 1) := by decide +kernel
theorem dX10_best_26 : decode cX10_best 26 = .ok (.getfield 7, 3) := by decide +kernel
theorem dX10_best_29 : decode cX10_best 29 = .ok (.if_icmp .ge 32, 3) := by decide +kernel
theorem dX10_best_3 : decode cX10_best 3 = .ok (.iconst 4, 1) := by decide +kernel
theorem dX10_best_4 : decode cX10_best 4 = .ok (.invokevirtual 242, 3) := by decide +kernel
theorem dX10_best_61 : decode cX10_best 61 = .ok (.aload_n 0, 1) := by decide +kernel
theorem dX10_best_62 : decode cX10_best 62 = .ok (.getfield 117, 3) := by decide +kernel
theorem dX10_best_65 : decode cX10_best 65 = .ok (.iconst 5, 1) := by decide +kernel
theorem dX10_best_66 : decode cX10_best 66 = .ok (.if_icmp .le 6, 3) := by decide +kernel
theorem dX10_best_7 : decode cX10_best 7 = .ok (.ifCond .ne 5, 3) := by decide +kernel
theorem dX10_best_72 : decode cX10_best 72 = .ok (.aload_n 0, 1) := by decide +kernel
theorem dX10_best_73 : decode cX10_best 73 = .ok (.invokevirtual 341, 3) := by decide +kernel
theorem dX10_best_76 : decode cX10_best 76 = .ok (.iconst (-1), 1) := by decide +kernel
theorem dX10_best_77 : decode cX10_best 77 = .ok (.istore_n 3, 1) := by decide +kernel
theorem dX10_best_78 : decode cX10_best 78 = .ok (.iconst 0, 1) := by decide +kernel
theorem dX10_best_79 : decode cX10_best 79 = .ok (.istore 4, 2) := by decide +kernel
theorem dX10_best_81 : decode cX10_best 81 = .ok (.aload_n 0, 1) := by decide +kernel
theorem dX10_best_82 : decode cX10_best 82 = .ok (.iload_n 2, 1) := by decide +kernel
theorem dX10_best_83 : decode cX10_best 83 = .ok (.iload 4, 2) := by decide +kernel
theorem dX10_best_85 : decode cX10_best 85 = .ok (.invokevirtual 378, 3) := by decide +kernel
theorem dX10_best_88 : decode cX10_best 88 = .ok (.ifCond .eq 62, 3) := by decide +kernel
theorem dX10_best_91 : decode cX10_best 91 = .ok (.aload_n 0, 1) := by decide +kernel
theorem dX10_best_92 : decode cX10_best 92 = .ok (.iconst 0, 1) := by decide +kernel
theorem dX10_best_93 : decode cX10_best 93 = .ok (.invokevirtual 369, 3) := by decide +kernel
theorem dX10_best_96 : decode cX10_best 96 = .ok (.istore 5, 2) := by decide +kernel
theorem dX10_best_98 : decode cX10_best 98 = .ok (.iload_n 3, 1) := by decide +kernel
theorem dX10_best_99 : decode cX10_best 99 = .ok (.ifCond .lt 12, 3) := by decide +kernel
theorem dX10_costOfPath_0 : decode cX10_costOfPath 0 = .ok (.aload_n 0, 1) := by decide +kernel
theorem dX10_costOfPath_1 : decode cX10_costOfPath 1 = .ok (.invokevirtual 344, 3) := by decide +kernel
theorem dX10_costOfPath_10 : decode cX10_costOfPath 10 = .ok (.aload_n 0, 1) := by decide +kernel
theorem dX10_costOfPath_11 : decode cX10_costOfPath 11 = .ok (.getfield 13, 3) := by decide +kernel
theorem dX10_costOfPath_14 : decode cX10_costOfPath 14 = .ok (.iload_n 1, 1) := by decide +kernel
theorem dX10_costOfPath_15 : decode cX10_costOfPath 15 = .ok (.iadd, 1) := by decide +kernel
theorem dX10_costOfPath_16 : decode cX10_costOfPath 16 = .ok (.invokevirtual 360, 3) := by decide +kernel
theorem dX10_costOfPath_19 : decode cX10_costOfPath 19 = .ok (.istore_n 2, 1) := by decide +kernel
theorem dX10_costOfPath_20 : decode cX10_costOfPath 20 = .ok (.aload_n 0, 1) := by decide +kernel
theorem dX10_costOfPath_21 : decode cX10_costOfPath 21 = .ok (.invokevirtual 363, 3) := by decide +kernel
theorem dX10_costOfPath_24 : decode cX10_costOfPath 24 = .ok (.ireturn, 1) := by decide +kernel
theorem dX10_costOfPath_4 : decode cX10_costOfPath 4 = .ok (.aload_n 0, 1) := by decide +kernel
theorem dX10_costOfPath_5 : decode cX10_costOfPath 5 = .ok (.iconst 0, 1) := by decide +kernel
theorem dX10_costOfPath_6 : decode cX10_costOfPath 6 = .ok (.aload_n 0, 1) := by decide +kernel
theorem dX10_costOfPath_7 : decode cX10_costOfPath 7 = .ok (.getfield 117, 3) := by decide +kernel
theorem dX10_costOfRound_0 : decode cX10_costOfRound 0 = .ok (.aload_n 0, 1) := by decide +kernel
theorem dX10_costOfRound_1 : decode cX10_costOfRound 1 = .ok (.invokevirtual 341, 3) := by decide +kernel
theorem dX10_costOfRound_10 : decode cX10_costOfRound 10 = .ok (.invokevirtual 369, 3) := by decide +kernel
theorem dX10_costOfRound_13 : decode cX10_costOfRound 13 = .ok (.ireturn, 1) := by decide +kernel
theorem dX10_costOfRound_4 : decode cX10_costOfRound 4 = .ok (.aload_n 0, 1) := by decide +kernel
theorem dX10_costOfRound_5 : decode cX10_costOfRound 5 = .ok (.invokevirtual 366, 3) := by decide +kernel
theorem dX10_costOfRound_8 : decode cX10_costOfRound 8 = .ok (.aload_n 0, 1) := by decide +kernel
theorem dX10_costOfRound_9 : decode cX10_costOfRound 9 = .ok (.iload_n 1, 1) := by decide +kernel
theorem dX10_goes_0 : decode cX10_goes 0 = .ok (.iload_n 3, 1) := by decide +kernel
theorem dX10_goes_1 : decode cX10_goes 1 = .ok (.istore 4, 2) := by decide +kernel
theorem dX10_goes_10 : decode cX10_goes 10 = .ok (.getfield 28, 3) := by decide +kernel
theorem dX10_goes_101 : decode cX10_goes 101 = .ok (.iload 4, 2) := by decide +kernel
theorem dX10_goes_103 : decode cX10_goes 103 = .ok (.ireturn, 1) := by decide +kernel
theorem dX10_goes_13 : decode cX10_goes 13 = .ok (.istore 6, 2) := by decide +kernel
theorem dX10_goes_15 : decode cX10_goes 15 = .ok (.iload_n 1, 1) := by decide +kernel
theorem dX10_goes_16 : decode cX10_goes 16 = .ok (.istore 7, 2) := by decide +kernel
theorem dX10_goes_18 : decode cX10_goes 18 = .ok (.iload 7, 2) := by decide +kernel
theorem dX10_goes_20 : decode cX10_goes 20 = .ok (.iload_n 2, 1) := by decide +kernel
theorem dX10_goes_21 : decode cX10_goes 21 = .ok (.if_icmp .ge 80, 3) := by decide +kernel
theorem dX10_goes_3 : decode cX10_goes 3 = .ok (.aload_n 0, 1) := by decide +kernel
theorem dX10_goes_4 : decode cX10_goes 4 = .ok (.getfield 25, 3) := by decide +kernel
theorem dX10_goes_7 : decode cX10_goes 7 = .ok (.istore 5, 2) := by decide +kernel
theorem dX10_goes_9 : decode cX10_goes 9 = .ok (.aload_n 0, 1) := by decide +kernel
theorem dX10_harmTillEnd_0 : decode cX10_harmTillEnd 0 = .ok (.aload_n 0, 1) := by decide +kernel
theorem dX10_harmTillEnd_1 : decode cX10_harmTillEnd 1 = .ok (.aload_n 0, 1) := by decide +kernel
theorem dX10_harmTillEnd_10 : decode cX10_harmTillEnd 10 = .ok (.invokevirtual 315, 3) := by decide +kernel
theorem dX10_harmTillEnd_13 : decode cX10_harmTillEnd 13 = .ok (.iadd, 1) := by decide +kernel
theorem dX10_harmTillEnd_14 : decode cX10_harmTillEnd 14 = .ok (.invokevirtual 350, 3) := by decide +kernel
theorem dX10_harmTillEnd_17 : decode cX10_harmTillEnd 17 = .ok (.ireturn, 1) := by decide +kernel
theorem dX10_harmTillEnd_2 : decode cX10_harmTillEnd 2 = .ok (.getfield 13, 3) := by decide +kernel
theorem dX10_harmTillEnd_5 : decode cX10_harmTillEnd 5 = .ok (.aload_n 0, 1) := by decide +kernel
theorem dX10_harmTillEnd_6 : decode cX10_harmTillEnd 6 = .ok (.getfield 19, 3) := by decide +kernel
theorem dX10_harmTillEnd_9 : decode cX10_harmTillEnd 9 = .ok (.aload_n 0, 1) := by decide +kernel
theorem dX10_layOrder_0 : decode cX10_layOrder 0 = .ok (.iconst 1, 1) := by decide +kernel
theorem dX10_layOrder_1 : decode cX10_layOrder 1 = .ok (.istore_n 3, 1) := by decide +kernel
theorem dX10_layOrder_11 : decode cX10_layOrder 11 = .ok (.if_icmp .gt 14, 3) := by decide +kernel
theorem dX10_layOrder_144 : decode cX10_layOrder 144 = .ok (.iconst 1, 1) := by decide +kernel
theorem dX10_layOrder_145 : decode cX10_layOrder 145 = .ok (.ireturn, 1) := by decide +kernel
theorem dX10_layOrder_2 : decode cX10_layOrder 2 = .ok (.iconst 2, 1) := by decide +kernel
theorem dX10_layOrder_25 : decode cX10_layOrder 25 = .ok (.iload_n 2, 1) := by decide +kernel
theorem dX10_layOrder_26 : decode cX10_layOrder 26 = .ok (.iload_n 3, 1) := by decide +kernel
theorem dX10_layOrder_27 : decode cX10_layOrder 27 = .ok (.if_icmp .lt 5, 3) := by decide +kernel
theorem dX10_layOrder_3 : decode cX10_layOrder 3 = .ok (.istore 4, 2) := by decide +kernel
theorem dX10_layOrder_30 : decode cX10_layOrder 30 = .ok (.iconst 0, 1) := by decide +kernel
theorem dX10_layOrder_31 : decode cX10_layOrder 31 = .ok (.ireturn, 1) := by decide +kernel
theorem dX10_layOrder_32 : decode cX10_layOrder 32 = .ok (.iload_n 1, 1) := by decide +kernel
theorem dX10_layOrder_33 : decode cX10_layOrder 33 = .ok (.istore 4, 2) := by decide +kernel
theorem dX10_layOrder_35 : decode cX10_layOrder 35 = .ok (.iload_n 2, 1) := by decide +kernel
theorem dX10_layOrder_36 : decode cX10_layOrder 36 = .ok (.istore 5, 2) := by decide +kernel
theorem dX10_layOrder_38 : decode cX10_layOrder 38 = .ok (.iconst 0, 1) := by decide +kernel
theorem dX10_layOrder_39 : decode cX10_layOrder 39 = .ok (.istore 6, 2) := by decide +kernel
theorem dX10_layOrder_41 : decode cX10_layOrder 41 = .ok (.iload 6, 2) := by decide +kernel
theorem dX10_layOrder_43 : decode cX10_layOrder 43 = .ok (.aload_n 0, 1) := by decide +kernel
theorem dX10_layOrder_44 : decode cX10_layOrder 44 = .ok (.getfield 117, 3) := by decide +kernel
theorem dX10_layOrder_47 : decode cX10_layOrder 47 = .ok (.if_icmp .ge 97, 3) := by decide +kernel
theorem dX10_layOrder_5 : decode cX10_layOrder 5 = .ok (.iload 4, 2) := by decide +kernel
theorem dX10_layOrder_7 : decode cX10_layOrder 7 = .ok (.aload_n 0, 1) := by decide +kernel
theorem dX10_layOrder_8 : decode cX10_layOrder 8 = .ok (.getfield 117, 3) := by decide +kernel
theorem dX10_layRound_0 : decode cX10_layRound 0 = .ok (.aload_n 0, 1) := by decide +kernel
theorem dX10_layRound_1 : decode cX10_layRound 1 = .ok (.aload_n 0, 1) := by decide +kernel
theorem dX10_layRound_10 : decode cX10_layRound 10 = .ok (.iload_n 1, 1) := by decide +kernel
theorem dX10_layRound_11 : decode cX10_layRound 11 = .ok (.bipush 7, 2) := by decide +kernel
theorem dX10_layRound_13 : decode cX10_layRound 13 = .ok (.if_icmp .ge 21, 3) := by decide +kernel
theorem dX10_layRound_16 : decode cX10_layRound 16 = .ok (.aload_n 0, 1) := by decide +kernel
theorem dX10_layRound_17 : decode cX10_layRound 17 = .ok (.getfield 120, 3) := by decide +kernel
theorem dX10_layRound_2 : decode cX10_layRound 2 = .ok (.getfield 123, 3) := by decide +kernel
theorem dX10_layRound_20 : decode cX10_layRound 20 = .ok (.iload_n 1, 1) := by decide +kernel
theorem dX10_layRound_21 : decode cX10_layRound 21 = .ok (.aload_n 0, 1) := by decide +kernel
theorem dX10_layRound_22 : decode cX10_layRound 22 = .ok (.getfield 126, 3) := by decide +kernel
theorem dX10_layRound_25 : decode cX10_layRound 25 = .ok (.iload_n 1, 1) := by decide +kernel
theorem dX10_layRound_26 : decode cX10_layRound 26 = .ok (.iaload, 1) := by decide +kernel
theorem dX10_layRound_27 : decode cX10_layRound 27 = .ok (.iastore, 1) := by decide +kernel
theorem dX10_layRound_28 : decode cX10_layRound 28 = .ok (.iinc 1 1, 3) := by decide +kernel
theorem dX10_layRound_31 : decode cX10_layRound 31 = .ok (.goto (-21), 3) := by decide +kernel
theorem dX10_layRound_34 : decode cX10_layRound 34 = .ok (.return_, 1) := by decide +kernel
theorem dX10_layRound_5 : decode cX10_layRound 5 = .ok (.putfield 117, 3) := by decide +kernel
theorem dX10_layRound_8 : decode cX10_layRound 8 = .ok (.iconst 0, 1) := by decide +kernel
theorem dX10_layRound_9 : decode cX10_layRound 9 = .ok (.istore_n 1, 1) := by decide +kernel
theorem dX10_next_0 : decode cX10_next 0 = .ok (.aload_n 0, 1) := by decide +kernel
theorem dX10_next_1 : decode cX10_next 1 = .ok (.invokevirtual 341, 3) := by decide +kernel
theorem dX10_next_10 : decode cX10_next 10 = .ok (.istore_n 3, 1) := by decide +kernel
theorem dX10_next_11 : decode cX10_next 11 = .ok (.iload_n 3, 1) := by decide +kernel
theorem dX10_next_12 : decode cX10_next 12 = .ok (.aload_n 0, 1) := by decide +kernel
theorem dX10_next_13 : decode cX10_next 13 = .ok (.getfield 7, 3) := by decide +kernel
theorem dX10_next_16 : decode cX10_next 16 = .ok (.if_icmp .ge 58, 3) := by decide +kernel
theorem dX10_next_4 : decode cX10_next 4 = .ok (.bipush (-5), 2) := by decide +kernel
theorem dX10_next_6 : decode cX10_next 6 = .ok (.istore_n 1, 1) := by decide +kernel
theorem dX10_next_7 : decode cX10_next 7 = .ok (.iconst 0, 1) := by decide +kernel
theorem dX10_next_74 : decode cX10_next 74 = .ok (.iload_n 1, 1) := by decide +kernel
theorem dX10_next_75 : decode cX10_next 75 = .ok (.ireturn, 1) := by decide +kernel
theorem dX10_next_8 : decode cX10_next 8 = .ok (.istore_n 2, 1) := by decide +kernel
theorem dX10_next_9 : decode cX10_next 9 = .ok (.iconst 0, 1) := by decide +kernel
theorem dX10_on_0 : decode cX10_on 0 = .ok (.aload_n 0, 1) := by decide +kernel
theorem dX10_on_1 : decode cX10_on 1 = .ok (.iload_n 1, 1) := by decide +kernel
theorem dX10_on_11 : decode cX10_on 11 = .ok (.bipush (-2), 2) := by decide +kernel
theorem dX10_on_13 : decode cX10_on 13 = .ok (.ireturn, 1) := by decide +kernel
theorem dX10_on_14 : decode cX10_on 14 = .ok (.aload_n 0, 1) := by decide +kernel
theorem dX10_on_15 : decode cX10_on 15 = .ok (.invokevirtual 341, 3) := by decide +kernel
theorem dX10_on_18 : decode cX10_on 18 = .ok (.aload_n 0, 1) := by decide +kernel
theorem dX10_on_19 : decode cX10_on 19 = .ok (.invokevirtual 344, 3) := by decide +kernel
theorem dX10_on_2 : decode cX10_on 2 = .ok (.iconst 0, 1) := by decide +kernel
theorem dX10_on_22 : decode cX10_on 22 = .ok (.aload_n 0, 1) := by decide +kernel
theorem dX10_on_23 : decode cX10_on 23 = .ok (.aload_n 0, 1) := by decide +kernel
theorem dX10_on_24 : decode cX10_on 24 = .ok (.getfield 13, 3) := by decide +kernel
theorem dX10_on_27 : decode cX10_on 27 = .ok (.aload_n 0, 1) := by decide +kernel
theorem dX10_on_28 : decode cX10_on 28 = .ok (.getfield 13, 3) := by decide +kernel
theorem dX10_on_3 : decode cX10_on 3 = .ok (.bipush 99, 2) := by decide +kernel
theorem dX10_on_31 : decode cX10_on 31 = .ok (.iload_n 1, 1) := by decide +kernel
theorem dX10_on_32 : decode cX10_on 32 = .ok (.iadd, 1) := by decide +kernel
theorem dX10_on_33 : decode cX10_on 33 = .ok (.invokevirtual 350, 3) := by decide +kernel
theorem dX10_on_36 : decode cX10_on 36 = .ok (.ireturn, 1) := by decide +kernel
theorem dX10_on_5 : decode cX10_on 5 = .ok (.invokevirtual 242, 3) := by decide +kernel
theorem dX10_on_8 : decode cX10_on 8 = .ok (.ifCond .ne 6, 3) := by decide +kernel
theorem dX10_round_0 : decode cX10_round 0 = .ok (.aload_n 0, 1) := by decide +kernel
theorem dX10_round_1 : decode cX10_round 1 = .ok (.iload_n 1, 1) := by decide +kernel
theorem dX10_round_10 : decode cX10_round 10 = .ok (.iconst (-1), 1) := by decide +kernel
theorem dX10_round_11 : decode cX10_round 11 = .ok (.ireturn, 1) := by decide +kernel
theorem dX10_round_12 : decode cX10_round 12 = .ok (.iload_n 1, 1) := by decide +kernel
theorem dX10_round_13 : decode cX10_round 13 = .ok (.ifCond .ne 9, 3) := by decide +kernel
theorem dX10_round_16 : decode cX10_round 16 = .ok (.aload_n 0, 1) := by decide +kernel
theorem dX10_round_17 : decode cX10_round 17 = .ok (.iconst 0, 1) := by decide +kernel
theorem dX10_round_18 : decode cX10_round 18 = .ok (.invokevirtual 372, 3) := by decide +kernel
theorem dX10_round_2 : decode cX10_round 2 = .ok (.iconst 0, 1) := by decide +kernel
theorem dX10_round_21 : decode cX10_round 21 = .ok (.ireturn, 1) := by decide +kernel
theorem dX10_round_22 : decode cX10_round 22 = .ok (.aload_n 0, 1) := by decide +kernel
theorem dX10_round_23 : decode cX10_round 23 = .ok (.invokevirtual 366, 3) := by decide +kernel
theorem dX10_round_26 : decode cX10_round 26 = .ok (.aload_n 0, 1) := by decide +kernel
theorem dX10_round_27 : decode cX10_round 27 = .ok (.invokevirtual 344, 3) := by decide +kernel
theorem dX10_round_3 : decode cX10_round 3 = .ok (.iconst 2, 1) := by decide +kernel
theorem dX10_round_30 : decode cX10_round 30 = .ok (.aload_n 0, 1) := by decide +kernel
theorem dX10_round_31 : decode cX10_round 31 = .ok (.iconst 0, 1) := by decide +kernel
theorem dX10_round_32 : decode cX10_round 32 = .ok (.aload_n 0, 1) := by decide +kernel
theorem dX10_round_33 : decode cX10_round 33 = .ok (.getfield 117, 3) := by decide +kernel
theorem dX10_round_36 : decode cX10_round 36 = .ok (.aload_n 0, 1) := by decide +kernel
theorem dX10_round_37 : decode cX10_round 37 = .ok (.getfield 13, 3) := by decide +kernel
theorem dX10_round_4 : decode cX10_round 4 = .ok (.invokevirtual 242, 3) := by decide +kernel
theorem dX10_round_40 : decode cX10_round 40 = .ok (.invokevirtual 360, 3) := by decide +kernel
theorem dX10_round_43 : decode cX10_round 43 = .ok (.istore_n 2, 1) := by decide +kernel
theorem dX10_round_44 : decode cX10_round 44 = .ok (.iload_n 1, 1) := by decide +kernel
theorem dX10_round_45 : decode cX10_round 45 = .ok (.iconst 1, 1) := by decide +kernel
theorem dX10_round_46 : decode cX10_round 46 = .ok (.if_icmp .ne 5, 3) := by decide +kernel
theorem dX10_round_49 : decode cX10_round 49 = .ok (.iload_n 2, 1) := by decide +kernel
theorem dX10_round_50 : decode cX10_round 50 = .ok (.ireturn, 1) := by decide +kernel
theorem dX10_round_51 : decode cX10_round 51 = .ok (.iconst 0, 1) := by decide +kernel
theorem dX10_round_52 : decode cX10_round 52 = .ok (.istore_n 3, 1) := by decide +kernel
theorem dX10_round_53 : decode cX10_round 53 = .ok (.iconst 0, 1) := by decide +kernel
theorem dX10_round_54 : decode cX10_round 54 = .ok (.istore 4, 2) := by decide +kernel
theorem dX10_round_56 : decode cX10_round 56 = .ok (.iload 4, 2) := by decide +kernel
theorem dX10_round_58 : decode cX10_round 58 = .ok (.aload_n 0, 1) := by decide +kernel
theorem dX10_round_59 : decode cX10_round 59 = .ok (.getfield 123, 3) := by decide +kernel
theorem dX10_round_62 : decode cX10_round 62 = .ok (.if_icmp .ge 36, 3) := by decide +kernel
theorem dX10_round_7 : decode cX10_round 7 = .ok (.ifCond .ne 5, 3) := by decide +kernel
theorem dX10_round_98 : decode cX10_round 98 = .ok (.iload_n 3, 1) := by decide +kernel
theorem dX10_round_99 : decode cX10_round 99 = .ok (.ireturn, 1) := by decide +kernel
theorem dX1_costOfTried_0 : decode cX1_costOfTried 0 = .ok (.aload_n 0, 1) := by decide +kernel
theorem dX1_costOfTried_1 : decode cX1_costOfTried 1 = .ok (.invokevirtual 55, 3) := by decide +kernel
theorem dX1_costOfTried_10 : decode cX1_costOfTried 10 = .ok (.aload_n 0, 1) := by decide +kernel
theorem dX1_costOfTried_11 : decode cX1_costOfTried 11 = .ok (.getfield 27, 3) := by decide +kernel
theorem dX1_costOfTried_14 : decode cX1_costOfTried 14 = .ok (.getfield 138, 3) := by decide +kernel
theorem dX1_costOfTried_17 : decode cX1_costOfTried 17 = .ok (.aload_n 0, 1) := by decide +kernel
theorem dX1_costOfTried_18 : decode cX1_costOfTried 18 = .ok (.getfield 44, 3) := by decide +kernel
theorem dX1_costOfTried_21 : decode cX1_costOfTried 21 = .ok (.getfield 126, 3) := by decide +kernel
theorem dX1_costOfTried_24 : decode cX1_costOfTried 24 = .ok (.invokevirtual 155, 3) := by decide +kernel
theorem dX1_costOfTried_27 : decode cX1_costOfTried 27 = .ok (.pop, 1) := by decide +kernel
theorem dX1_costOfTried_28 : decode cX1_costOfTried 28 = .ok (.aload_n 0, 1) := by decide +kernel
theorem dX1_costOfTried_29 : decode cX1_costOfTried 29 = .ok (.invokevirtual 162, 3) := by decide +kernel
theorem dX1_costOfTried_32 : decode cX1_costOfTried 32 = .ok (.ireturn, 1) := by decide +kernel
theorem dX1_costOfTried_4 : decode cX1_costOfTried 4 = .ok (.aload_n 0, 1) := by decide +kernel
theorem dX1_costOfTried_5 : decode cX1_costOfTried 5 = .ok (.aload_n 0, 1) := by decide +kernel
theorem dX1_costOfTried_6 : decode cX1_costOfTried 6 = .ok (.getfield 27, 3) := by decide +kernel
theorem dX1_costOfTried_9 : decode cX1_costOfTried 9 = .ok (.iconst 0, 1) := by decide +kernel
theorem dX1_cost_0 : decode cX1_cost 0 = .ok (.aload_n 0, 1) := by decide +kernel
theorem dX1_cost_1 : decode cX1_cost 1 = .ok (.aload_n 0, 1) := by decide +kernel
theorem dX1_cost_12 : decode cX1_cost 12 = .ok (.invokevirtual 129, 3) := by decide +kernel
theorem dX1_cost_15 : decode cX1_cost 15 = .ok (.ireturn, 1) := by decide +kernel
theorem dX1_cost_2 : decode cX1_cost 2 = .ok (.getfield 44, 3) := by decide +kernel
theorem dX1_cost_5 : decode cX1_cost 5 = .ok (.getfield 126, 3) := by decide +kernel
theorem dX1_cost_8 : decode cX1_cost 8 = .ok (.aload_n 0, 1) := by decide +kernel
theorem dX1_cost_9 : decode cX1_cost 9 = .ok (.invokevirtual 103, 3) := by decide +kernel
theorem dX1_goAlong_0 : decode cX1_goAlong 0 = .ok (.iload 4, 2) := by decide +kernel
theorem dX1_goAlong_11 : decode cX1_goAlong 11 = .ok (.istore 6, 2) := by decide +kernel
theorem dX1_goAlong_126 : decode cX1_goAlong 126 = .ok (.iload 5, 2) := by decide +kernel
theorem dX1_goAlong_128 : decode cX1_goAlong 128 = .ok (.ireturn, 1) := by decide +kernel
theorem dX1_goAlong_13 : decode cX1_goAlong 13 = .ok (.aload_n 0, 1) := by decide +kernel
theorem dX1_goAlong_14 : decode cX1_goAlong 14 = .ok (.getfield 44, 3) := by decide +kernel
theorem dX1_goAlong_17 : decode cX1_goAlong 17 = .ok (.getfield 135, 3) := by decide +kernel
theorem dX1_goAlong_2 : decode cX1_goAlong 2 = .ok (.istore 5, 2) := by decide +kernel
theorem dX1_goAlong_20 : decode cX1_goAlong 20 = .ok (.istore 7, 2) := by decide +kernel
theorem dX1_goAlong_22 : decode cX1_goAlong 22 = .ok (.iload_n 2, 1) := by decide +kernel
theorem dX1_goAlong_23 : decode cX1_goAlong 23 = .ok (.istore 8, 2) := by decide +kernel
theorem dX1_goAlong_25 : decode cX1_goAlong 25 = .ok (.iload 8, 2) := by decide +kernel
theorem dX1_goAlong_27 : decode cX1_goAlong 27 = .ok (.iload_n 3, 1) := by decide +kernel
theorem dX1_goAlong_28 : decode cX1_goAlong 28 = .ok (.if_icmp .ge 98, 3) := by decide +kernel
theorem dX1_goAlong_4 : decode cX1_goAlong 4 = .ok (.aload_n 0, 1) := by decide +kernel
theorem dX1_goAlong_5 : decode cX1_goAlong 5 = .ok (.getfield 44, 3) := by decide +kernel
theorem dX1_goAlong_8 : decode cX1_goAlong 8 = .ok (.getfield 132, 3) := by decide +kernel
theorem dX1_goRound_0 : decode cX1_goRound 0 = .ok (.aload_n 0, 1) := by decide +kernel
theorem dX1_goRound_1 : decode cX1_goRound 1 = .ok (.aload_n 0, 1) := by decide +kernel
theorem dX1_goRound_10 : decode cX1_goRound 10 = .ok (.getfield 44, 3) := by decide +kernel
theorem dX1_goRound_13 : decode cX1_goRound 13 = .ok (.getfield 152, 3) := by decide +kernel
theorem dX1_goRound_16 : decode cX1_goRound 16 = .ok (.getfield 138, 3) := by decide +kernel
theorem dX1_goRound_19 : decode cX1_goRound 19 = .ok (.aload_n 0, 1) := by decide +kernel
theorem dX1_goRound_2 : decode cX1_goRound 2 = .ok (.getfield 44, 3) := by decide +kernel
theorem dX1_goRound_20 : decode cX1_goRound 20 = .ok (.getfield 44, 3) := by decide +kernel
theorem dX1_goRound_23 : decode cX1_goRound 23 = .ok (.getfield 126, 3) := by decide +kernel
theorem dX1_goRound_26 : decode cX1_goRound 26 = .ok (.iload_n 1, 1) := by decide +kernel
theorem dX1_goRound_27 : decode cX1_goRound 27 = .ok (.iadd, 1) := by decide +kernel
theorem dX1_goRound_28 : decode cX1_goRound 28 = .ok (.invokevirtual 155, 3) := by decide +kernel
theorem dX1_goRound_31 : decode cX1_goRound 31 = .ok (.ireturn, 1) := by decide +kernel
theorem dX1_goRound_5 : decode cX1_goRound 5 = .ok (.getfield 152, 3) := by decide +kernel
theorem dX1_goRound_8 : decode cX1_goRound 8 = .ok (.iconst 0, 1) := by decide +kernel
theorem dX1_goRound_9 : decode cX1_goRound 9 = .ok (.aload_n 0, 1) := by decide +kernel
theorem dX1_seekBest_0 : decode cX1_seekBest 0 = .ok (.aload_n 0, 1) := by decide +kernel
theorem dX1_seekBest_1 : decode cX1_seekBest 1 = .ok (.getfield 27, 3) := by decide +kernel
theorem dX1_seekBest_10 : decode cX1_seekBest 10 = .ok (.iload_n 1, 1) := by decide +kernel
theorem dX1_seekBest_100 : decode cX1_seekBest 100 = .ok (.ifCond .ne 4, 3) := by decide +kernel
theorem dX1_seekBest_103 : decode cX1_seekBest 103 = .ok (.return_, 1) := by decide +kernel
theorem dX1_seekBest_11 : decode cX1_seekBest 11 = .ok (.aload_n 0, 1) := by decide +kernel
theorem dX1_seekBest_12 : decode cX1_seekBest 12 = .ok (.getfield 44, 3) := by decide +kernel
theorem dX1_seekBest_15 : decode cX1_seekBest 15 = .ok (.getfield 58, 3) := by decide +kernel
theorem dX1_seekBest_18 : decode cX1_seekBest 18 = .ok (.if_icmp .ge 34, 3) := by decide +kernel
theorem dX1_seekBest_4 : decode cX1_seekBest 4 = .ok (.invokevirtual 165, 3) := by decide +kernel
theorem dX1_seekBest_52 : decode cX1_seekBest 52 = .ok (.iconst 0, 1) := by decide +kernel
theorem dX1_seekBest_53 : decode cX1_seekBest 53 = .ok (.istore_n 1, 1) := by decide +kernel
theorem dX1_seekBest_54 : decode cX1_seekBest 54 = .ok (.iload_n 1, 1) := by decide +kernel
theorem dX1_seekBest_55 : decode cX1_seekBest 55 = .ok (.bipush 120, 2) := by decide +kernel
theorem dX1_seekBest_57 : decode cX1_seekBest 57 = .ok (.if_icmp .ge 53, 3) := by decide +kernel
theorem dX1_seekBest_60 : decode cX1_seekBest 60 = .ok (.aload_n 0, 1) := by decide +kernel
theorem dX1_seekBest_61 : decode cX1_seekBest 61 = .ok (.invokevirtual 171, 3) := by decide +kernel
theorem dX1_seekBest_64 : decode cX1_seekBest 64 = .ok (.istore_n 2, 1) := by decide +kernel
theorem dX1_seekBest_65 : decode cX1_seekBest 65 = .ok (.iload_n 1, 1) := by decide +kernel
theorem dX1_seekBest_66 : decode cX1_seekBest 66 = .ok (.ifCond .eq 11, 3) := by decide +kernel
theorem dX1_seekBest_7 : decode cX1_seekBest 7 = .ok (.pop, 1) := by decide +kernel
theorem dX1_seekBest_77 : decode cX1_seekBest 77 = .ok (.aload_n 0, 1) := by decide +kernel
theorem dX1_seekBest_78 : decode cX1_seekBest 78 = .ok (.iload_n 2, 1) := by decide +kernel
theorem dX1_seekBest_79 : decode cX1_seekBest 79 = .ok (.putfield 34, 3) := by decide +kernel
theorem dX1_seekBest_8 : decode cX1_seekBest 8 = .ok (.iconst 0, 1) := by decide +kernel
theorem dX1_seekBest_82 : decode cX1_seekBest 82 = .ok (.aload_n 0, 1) := by decide +kernel
theorem dX1_seekBest_83 : decode cX1_seekBest 83 = .ok (.getfield 31, 3) := by decide +kernel
theorem dX1_seekBest_86 : decode cX1_seekBest 86 = .ok (.aload_n 0, 1) := by decide +kernel
theorem dX1_seekBest_87 : decode cX1_seekBest 87 = .ok (.getfield 27, 3) := by decide +kernel
theorem dX1_seekBest_9 : decode cX1_seekBest 9 = .ok (.istore_n 1, 1) := by decide +kernel
theorem dX1_seekBest_90 : decode cX1_seekBest 90 = .ok (.invokevirtual 174, 3) := by decide +kernel
theorem dX1_seekBest_93 : decode cX1_seekBest 93 = .ok (.aload_n 0, 1) := by decide +kernel
theorem dX1_seekBest_94 : decode cX1_seekBest 94 = .ok (.getfield 27, 3) := by decide +kernel
theorem dX1_seekBest_97 : decode cX1_seekBest 97 = .ok (.invokevirtual 178, 3) := by decide +kernel
theorem dX1_shutInTime_0 : decode cX1_shutInTime 0 = .ok (.iconst 0, 1) := by decide +kernel
theorem dX1_shutInTime_1 : decode cX1_shutInTime 1 = .ok (.istore_n 1, 1) := by decide +kernel
theorem dX1_shutInTime_12 : decode cX1_shutInTime 12 = .ok (.getfield 138, 3) := by decide +kernel
theorem dX1_shutInTime_15 : decode cX1_shutInTime 15 = .ok (.if_icmp .ge 36, 3) := by decide +kernel
theorem dX1_shutInTime_2 : decode cX1_shutInTime 2 = .ok (.iconst 0, 1) := by decide +kernel
theorem dX1_shutInTime_3 : decode cX1_shutInTime 3 = .ok (.istore_n 2, 1) := by decide +kernel
theorem dX1_shutInTime_4 : decode cX1_shutInTime 4 = .ok (.iload_n 2, 1) := by decide +kernel
theorem dX1_shutInTime_5 : decode cX1_shutInTime 5 = .ok (.aload_n 0, 1) := by decide +kernel
theorem dX1_shutInTime_51 : decode cX1_shutInTime 51 = .ok (.iload_n 1, 1) := by decide +kernel
theorem dX1_shutInTime_52 : decode cX1_shutInTime 52 = .ok (.ireturn, 1) := by decide +kernel
theorem dX1_shutInTime_6 : decode cX1_shutInTime 6 = .ok (.getfield 44, 3) := by decide +kernel
theorem dX1_shutInTime_9 : decode cX1_shutInTime 9 = .ok (.getfield 152, 3) := by decide +kernel
theorem dX1_stormEnd_0 : decode cX1_stormEnd 0 = .ok (.aload_n 0, 1) := by decide +kernel
theorem dX1_stormEnd_1 : decode cX1_stormEnd 1 = .ok (.getfield 15, 3) := by decide +kernel
theorem dX1_stormEnd_11 : decode cX1_stormEnd 11 = .ok (.getfield 76, 3) := by decide +kernel
theorem dX1_stormEnd_14 : decode cX1_stormEnd 14 = .ok (.iadd, 1) := by decide +kernel
theorem dX1_stormEnd_15 : decode cX1_stormEnd 15 = .ok (.ireturn, 1) := by decide +kernel
theorem dX1_stormEnd_4 : decode cX1_stormEnd 4 = .ok (.aload_n 0, 1) := by decide +kernel
theorem dX1_stormEnd_5 : decode cX1_stormEnd 5 = .ok (.getfield 44, 3) := by decide +kernel
theorem dX1_stormEnd_8 : decode cX1_stormEnd 8 = .ok (.getfield 72, 3) := by decide +kernel
theorem dX6_becomeAs_0 : decode cX6_becomeAs 0 = .ok (.aload_n 0, 1) := by decide +kernel
theorem dX6_becomeAs_1 : decode cX6_becomeAs 1 = .ok (.invokevirtual 30, 3) := by decide +kernel
theorem dX6_becomeAs_12 : decode cX6_becomeAs 12 = .ok (.if_icmp .ge 26, 3) := by decide +kernel
theorem dX6_becomeAs_38 : decode cX6_becomeAs 38 = .ok (.return_, 1) := by decide +kernel
theorem dX6_becomeAs_4 : decode cX6_becomeAs 4 = .ok (.pop, 1) := by decide +kernel
theorem dX6_becomeAs_5 : decode cX6_becomeAs 5 = .ok (.iconst 0, 1) := by decide +kernel
theorem dX6_becomeAs_6 : decode cX6_becomeAs 6 = .ok (.istore_n 2, 1) := by decide +kernel
theorem dX6_becomeAs_7 : decode cX6_becomeAs 7 = .ok (.iload_n 2, 1) := by decide +kernel
theorem dX6_becomeAs_8 : decode cX6_becomeAs 8 = .ok (.aload_n 1, 1) := by decide +kernel
theorem dX6_becomeAs_9 : decode cX6_becomeAs 9 = .ok (.getfield 7, 3) := by decide +kernel
theorem dX6_clear_0 : decode cX6_clear 0 = .ok (.aload_n 0, 1) := by decide +kernel
theorem dX6_clear_1 : decode cX6_clear 1 = .ok (.iconst 0, 1) := by decide +kernel
theorem dX6_clear_2 : decode cX6_clear 2 = .ok (.putfield 7, 3) := by decide +kernel
theorem dX6_clear_5 : decode cX6_clear 5 = .ok (.iconst 0, 1) := by decide +kernel
theorem dX6_clear_6 : decode cX6_clear 6 = .ok (.ireturn, 1) := by decide +kernel
theorem dX6_permute_0 : decode cX6_permute 0 = .ok (.aload_n 0, 1) := by decide +kernel
theorem dX6_permute_1 : decode cX6_permute 1 = .ok (.getfield 7, 3) := by decide +kernel
theorem dX6_permute_34 : decode cX6_permute 34 = .ok (.iload_n 1, 1) := by decide +kernel
theorem dX6_permute_35 : decode cX6_permute 35 = .ok (.ifCond .ge 5, 3) := by decide +kernel
theorem dX6_permute_38 : decode cX6_permute 38 = .ok (.iconst 0, 1) := by decide +kernel
theorem dX6_permute_39 : decode cX6_permute 39 = .ok (.ireturn, 1) := by decide +kernel
theorem dX6_permute_4 : decode cX6_permute 4 = .ok (.iconst 2, 1) := by decide +kernel
theorem dX6_permute_5 : decode cX6_permute 5 = .ok (.isub, 1) := by decide +kernel
theorem dX6_permute_6 : decode cX6_permute 6 = .ok (.istore_n 1, 1) := by decide +kernel
theorem dX6_permute_7 : decode cX6_permute 7 = .ok (.iload_n 1, 1) := by decide +kernel
theorem dX6_permute_8 : decode cX6_permute 8 = .ok (.ifCond .lt 26, 3) := by decide +kernel
theorem dX9_add_0 : decode cX9_add 0 = .ok (.iload_n 1, 1) := by decide +kernel
theorem dX9_add_1 : decode cX9_add 1 = .ok (.iconst (-1), 1) := by decide +kernel
theorem dX9_add_12 : decode cX9_add 12 = .ok (.invokevirtual 183, 3) := by decide +kernel
theorem dX9_add_15 : decode cX9_add 15 = .ok (.ireturn, 1) := by decide +kernel
theorem dX9_add_16 : decode cX9_add 16 = .ok (.aload_n 0, 1) := by decide +kernel
theorem dX9_add_17 : decode cX9_add 17 = .ok (.getfield 31, 3) := by decide +kernel
theorem dX9_add_2 : decode cX9_add 2 = .ok (.if_icmp .ne 14, 3) := by decide +kernel
theorem dX9_add_20 : decode cX9_add 20 = .ok (.iload_n 1, 1) := by decide +kernel
theorem dX9_add_21 : decode cX9_add 21 = .ok (.invokevirtual 92, 3) := by decide +kernel
theorem dX9_add_24 : decode cX9_add 24 = .ok (.ifCond .ne 5, 3) := by decide +kernel
theorem dX9_add_27 : decode cX9_add 27 = .ok (.iconst (-1), 1) := by decide +kernel
theorem dX9_add_28 : decode cX9_add 28 = .ok (.ireturn, 1) := by decide +kernel
theorem dX9_add_5 : decode cX9_add 5 = .ok (.aload_n 0, 1) := by decide +kernel
theorem dX9_add_6 : decode cX9_add 6 = .ok (.getfield 31, 3) := by decide +kernel
theorem dX9_add_9 : decode cX9_add 9 = .ok (.getfield 179, 3) := by decide +kernel
theorem dX9_best_0 : decode cX9_best 0 = .ok (.iload_n 1, 1) := by decide +kernel
theorem dX9_best_1 : decode cX9_best 1 = .ok (.iconst (-1), 1) := by decide +kernel
theorem dX9_best_10 : decode cX9_best 10 = .ok (.ireturn, 1) := by decide +kernel
theorem dX9_best_11 : decode cX9_best 11 = .ok (.aload_n 0, 1) := by decide +kernel
theorem dX9_best_12 : decode cX9_best 12 = .ok (.getfield 31, 3) := by decide +kernel
theorem dX9_best_15 : decode cX9_best 15 = .ok (.invokevirtual 165, 3) := by decide +kernel
theorem dX9_best_18 : decode cX9_best 18 = .ok (.invokestatic 208, 3) := by decide +kernel
theorem dX9_best_2 : decode cX9_best 2 = .ok (.iconst 4, 1) := by decide +kernel
theorem dX9_best_21 : decode cX9_best 21 = .ok (.istore_n 2, 1) := by decide +kernel
theorem dX9_best_22 : decode cX9_best 22 = .ok (.iload_n 2, 1) := by decide +kernel
theorem dX9_best_23 : decode cX9_best 23 = .ok (.iconst 5, 1) := by decide +kernel
theorem dX9_best_24 : decode cX9_best 24 = .ok (.if_icmp .le 6, 3) := by decide +kernel
theorem dX9_best_3 : decode cX9_best 3 = .ok (.invokestatic 68, 3) := by decide +kernel
theorem dX9_best_30 : decode cX9_best 30 = .ok (.iload_n 1, 1) := by decide +kernel
theorem dX9_best_31 : decode cX9_best 31 = .ok (.iload_n 2, 1) := by decide +kernel
theorem dX9_best_32 : decode cX9_best 32 = .ok (.if_icmp .lt 6, 3) := by decide +kernel
theorem dX9_best_35 : decode cX9_best 35 = .ok (.bipush (-5), 2) := by decide +kernel
theorem dX9_best_37 : decode cX9_best 37 = .ok (.ireturn, 1) := by decide +kernel
theorem dX9_best_38 : decode cX9_best 38 = .ok (.aload_n 0, 1) := by decide +kernel
theorem dX9_best_39 : decode cX9_best 39 = .ok (.getfield 47, 3) := by decide +kernel
theorem dX9_best_42 : decode cX9_best 42 = .ok (.invokevirtual 127, 3) := by decide +kernel
theorem dX9_best_45 : decode cX9_best 45 = .ok (.aload_n 0, 1) := by decide +kernel
theorem dX9_best_46 : decode cX9_best 46 = .ok (.getfield 47, 3) := by decide +kernel
theorem dX9_best_49 : decode cX9_best 49 = .ok (.invokevirtual 213, 3) := by decide +kernel
theorem dX9_best_52 : decode cX9_best 52 = .ok (.iload_n 1, 1) := by decide +kernel
theorem dX9_best_53 : decode cX9_best 53 = .ok (.iconst (-1), 1) := by decide +kernel
theorem dX9_best_54 : decode cX9_best 54 = .ok (.if_icmp .ne 13, 3) := by decide +kernel
theorem dX9_best_57 : decode cX9_best 57 = .ok (.aload_n 0, 1) := by decide +kernel
theorem dX9_best_58 : decode cX9_best 58 = .ok (.getfield 47, 3) := by decide +kernel
theorem dX9_best_6 : decode cX9_best 6 = .ok (.ifCond .ne 5, 3) := by decide +kernel
theorem dX9_best_61 : decode cX9_best 61 = .ok (.getfield 216, 3) := by decide +kernel
theorem dX9_best_64 : decode cX9_best 64 = .ok (.goto 15, 3) := by decide +kernel
theorem dX9_best_79 : decode cX9_best 79 = .ok (.ireturn, 1) := by decide +kernel
theorem dX9_best_9 : decode cX9_best 9 = .ok (.iconst (-1), 1) := by decide +kernel
theorem dX9_next_0 : decode cX9_next 0 = .ok (.aload_n 0, 1) := by decide +kernel
theorem dX9_next_1 : decode cX9_next 1 = .ok (.getfield 47, 3) := by decide +kernel
theorem dX9_next_10 : decode cX9_next 10 = .ok (.iconst 0, 1) := by decide +kernel
theorem dX9_next_11 : decode cX9_next 11 = .ok (.istore_n 2, 1) := by decide +kernel
theorem dX9_next_12 : decode cX9_next 12 = .ok (.iconst 0, 1) := by decide +kernel
theorem dX9_next_13 : decode cX9_next 13 = .ok (.istore_n 3, 1) := by decide +kernel
theorem dX9_next_14 : decode cX9_next 14 = .ok (.iload_n 3, 1) := by decide +kernel
theorem dX9_next_15 : decode cX9_next 15 = .ok (.aload_n 0, 1) := by decide +kernel
theorem dX9_next_16 : decode cX9_next 16 = .ok (.getfield 31, 3) := by decide +kernel
theorem dX9_next_19 : decode cX9_next 19 = .ok (.getfield 76, 3) := by decide +kernel
theorem dX9_next_22 : decode cX9_next 22 = .ok (.if_icmp .ge 54, 3) := by decide +kernel
theorem dX9_next_4 : decode cX9_next 4 = .ok (.invokevirtual 127, 3) := by decide +kernel
theorem dX9_next_7 : decode cX9_next 7 = .ok (.bipush (-5), 2) := by decide +kernel
theorem dX9_next_76 : decode cX9_next 76 = .ok (.iload_n 1, 1) := by decide +kernel
theorem dX9_next_77 : decode cX9_next 77 = .ok (.ireturn, 1) := by decide +kernel
theorem dX9_next_9 : decode cX9_next 9 = .ok (.istore_n 1, 1) := by decide +kernel
theorem dX9_on_0 : decode cX9_on 0 = .ok (.iload_n 1, 1) := by decide +kernel
theorem dX9_on_1 : decode cX9_on 1 = .ok (.iconst 0, 1) := by decide +kernel
theorem dX9_on_10 : decode cX9_on 10 = .ok (.bipush (-2), 2) := by decide +kernel
theorem dX9_on_12 : decode cX9_on 12 = .ok (.ireturn, 1) := by decide +kernel
theorem dX9_on_13 : decode cX9_on 13 = .ok (.aload_n 0, 1) := by decide +kernel
theorem dX9_on_14 : decode cX9_on 14 = .ok (.getfield 47, 3) := by decide +kernel
theorem dX9_on_17 : decode cX9_on 17 = .ok (.invokevirtual 127, 3) := by decide +kernel
theorem dX9_on_2 : decode cX9_on 2 = .ok (.bipush 99, 2) := by decide +kernel
theorem dX9_on_20 : decode cX9_on 20 = .ok (.aload_n 0, 1) := by decide +kernel
theorem dX9_on_21 : decode cX9_on 21 = .ok (.iload_n 1, 1) := by decide +kernel
theorem dX9_on_22 : decode cX9_on 22 = .ok (.invokevirtual 176, 3) := by decide +kernel
theorem dX9_on_25 : decode cX9_on 25 = .ok (.ireturn, 1) := by decide +kernel
theorem dX9_on_4 : decode cX9_on 4 = .ok (.invokestatic 68, 3) := by decide +kernel
theorem dX9_on_7 : decode cX9_on 7 = .ok (.ifCond .ne 6, 3) := by decide +kernel
theorem dX9_round_0 : decode cX9_round 0 = .ok (.iload_n 1, 1) := by decide +kernel
theorem dX9_round_1 : decode cX9_round 1 = .ok (.iconst 0, 1) := by decide +kernel
theorem dX9_round_10 : decode cX9_round 10 = .ok (.ireturn, 1) := by decide +kernel
theorem dX9_round_11 : decode cX9_round 11 = .ok (.aload_n 0, 1) := by decide +kernel
theorem dX9_round_12 : decode cX9_round 12 = .ok (.getfield 47, 3) := by decide +kernel
theorem dX9_round_15 : decode cX9_round 15 = .ok (.invokevirtual 127, 3) := by decide +kernel
theorem dX9_round_18 : decode cX9_round 18 = .ok (.aload_n 0, 1) := by decide +kernel
theorem dX9_round_19 : decode cX9_round 19 = .ok (.getfield 47, 3) := by decide +kernel
theorem dX9_round_2 : decode cX9_round 2 = .ok (.iconst 2, 1) := by decide +kernel
theorem dX9_round_22 : decode cX9_round 22 = .ok (.iconst 0, 1) := by decide +kernel
theorem dX9_round_23 : decode cX9_round 23 = .ok (.invokevirtual 199, 3) := by decide +kernel
theorem dX9_round_26 : decode cX9_round 26 = .ok (.istore_n 2, 1) := by decide +kernel
theorem dX9_round_27 : decode cX9_round 27 = .ok (.iload_n 1, 1) := by decide +kernel
theorem dX9_round_28 : decode cX9_round 28 = .ok (.ifCond .ne 11, 3) := by decide +kernel
theorem dX9_round_3 : decode cX9_round 3 = .ok (.invokestatic 68, 3) := by decide +kernel
theorem dX9_round_31 : decode cX9_round 31 = .ok (.aload_n 0, 1) := by decide +kernel
theorem dX9_round_32 : decode cX9_round 32 = .ok (.getfield 47, 3) := by decide +kernel
theorem dX9_round_35 : decode cX9_round 35 = .ok (.invokevirtual 202, 3) := by decide +kernel
theorem dX9_round_38 : decode cX9_round 38 = .ok (.ireturn, 1) := by decide +kernel
theorem dX9_round_39 : decode cX9_round 39 = .ok (.iload_n 1, 1) := by decide +kernel
theorem dX9_round_40 : decode cX9_round 40 = .ok (.iconst 1, 1) := by decide +kernel
theorem dX9_round_41 : decode cX9_round 41 = .ok (.if_icmp .ne 7, 3) := by decide +kernel
theorem dX9_round_44 : decode cX9_round 44 = .ok (.iload_n 2, 1) := by decide +kernel
theorem dX9_round_45 : decode cX9_round 45 = .ok (.goto 10, 3) := by decide +kernel
theorem dX9_round_48 : decode cX9_round 48 = .ok (.aload_n 0, 1) := by decide +kernel
theorem dX9_round_49 : decode cX9_round 49 = .ok (.getfield 47, 3) := by decide +kernel
theorem dX9_round_52 : decode cX9_round 52 = .ok (.invokevirtual 205, 3) := by decide +kernel
theorem dX9_round_55 : decode cX9_round 55 = .ok (.ireturn, 1) := by decide +kernel
theorem dX9_round_6 : decode cX9_round 6 = .ok (.ifCond .ne 5, 3) := by decide +kernel
theorem dX9_round_9 : decode cX9_round 9 = .ok (.iconst (-1), 1) := by decide +kernel
set_option maxHeartbeats 8000000 in
set_option maxRecDepth 100000 in
theorem zc_X9_on_0 (l : Launch) (D : va_G) (y : Nat → ClassId) (a0 : Nat) (p1 : Int32) (w2 : Value) (w3 : Value) (w4 : Value) (a5 : Nat) (w6 : Value) (w7 : Value) (a8 : Nat) (w9 : Value) (w10 : Value) (w11 : Value) (w12 : Value) (w13 : Value) (w14 : Value) (w15 : Value) (w16 : Value) (w17 : Value) (w18 : Value) (w19 : Value) (w20 : Value) (w21 : Value) (w22 : Value) (a23 : Nat) : zM l D y yX9_on (Cond.code yX9_on cX9_on 2 (some .int) :: zT) { frames := 2, cells := 0, slots := 0, locals := 46 } [.ref a0, .int p1] [(a0, .inr (8, [w2, w3, w4, .ref a5, w6, w7, .ref a8, w9, w10])), (a5, .inr (6, [w11, .int 0, .int 20, .int 0, .int 0, .int 0, w12, w13, w14, w15, w16, w17])), (a8, .inr (1, [.ref a5, .int 0, .int 0, w18, w19, w20, w21, w22, .ref a23])), (a23, .inl (y 2, 4, .inl (fun _ => 0)))] (zQi (S := Unit) D (fun r_ _ => r_ = (if p1 < 0 then (-2) else (if 99 < p1 then (-2) else 0))) (fun _ => [])) := by
  refine zent (cc := cX9_on) (maxL := 2) (ret := (some .int)) (by decide) (Nat.le_of_ble_eq_true rfl) ?_
  intro p e s m below meth c A H locs ls hx hb hml hr ht hown hlocks hin hA hK hE hS hW hl
  have hown : s.vm.findClass RX9 = some m.cls := hown
  have hW : zPD D A [(a0, .inr (8, [w2, w3, w4, .ref a5, w6, w7, .ref a8, w9, w10])), (a5, .inr (6, [w11, .int 0, .int 20, .int 0, .int 0, .int 0, w12, w13, w14, w15, w16, w17])), (a8, .inr (1, [.ref a5, .int 0, .int 0, w18, w19, w20, w21, w22, .ref a23])), (a23, .inl (y 2, 4, .inl (fun _ => 0)))] H := hW
  have hl : lv_has ls 2 [(0, .ref a0), (1, .int p1)] := hl
  refine lv_iload_n hx hb dX9_on_0 rfl (lv_at hl 1 rfl) ?_
  refine lv_iconst (v := 0) hx hb dX9_on_1 (by decide) ?_
  refine lv_bipush (v := 99) hx hb dX9_on_2 (by decide) ?_
  refine zgo0_i (zrunS (As := [.int p1, .int 0, .int 99]) (rest := []) ⟨hx, hb, hml, hown, ht⟩ (zc_X9_within_5 l D y p1) (va_cwS 3 ht (zgS zm_222 zm_223 zm_2 zm_224) rfl rfl rfl (by decide +kernel) ⟨(Nat.le_of_ble_eq_true rfl), (Nat.le_of_ble_eq_true rfl)⟩) hK hE hS hA hW [] (by decide) rfl rfl hl.1 rfl (Nat.le_of_ble_eq_true rfl) dX9_on_4 (Nat.le_of_ble_eq_true rfl) (Nat.le_of_ble_eq_true rfl)) hS hA hW (fun r1_ u H locs hw hW hS => ?_)
  have hw : r1_ = (if p1 < 0 then 0 else (if 99 < p1 then 0 else 1)) := hw
  by_cases c2_ : p1 < 0
  · have b3_ : (-2147483648) ≤ Int32.toInt p1 ∧ Int32.toInt p1 ≤ (-1) := (by have u0 := zbnd p1; have u1 := (zi_lt _ _).mp c2_; have u2 : (0 : Int32).toInt = 0 := (by decide); omega)
    rw [if_pos c2_] at hw
    subst hw
    refine lv_if_ne (tgt := 13) hx hb dX9_on_7 (by decide) (fun c4_ => absurd (by decide) c4_) (fun c4_ => ?_)
    refine lv_bipush (v := (-2)) hx hb dX9_on_10 (by decide) ?_
    exact zret_i (v := (-2)) hx hb hr hlocks hS () (by show _ = _; rw [if_pos c2_]) (hW.sub [] (by decide) rfl) (Nat.le_of_ble_eq_true rfl) (Nat.le_of_ble_eq_true rfl) dX9_on_12
  · have b5_ : 0 ≤ Int32.toInt p1 ∧ Int32.toInt p1 ≤ 2147483647 := (by have u0 := zbnd p1; have u1 := (not_congr (zi_lt _ _)).mp c2_; have u2 : (0 : Int32).toInt = 0 := (by decide); omega)
    rw [if_neg c2_] at hw
    by_cases c6_ : 99 < p1
    · have b7_ : 100 ≤ Int32.toInt p1 ∧ Int32.toInt p1 ≤ 2147483647 := (by have u0 := b5_; have u1 := (zi_lt _ _).mp c6_; have u2 : (99 : Int32).toInt = 99 := (by decide); omega)
      rw [if_pos c6_] at hw
      subst hw
      refine lv_if_ne (tgt := 13) hx hb dX9_on_7 (by decide) (fun c8_ => absurd (by decide) c8_) (fun c8_ => ?_)
      refine lv_bipush (v := (-2)) hx hb dX9_on_10 (by decide) ?_
      exact zret_i (v := (-2)) hx hb hr hlocks hS () (by show _ = _; rw [if_neg c2_, if_pos c6_]) (hW.sub [] (by decide) rfl) (Nat.le_of_ble_eq_true rfl) (Nat.le_of_ble_eq_true rfl) dX9_on_12
    · have b9_ : 0 ≤ Int32.toInt p1 ∧ Int32.toInt p1 ≤ 99 := (by have u0 := b5_; have u1 := (not_congr (zi_lt _ _)).mp c6_; have u2 : (99 : Int32).toInt = 99 := (by decide); omega)
      rw [if_neg c6_] at hw
      subst hw
      refine lv_if_ne (tgt := 13) hx hb dX9_on_7 (by decide) (fun c10_ => ?_) (fun c10_ => absurd c10_ (by decide))
      refine lv_aload_n hx hb dX9_on_13 rfl (lv_at hl 0 rfl) ?_
      refine zget hx hb ht inlX9 hown hK hW 0 rfl rfl 6 (by decide) zm_29 rfl dX9_on_14 ?_
      refine zgo_v (wr := [(a0, .inr (8, [w2, w3, w4, .ref a5, w6, w7, .ref a8, w9, w10]))]) (zrunV (As := []) (rest := []) ⟨hx, hb, hml, hown, ht⟩ (zc_X1_beginFromNow_0 l D y a8 a5 w18 w19 w20 w21 w22 a23 w11 (.int 0) (.int 0) w12 w13 w14 w15 w16 w17) (cwV 0 ht (zgV zm_274 zm_275 zm_276 zm_28 zm_277) rfl rfl rfl (by decide +kernel) ⟨(Nat.le_of_ble_eq_true rfl), (Nat.le_of_ble_eq_true rfl)⟩) hK hE hS hA hW [2, 1, 3] (by decide) rfl 0 rfl rfl rfl rfl hl.1 rfl (Nat.le_of_ble_eq_true rfl) dX9_on_17 (Nat.le_of_ble_eq_true rfl) (Nat.le_of_ble_eq_true rfl)) hS hA hW [2, 1, 3] [0] rfl rfl (by decide) (by decide) (fun u H locs hw hW hS => ?_)
      have hW : zPD D A [(a0, .inr (8, [w2, w3, w4, .ref a5, w6, w7, .ref a8, w9, w10])), (a8, .inr (1, [.ref a5, .int 0, .int 20, w18, w19, w20, w21, w22, .ref a23])), (a5, .inr (6, [w11, .int 0, .int 20, .int 0, .int 0, .int 0, w12, w13, w14, w15, w16, w17])), (a23, .inl (y 2, 4, .inl (upd (fun _ => 0) 0 1)))] H := hW
      refine lv_aload_n hx hb dX9_on_20 rfl (lv_at hl 0 rfl) ?_
      refine lv_iload_n hx hb dX9_on_21 rfl (lv_at hl 1 rfl) ?_
      refine zgo_i (wr := [(a23, .inl (y 2, 4, .inl (upd (fun _ => 0) 0 1)))]) (zrunV (As := [.int p1]) (rest := []) ⟨hx, hb, hml, hown, ht⟩ (zc_X9_wetMore_0 l D y a0 p1 w2 w3 w4 a5 w6 w7 a8 w9 w10 w11 (.int 20) (.int 0) w12 w13 w14 w15 w16 w17 (.int 0) (.int 20) w18 w19 w20 w21 w22 (.ref a23)) (cwV 1 ht (zgV zm_726 zm_727 zm_728 zm_2 zm_729) rfl rfl rfl (by decide +kernel) ⟨(Nat.le_of_ble_eq_true rfl), (Nat.le_of_ble_eq_true rfl)⟩) hK hE hS hA hW [0, 2, 1] (by decide) rfl 0 rfl rfl rfl rfl hl.1 rfl (Nat.le_of_ble_eq_true rfl) dX9_on_22 (Nat.le_of_ble_eq_true rfl) (Nat.le_of_ble_eq_true rfl)) hS hA hW [0, 2, 1] [3] rfl rfl (by decide) (by decide) (fun r12_ u H locs hw hW hS => ?_)
      have hW : zPD D A [(a23, .inl (y 2, 4, .inl (upd (fun _ => 0) 0 1))), (a0, .inr (8, [w2, w3, w4, .ref a5, w6, w7, .ref a8, w9, w10])), (a5, .inr (6, [w11, .int 0, .int 20, .int 0, .int 0, .int 0, w12, w13, w14, w15, w16, w17])), (a8, .inr (1, [.ref a5, .int 0, .int 20, w18, w19, w20, w21, w22, .ref a23]))] H := hW
      have hw : r12_ = 0 := hw
      subst hw
      exact zret_i (v := 0) hx hb hr hlocks hS () (by show _ = _; rw [if_neg c2_, if_neg c6_]) (hW.sub [] (by decide) rfl) (Nat.le_of_ble_eq_true rfl) (Nat.le_of_ble_eq_true rfl) dX9_on_25
set_option maxHeartbeats 8000000 in
set_option maxRecDepth 100000 in
theorem zc_X10_on_0 (l : Launch) (D : va_G) (y : Nat → ClassId) (a0 : Nat) (p1 : Int32) (w2 : Value) (w3 : Value) (w4 : Value) (w5 : Value) (w6 : Value) (w7 : Value) (w8 : Value) (w9 : Value) (w10 : Value) (w11 : Value) (a12 : Nat) (w13 : Value) (w14 : Value) (w15 : Value) (w16 : Value) (w17 : Value) (w18 : Value) (w19 : Value) (w20 : Value) (w21 : Value) (w22 : Value) (w23 : Value) (w24 : Value) (w25 : Value) (w26 : Value) (w27 : Value) (w28 : Value) (w29 : Value) (w30 : Value) (a31 : Nat) (w32 : Value) (w33 : Value) (w34 : Value) (w35 : Value) (w36 : Value) (w37 : Value) (w38 : Value) (w39 : Value) (w40 : Value) (w41 : Value) (w42 : Value) (w43 : Value) (w44 : Value) (w45 : Value) (w46 : Value) (w47 : Value) (w48 : Value) (w49 : Value) (w50 : Value) (w51 : Value) (w52 : Value) (w53 : Value) (w54 : Value) (w55 : Value) (w56 : Value) (w57 : Value) (w58 : Value) (w59 : Value) (w60 : Value) (w61 : Value) (w62 : Value) (w63 : Value) (w64 : Value) (w65 : Value) (w66 : Value) (w67 : Value) (w68 : Value) (w69 : Value) (w70 : Value) (w71 : Value) (w72 : Value) : zM l D y yX10_on (Cond.code yX10_on cX10_on 2 (some .int) :: zT) { frames := 4, cells := 0, slots := 0, locals := 88 } [.ref a0, .int p1] [(a0, .inr (9, [.int 0, .int 0, w2, .int 20, w3, w4, w5, w6, w7, w8, w9, w10, w11, .ref a12, w13, .int (-1), w14, w15, w16, w17, w18, w19, w20, w21, w22, w23, w24, w25, w26, w27, w28, w29, .int 0, w30, .ref a31, w32, w33, w34, w35, w36, w37, w38, w39, w40, w41, w42, w43, w44, w45, w46, w47, w48, w49, w50, w51, w52, w53, w54, w55, w56, w57, w58, w59, w60, w61, w62, w63, w64, w65, w66, w67, w68, w69, w70, w71, w72])), (a12, .inl (y 2, 7, .inl (fun _ => 0))), (a31, .inl (y 0, 7, .inl (fun _ => 0)))] (zQi (S := Unit) D (fun r_ _ => r_ = (if p1 < 0 then (-2) else (if 99 < p1 then (-2) else 0))) (fun _ => [])) := by
  refine zent (cc := cX10_on) (maxL := 2) (ret := (some .int)) (by decide) (Nat.le_of_ble_eq_true rfl) ?_
  intro p e s m below meth c A H locs ls hx hb hml hr ht hown hlocks hin hA hK hE hS hW hl
  have hown : s.vm.findClass RX10 = some m.cls := hown
  have hW : zPD D A [(a0, .inr (9, [.int 0, .int 0, w2, .int 20, w3, w4, w5, w6, w7, w8, w9, w10, w11, .ref a12, w13, .int (-1), w14, w15, w16, w17, w18, w19, w20, w21, w22, w23, w24, w25, w26, w27, w28, w29, .int 0, w30, .ref a31, w32, w33, w34, w35, w36, w37, w38, w39, w40, w41, w42, w43, w44, w45, w46, w47, w48, w49, w50, w51, w52, w53, w54, w55, w56, w57, w58, w59, w60, w61, w62, w63, w64, w65, w66, w67, w68, w69, w70, w71, w72])), (a12, .inl (y 2, 7, .inl (fun _ => 0))), (a31, .inl (y 0, 7, .inl (fun _ => 0)))] H := hW
  have hl : lv_has ls 2 [(0, .ref a0), (1, .int p1)] := hl
  refine lv_aload_n hx hb dX10_on_0 rfl (lv_at hl 0 rfl) ?_
  refine lv_iload_n hx hb dX10_on_1 rfl (lv_at hl 1 rfl) ?_
  refine lv_iconst (v := 0) hx hb dX10_on_2 (by decide) ?_
  refine lv_bipush (v := 99) hx hb dX10_on_3 (by decide) ?_
  refine zgo_i (wr := [(a12, .inl (y 2, 7, .inl (fun _ => 0))), (a31, .inl (y 0, 7, .inl (fun _ => 0)))]) (zrunV (As := [.int p1, .int 0, .int 99]) (rest := []) ⟨hx, hb, hml, hown, ht⟩ (zc_X10_in_6 l D y a0 p1 (.int 0) (.int 0) w2 (.int 20) w3 w4 w5 w6 w7 w8 w9 w10 w11 (.ref a12) w13 (.int (-1)) w14 w15 w16 w17 w18 w19 w20 w21 w22 w23 w24 w25 w26 w27 w28 w29 (.int 0) w30 (.ref a31) w32 w33 w34 w35 w36 w37 w38 w39 w40 w41 w42 w43 w44 w45 w46 w47 w48 w49 w50 w51 w52 w53 w54 w55 w56 w57 w58 w59 w60 w61 w62 w63 w64 w65 w66 w67 w68 w69 w70 w71 w72) (cwV 3 ht (zgV zm_240 zm_241 zm_242 zm_5 zm_243) rfl rfl rfl (by decide +kernel) ⟨(Nat.le_of_ble_eq_true rfl), (Nat.le_of_ble_eq_true rfl)⟩) hK hE hS hA hW [0] (by decide) rfl 0 rfl rfl rfl rfl hl.1 rfl (Nat.le_of_ble_eq_true rfl) dX10_on_5 (Nat.le_of_ble_eq_true rfl) (Nat.le_of_ble_eq_true rfl)) hS hA hW [0] [1, 2] rfl rfl (by decide) (by decide) (fun r1_ u H locs hw hW hS => ?_)
  have hW : zPD D A [(a12, .inl (y 2, 7, .inl (fun _ => 0))), (a31, .inl (y 0, 7, .inl (fun _ => 0))), (a0, .inr (9, [.int 0, .int 0, w2, .int 20, w3, w4, w5, w6, w7, w8, w9, w10, w11, .ref a12, w13, .int (-1), w14, w15, w16, w17, w18, w19, w20, w21, w22, w23, w24, w25, w26, w27, w28, w29, .int 0, w30, .ref a31, w32, w33, w34, w35, w36, w37, w38, w39, w40, w41, w42, w43, w44, w45, w46, w47, w48, w49, w50, w51, w52, w53, w54, w55, w56, w57, w58, w59, w60, w61, w62, w63, w64, w65, w66, w67, w68, w69, w70, w71, w72]))] H := hW
  have hw : r1_ = (if p1 < 0 then 0 else (if 99 < p1 then 0 else 1)) := hw
  by_cases c2_ : p1 < 0
  · have b3_ : (-2147483648) ≤ Int32.toInt p1 ∧ Int32.toInt p1 ≤ (-1) := (by have u0 := zbnd p1; have u1 := (zi_lt _ _).mp c2_; have u2 : (0 : Int32).toInt = 0 := (by decide); omega)
    rw [if_pos c2_] at hw
    subst hw
    refine lv_if_ne (tgt := 14) hx hb dX10_on_8 (by decide) (fun c4_ => absurd (by decide) c4_) (fun c4_ => ?_)
    refine lv_bipush (v := (-2)) hx hb dX10_on_11 (by decide) ?_
    exact zret_i (v := (-2)) hx hb hr hlocks hS () (by show _ = _; rw [if_pos c2_]) (hW.sub [] (by decide) rfl) (Nat.le_of_ble_eq_true rfl) (Nat.le_of_ble_eq_true rfl) dX10_on_13
  · have b5_ : 0 ≤ Int32.toInt p1 ∧ Int32.toInt p1 ≤ 2147483647 := (by have u0 := zbnd p1; have u1 := (not_congr (zi_lt _ _)).mp c2_; have u2 : (0 : Int32).toInt = 0 := (by decide); omega)
    rw [if_neg c2_] at hw
    by_cases c6_ : 99 < p1
    · have b7_ : 100 ≤ Int32.toInt p1 ∧ Int32.toInt p1 ≤ 2147483647 := (by have u0 := b5_; have u1 := (zi_lt _ _).mp c6_; have u2 : (99 : Int32).toInt = 99 := (by decide); omega)
      rw [if_pos c6_] at hw
      subst hw
      refine lv_if_ne (tgt := 14) hx hb dX10_on_8 (by decide) (fun c8_ => absurd (by decide) c8_) (fun c8_ => ?_)
      refine lv_bipush (v := (-2)) hx hb dX10_on_11 (by decide) ?_
      exact zret_i (v := (-2)) hx hb hr hlocks hS () (by show _ = _; rw [if_neg c2_, if_pos c6_]) (hW.sub [] (by decide) rfl) (Nat.le_of_ble_eq_true rfl) (Nat.le_of_ble_eq_true rfl) dX10_on_13
    · have b9_ : 0 ≤ Int32.toInt p1 ∧ Int32.toInt p1 ≤ 99 := (by have u0 := b5_; have u1 := (not_congr (zi_lt _ _)).mp c6_; have u2 : (99 : Int32).toInt = 99 := (by decide); omega)
      rw [if_neg c6_] at hw
      subst hw
      refine lv_if_ne (tgt := 14) hx hb dX10_on_8 (by decide) (fun c10_ => ?_) (fun c10_ => absurd c10_ (by decide))
      refine lv_aload_n hx hb dX10_on_14 rfl (lv_at hl 0 rfl) ?_
      refine zgo_v (wr := [(a12, .inl (y 2, 7, .inl (fun _ => 0))), (a31, .inl (y 0, 7, .inl (fun _ => 0)))]) (zrunV (As := []) (rest := []) ⟨hx, hb, hml, hown, ht⟩ (zc_X10_layRain_0 l D y a0 (.int 0) w2 (.int 20) w3 w4 w5 w6 w7 w8 w9 w10 w11 (.ref a12) w13 w14 w15 w16 w17 w18 w19 w20 w21 w22 w23 w24 w25 w26 w27 w28 w29 w30 (.ref a31) w32 w33 w34 w35 w36 w37 w38 w39 w40 w41 w42 w43 w44 w45 w46 w47 w48 w49 w50 w51 w52 w53 w54 w55 w56 w57 w58 w59 w60 w61 w62 w63 w64 w65 w66 w67 w68 w69 w70 w71 w72) (cwV 0 ht (zgV zm_377 zm_378 zm_379 zm_5 zm_380) rfl rfl rfl (by decide +kernel) ⟨(Nat.le_of_ble_eq_true rfl), (Nat.le_of_ble_eq_true rfl)⟩) hK hE hS hA hW [2] (by decide) rfl 0 rfl rfl rfl rfl hl.1 rfl (Nat.le_of_ble_eq_true rfl) dX10_on_15 (Nat.le_of_ble_eq_true rfl) (Nat.le_of_ble_eq_true rfl)) hS hA hW [2] [0, 1] rfl rfl (by decide) (by decide) (fun u H locs hw hW hS => ?_)
      have hW : zPD D A [(a12, .inl (y 2, 7, .inl (fun _ => 0))), (a31, .inl (y 0, 7, .inl (fun _ => 0))), (a0, .inr (9, [.int 0, .int 0, w2, .int 20, w3, w4, w5, w6, w7, w8, w9, w10, w11, .ref a12, w13, .int (-1), w14, w15, w16, w17, w18, w19, w20, w21, w22, w23, w24, w25, w26, w27, w28, w29, .int 0, w30, .ref a31, w32, w33, w34, w35, w36, w37, w38, w39, w40, w41, w42, w43, w44, w45, w46, w47, w48, w49, w50, w51, w52, w53, w54, w55, w56, w57, w58, w59, w60, w61, w62, w63, w64, w65, w66, w67, w68, w69, w70, w71, w72]))] H := hW
      refine lv_aload_n hx hb dX10_on_18 rfl (lv_at hl 0 rfl) ?_
      refine zgo_v (wr := []) (zrunV (As := []) (rest := []) ⟨hx, hb, hml, hown, ht⟩ (zc_X10_layOpen_0 l D y a0 (.int 0) (.int 0) w2 (.int 20) w3 w4 w5 w6 w7 w8 w9 w10 w11 a12 w13 (.int (-1)) w14 w15 w16 w17 w18 w19 w20 w21 w22 w23 w24 w25 w26 w27 w28 w29 (.int 0) w30 a31 w32 w33 w34 w35 w36 w37 w38 w39 w40 w41 w42 w43 w44 w45 w46 w47 w48 w49 w50 w51 w52 w53 w54 w55 w56 w57 w58 w59 w60 w61 w62 w63 w64 w65 w66 w67 w68 w69 w70 w71 w72) (cwV 0 ht (zgV zm_397 zm_398 zm_399 zm_5 zm_400) rfl rfl rfl (by decide +kernel) ⟨(Nat.le_of_ble_eq_true rfl), (Nat.le_of_ble_eq_true rfl)⟩) hK hE hS hA hW [2, 0, 1] (by decide) rfl 0 rfl rfl rfl rfl hl.1 rfl (Nat.le_of_ble_eq_true rfl) dX10_on_19 (Nat.le_of_ble_eq_true rfl) (Nat.le_of_ble_eq_true rfl)) hS hA hW [2, 0, 1] [] rfl rfl (by decide) (by decide) (fun u H locs hw hW hS => ?_)
      have hW : zPD D A [(a0, .inr (9, [.int 0, .int 0, w2, .int 20, w3, w4, w5, w6, w7, w8, w9, w10, w11, .ref a12, w13, .int (-1), w14, w15, w16, w17, w18, w19, w20, w21, w22, w23, w24, w25, w26, w27, w28, w29, .int 0, w30, .ref a31, w32, w33, w34, w35, w36, w37, w38, w39, w40, w41, w42, w43, w44, w45, w46, w47, w48, w49, w50, w51, w52, w53, w54, w55, w56, w57, w58, w59, w60, w61, w62, w63, w64, w65, w66, w67, w68, w69, w70, w71, w72])), (a12, .inl (y 2, 7, .inl (fun _ => 0))), (a31, .inl (y 0, 7, .inl (upd (upd (upd (upd (upd (upd (upd (fun _ => 0) 0 99999) 1 99999) 2 99999) 3 99999) 4 99999) 5 99999) 6 99999)))] H := hW
      refine lv_aload_n hx hb dX10_on_22 rfl (lv_at hl 0 rfl) ?_
      refine lv_aload_n hx hb dX10_on_23 rfl (lv_at hl 0 rfl) ?_
      refine zget hx hb ht inlX10 hown hK hW 0 rfl rfl 1 (by decide) zm_141 rfl dX10_on_24 ?_
      refine lv_aload_n hx hb dX10_on_27 rfl (lv_at hl 0 rfl) ?_
      refine zget hx hb ht inlX10 hown hK hW 0 rfl rfl 1 (by decide) zm_141 rfl dX10_on_28 ?_
      refine lv_iload_n hx hb dX10_on_31 rfl (lv_at hl 1 rfl) ?_
      refine lv_iadd hx hb dX10_on_32 ?_
      have b13_ : 0 ≤ Int32.toInt (0 + p1) ∧ Int32.toInt (0 + p1) ≤ 99 := by have u0 := (show (0 : Int32).toInt = 0 from (by decide)); have u1 := b9_; have u2 := zadd 0 p1 (by omega) (by omega); omega
      refine zgo_i (wr := [(a12, .inl (y 2, 7, .inl (fun _ => 0))), (a31, .inl (y 0, 7, .inl (upd (upd (upd (upd (upd (upd (upd (fun _ => 0) 0 99999) 1 99999) 2 99999) 3 99999) 4 99999) 5 99999) 6 99999)))]) (zrunV (As := [.int 0, .int (0 + p1)]) (rest := []) ⟨hx, hb, hml, hown, ht⟩ (zc_X10_harmFrom_0 l D y a0 (0 + p1) (.int 0) w2 w3 w4 w5 w6 w7 w8 w9 w10 w11 (.ref a12) w13 w14 w15 w16 w17 w18 w19 w20 w21 w22 w23 w24 w25 w26 w27 w28 w29 (.int 0) w30 (.ref a31) w32 w33 w34 w35 w36 w37 w38 w39 w40 w41 w42 w43 w44 w45 w46 w47 w48 w49 w50 w51 w52 w53 w54 w55 w56 w57 w58 w59 w60 w61 w62 w63 w64 w65 w66 w67 w68 w69 w70 w71 w72 b13_) (cwV 2 ht (zgV zm_746 zm_747 zm_748 zm_5 zm_749) rfl rfl rfl (by decide +kernel) ⟨(Nat.le_of_ble_eq_true rfl), (Nat.le_of_ble_eq_true rfl)⟩) hK hE hS hA hW [0] (by decide) rfl 0 rfl rfl rfl rfl hl.1 rfl (Nat.le_of_ble_eq_true rfl) dX10_on_33 (Nat.le_of_ble_eq_true rfl) (Nat.le_of_ble_eq_true rfl)) hS hA hW [0] [1, 2] rfl rfl (by decide) (by decide) (fun r14_ u H locs hw hW hS => ?_)
      have hW : zPD D A [(a12, .inl (y 2, 7, .inl (fun _ => 0))), (a31, .inl (y 0, 7, .inl (upd (upd (upd (upd (upd (upd (upd (fun _ => 0) 0 99999) 1 99999) 2 99999) 3 99999) 4 99999) 5 99999) 6 99999))), (a0, .inr (9, [.int 0, .int 0, w2, .int 20, w3, w4, w5, w6, w7, w8, w9, w10, w11, .ref a12, w13, .int (-1), w14, w15, w16, w17, w18, w19, w20, w21, w22, w23, w24, w25, w26, w27, w28, w29, .int 0, w30, .ref a31, w32, w33, w34, w35, w36, w37, w38, w39, w40, w41, w42, w43, w44, w45, w46, w47, w48, w49, w50, w51, w52, w53, w54, w55, w56, w57, w58, w59, w60, w61, w62, w63, w64, w65, w66, w67, w68, w69, w70, w71, w72]))] H := hW
      have hw : r14_ = 0 := hw
      subst hw
      exact zret_i (v := 0) hx hb hr hlocks hS () (by show _ = _; rw [if_neg c2_, if_neg c6_]) (hW.sub [] (by decide) rfl) (Nat.le_of_ble_eq_true rfl) (Nat.le_of_ble_eq_true rfl) dX10_on_36
set_option maxHeartbeats 8000000 in
set_option maxRecDepth 100000 in
theorem zc_X6_clear_0 (l : Launch) (D : va_G) (y : Nat → ClassId) (a0 : Nat) (w1 : Value) (w2 : Value) : zM l D y yX6_clear (Cond.code yX6_clear cX6_clear 1 (some .int) :: zT) { frames := 0, cells := 0, slots := 0, locals := 0 } [.ref a0] [(a0, .inr (5, [.int 0, w1, w2]))] (zQi (S := Unit) D (fun r_ _ => r_ = 0) (fun _ => [(a0, .inr (5, [.int 0, w1, w2]))])) := by
  refine zent (cc := cX6_clear) (maxL := 1) (ret := (some .int)) (by decide) (Nat.le_of_ble_eq_true rfl) ?_
  intro p e s m below meth c A H locs ls hx hb hml hr ht hown hlocks hin hA hK hE hS hW hl
  have hown : s.vm.findClass RX6 = some m.cls := hown
  have hW : zPD D A [(a0, .inr (5, [.int 0, w1, w2]))] H := hW
  have hl : lv_has ls 1 [(0, .ref a0)] := hl
  refine lv_aload_n hx hb dX6_clear_0 rfl (lv_at hl 0 rfl) ?_
  refine lv_iconst (v := 0) hx hb dX6_clear_1 (by decide) ?_
  refine zput (ws' := [(a0, .inr (5, [.int 0, w1, w2]))]) hx hb ht inlX6 tyX6 tyX6_ok nmX6 hown hK hS hW 0 rfl rfl 0 (by decide) zm_88 rfl rfl rfl (Nat.le_of_ble_eq_true rfl) rfl dX6_clear_2 (fun H locs hW hS => ?_)
  refine lv_iconst (v := 0) hx hb dX6_clear_5 (by decide) ?_
  exact zret_i (v := 0) hx hb hr hlocks hS () rfl hW (Nat.le_of_ble_eq_true rfl) (Nat.le_of_ble_eq_true rfl) dX6_clear_6
set_option maxHeartbeats 8000000 in
set_option maxRecDepth 100000 in
theorem zc_X9_add_0 (l : Launch) (D : va_G) (y : Nat → ClassId) (a0 : Nat) (p1 : Int32) (w2 : Value) (w3 : Value) (w4 : Value) (a5 : Nat) (w6 : Value) (w7 : Value) (w8 : Value) (w9 : Value) (w10 : Value) (w11 : Value) (w12 : Value) (w13 : Value) (w14 : Value) (w15 : Value) (w16 : Value) (w17 : Value) (w18 : Value) (a19 : Nat) (w20 : Value) (w21 : Value) (w22 : Value) (w23 : Value) : zM l D y yX9_add (Cond.code yX9_add cX9_add 2 (some .int) :: zT) { frames := 1, cells := 0, slots := 0, locals := 21 } [.ref a0, .int p1] [(a0, .inr (8, [w2, w3, w4, .ref a5, w6, w7, w8, w9, w10])), (a5, .inr (6, [w11, .int 0, w12, w13, w14, w15, w16, w17, w18, .ref a19, w20, w21])), (a19, .inr (5, [.int 0, w22, w23]))] (zQi (S := Unit) D (fun r_ _ => r_ = (if p1 = (-1) then 0 else (-1))) (fun _ => [])) := by
  refine zent (cc := cX9_add) (maxL := 2) (ret := (some .int)) (by decide) (Nat.le_of_ble_eq_true rfl) ?_
  intro p e s m below meth c A H locs ls hx hb hml hr ht hown hlocks hin hA hK hE hS hW hl
  have hown : s.vm.findClass RX9 = some m.cls := hown
  have hW : zPD D A [(a0, .inr (8, [w2, w3, w4, .ref a5, w6, w7, w8, w9, w10])), (a5, .inr (6, [w11, .int 0, w12, w13, w14, w15, w16, w17, w18, .ref a19, w20, w21])), (a19, .inr (5, [.int 0, w22, w23]))] H := hW
  have hl : lv_has ls 2 [(0, .ref a0), (1, .int p1)] := hl
  refine lv_iload_n hx hb dX9_add_0 rfl (lv_at hl 1 rfl) ?_
  refine lv_iconst (v := (-1)) hx hb dX9_add_1 (by decide) ?_
  refine lv_icmp_ne (tgt := 16) hx hb dX9_add_2 (by decide) (fun c1_ => ?_) (fun c1_ => ?_)
  · have b2_ : (-2147483648) ≤ Int32.toInt p1 ∧ Int32.toInt p1 ≤ 2147483647 := (by have u0 := zbnd p1; have u1 := (not_congr (zi_eq _ _)).mp c1_; have u2 : ((-1) : Int32).toInt = -1 := (by decide); omega)
    refine lv_aload_n hx hb dX9_add_16 rfl (lv_at hl 0 rfl) ?_
    refine zget hx hb ht inlX9 hown hK hW 0 rfl rfl 3 (by decide) zm_23 rfl dX9_add_17 ?_
    refine lv_iload_n hx hb dX9_add_20 rfl (lv_at hl 1 rfl) ?_
    refine zgo_i (wr := [(a0, .inr (8, [w2, w3, w4, .ref a5, w6, w7, w8, w9, w10])), (a19, .inr (5, [.int 0, w22, w23]))]) (zrunV (As := [.int p1]) (rest := []) ⟨hx, hb, hml, hown, ht⟩ (zc_X7_has_0 l D y a5 p1 w11 w12 w13 w14 w15 w16 w17 w18 (.ref a19) w20 w21) (cwV 1 ht (zgV zm_263 zm_264 zm_265 zm_22 zm_266) rfl rfl rfl (by decide +kernel) ⟨(Nat.le_of_ble_eq_true rfl), (Nat.le_of_ble_eq_true rfl)⟩) hK hE hS hA hW [1] (by decide) rfl 0 rfl rfl rfl rfl hl.1 rfl (Nat.le_of_ble_eq_true rfl) dX9_add_21 (Nat.le_of_ble_eq_true rfl) (Nat.le_of_ble_eq_true rfl)) hS hA hW [1] [0, 2] rfl rfl (by decide) (by decide) (fun r3_ u H locs hw hW hS => ?_)
    have hW : zPD D A [(a0, .inr (8, [w2, w3, w4, .ref a5, w6, w7, w8, w9, w10])), (a19, .inr (5, [.int 0, w22, w23])), (a5, .inr (6, [w11, .int 0, w12, w13, w14, w15, w16, w17, w18, .ref a19, w20, w21]))] H := hW
    have hw : r3_ = 0 := hw
    subst hw
    refine lv_if_ne (tgt := 29) hx hb dX9_add_24 (by decide) (fun c4_ => absurd (by decide) c4_) (fun c4_ => ?_)
    refine lv_iconst (v := (-1)) hx hb dX9_add_27 (by decide) ?_
    exact zret_i (v := (-1)) hx hb hr hlocks hS () (by show _ = _; rw [if_neg c1_]) (hW.sub [] (by decide) rfl) (Nat.le_of_ble_eq_true rfl) (Nat.le_of_ble_eq_true rfl) dX9_add_28
  · have b5_ : (-1) ≤ Int32.toInt p1 ∧ Int32.toInt p1 ≤ (-1) := (by have u0 := zbnd p1; have u1 := (zi_eq _ _).mp c1_; have u2 : ((-1) : Int32).toInt = -1 := (by decide); omega)
    refine lv_aload_n hx hb dX9_add_5 rfl (lv_at hl 0 rfl) ?_
    refine zget hx hb ht inlX9 hown hK hW 0 rfl rfl 3 (by decide) zm_23 rfl dX9_add_6 ?_
    refine zget hx hb ht inlX7 hown hK hW 1 rfl rfl 9 (by decide) zm_783 rfl dX9_add_9 ?_
    refine zgo_i (wr := [(a0, .inr (8, [w2, w3, w4, .ref a5, w6, w7, w8, w9, w10])), (a5, .inr (6, [w11, .int 0, w12, w13, w14, w15, w16, w17, w18, .ref a19, w20, w21]))]) (zrunV (As := []) (rest := []) ⟨hx, hb, hml, hown, ht⟩ (zc_X6_clear_0 l D y a19 w22 w23) (cwV 0 ht (zgV zm_784 zm_785 zm_786 zm_78 zm_787) rfl rfl rfl (by decide +kernel) ⟨(Nat.le_of_ble_eq_true rfl), (Nat.le_of_ble_eq_true rfl)⟩) hK hE hS hA hW [2] (by decide) rfl 0 rfl rfl rfl rfl hl.1 rfl (Nat.le_of_ble_eq_true rfl) dX9_add_12 (Nat.le_of_ble_eq_true rfl) (Nat.le_of_ble_eq_true rfl)) hS hA hW [2] [0, 1] rfl rfl (by decide) (by decide) (fun r6_ u H locs hw hW hS => ?_)
    have hW : zPD D A [(a0, .inr (8, [w2, w3, w4, .ref a5, w6, w7, w8, w9, w10])), (a5, .inr (6, [w11, .int 0, w12, w13, w14, w15, w16, w17, w18, .ref a19, w20, w21])), (a19, .inr (5, [.int 0, w22, w23]))] H := hW
    have hw : r6_ = 0 := hw
    subst hw
    exact zret_i (v := 0) hx hb hr hlocks hS () (by show _ = _; rw [if_pos c1_]) (hW.sub [] (by decide) rfl) (Nat.le_of_ble_eq_true rfl) (Nat.le_of_ble_eq_true rfl) dX9_add_15
set_option maxHeartbeats 8000000 in
set_option maxRecDepth 100000 in
theorem zc_X10_add_0 (l : Launch) (D : va_G) (y : Nat → ClassId) (a0 : Nat) (p1 : Int32) (w2 : Value) (w3 : Value) (w4 : Value) (w5 : Value) (w6 : Value) (w7 : Value) (w8 : Value) (w9 : Value) (w10 : Value) (w11 : Value) (w12 : Value) (w13 : Value) (w14 : Value) (w15 : Value) (w16 : Value) (w17 : Value) (w18 : Value) (w19 : Value) (w20 : Value) (w21 : Value) (w22 : Value) (w23 : Value) (w24 : Value) (w25 : Value) (w26 : Value) (w27 : Value) (w28 : Value) (w29 : Value) (w30 : Value) (w31 : Value) (w32 : Value) (w33 : Value) (w34 : Value) (w35 : Value) (w36 : Value) (w37 : Value) (w38 : Value) (w39 : Value) (w40 : Value) (w41 : Value) (w42 : Value) (w43 : Value) (w44 : Value) (w45 : Value) (w46 : Value) (w47 : Value) (w48 : Value) (w49 : Value) (w50 : Value) (w51 : Value) (w52 : Value) (w53 : Value) (w54 : Value) (w55 : Value) (w56 : Value) (w57 : Value) (w58 : Value) (w59 : Value) (w60 : Value) (w61 : Value) (w62 : Value) (w63 : Value) (w64 : Value) (w65 : Value) (w66 : Value) (w67 : Value) (w68 : Value) (w69 : Value) (w70 : Value) (w71 : Value) (w72 : Value) (w73 : Value) (w74 : Value) (w75 : Value) : zM l D y yX10_add (Cond.code yX10_add cX10_add 3 (some .int) :: zT) { frames := 2, cells := 0, slots := 0, locals := 44 } [.ref a0, .int p1] [(a0, .inr (9, [.int 0, w2, w3, w4, w5, w6, w7, w8, w9, w10, w11, w12, w13, w14, w15, w16, w17, w18, w19, w20, w21, w22, w23, w24, w25, w26, w27, w28, w29, w30, w31, w32, w33, w34, w35, w36, w37, .int 0, w38, w39, w40, w41, w42, w43, w44, w45, w46, w47, w48, w49, w50, w51, w52, w53, w54, w55, w56, w57, w58, w59, w60, w61, w62, w63, w64, w65, w66, w67, w68, w69, w70, w71, w72, w73, w74, w75]))] (zQi (S := Unit) D (fun r_ _ => r_ = (if p1 = (-1) then 0 else (-1))) (fun _ => [])) := by
  refine zent (cc := cX10_add) (maxL := 3) (ret := (some .int)) (by decide) (Nat.le_of_ble_eq_true rfl) ?_
  intro p e s m below meth c A H locs ls hx hb hml hr ht hown hlocks hin hA hK hE hS hW hl
  have hown : s.vm.findClass RX10 = some m.cls := hown
  have hW : zPD D A [(a0, .inr (9, [.int 0, w2, w3, w4, w5, w6, w7, w8, w9, w10, w11, w12, w13, w14, w15, w16, w17, w18, w19, w20, w21, w22, w23, w24, w25, w26, w27, w28, w29, w30, w31, w32, w33, w34, w35, w36, w37, .int 0, w38, w39, w40, w41, w42, w43, w44, w45, w46, w47, w48, w49, w50, w51, w52, w53, w54, w55, w56, w57, w58, w59, w60, w61, w62, w63, w64, w65, w66, w67, w68, w69, w70, w71, w72, w73, w74, w75]))] H := hW
  have hl : lv_has ls 3 [(0, .ref a0), (1, .int p1)] := hl
  refine lv_iload_n hx hb dX10_add_0 rfl (lv_at hl 1 rfl) ?_
  refine lv_iconst (v := (-1)) hx hb dX10_add_1 (by decide) ?_
  refine lv_icmp_ne (tgt := 12) hx hb dX10_add_2 (by decide) (fun c1_ => ?_) (fun c1_ => ?_)
  · have b2_ : (-2147483648) ≤ Int32.toInt p1 ∧ Int32.toInt p1 ≤ 2147483647 := (by have u0 := zbnd p1; have u1 := (not_congr (zi_eq _ _)).mp c1_; have u2 : ((-1) : Int32).toInt = -1 := (by decide); omega)
    refine lv_aload_n hx hb dX10_add_12 rfl (lv_at hl 0 rfl) ?_
    refine lv_iload_n hx hb dX10_add_13 rfl (lv_at hl 1 rfl) ?_
    refine zgo_i (wr := []) (zrunV (As := [.int p1]) (rest := []) ⟨hx, hb, hml, hown, ht⟩ (zc_X10_isWindow_0 l D y a0 p1 w2 w3 w4 w5 w6 w7 w8 w9 w10 w11 w12 w13 w14 w15 w16 w17 w18 w19 w20 w21 w22 w23 w24 w25 w26 w27 w28 w29 w30 w31 w32 w33 w34 w35 w36 w37 (.int 0) w38 w39 w40 w41 w42 w43 w44 w45 w46 w47 w48 w49 w50 w51 w52 w53 w54 w55 w56 w57 w58 w59 w60 w61 w62 w63 w64 w65 w66 w67 w68 w69 w70 w71 w72 w73 w74 w75) (cwV 1 ht (zgV zm_353 zm_354 zm_355 zm_5 zm_356) rfl rfl rfl (by decide +kernel) ⟨(Nat.le_of_ble_eq_true rfl), (Nat.le_of_ble_eq_true rfl)⟩) hK hE hS hA hW [0] (by decide) rfl 0 rfl rfl rfl rfl hl.1 rfl (Nat.le_of_ble_eq_true rfl) dX10_add_14 (Nat.le_of_ble_eq_true rfl) (Nat.le_of_ble_eq_true rfl)) hS hA hW [0] [] rfl rfl (by decide) (by decide) (fun r3_ u H locs hw hW hS => ?_)
    have hW : zPD D A [(a0, .inr (9, [.int 0, w2, w3, w4, w5, w6, w7, w8, w9, w10, w11, w12, w13, w14, w15, w16, w17, w18, w19, w20, w21, w22, w23, w24, w25, w26, w27, w28, w29, w30, w31, w32, w33, w34, w35, w36, w37, .int 0, w38, w39, w40, w41, w42, w43, w44, w45, w46, w47, w48, w49, w50, w51, w52, w53, w54, w55, w56, w57, w58, w59, w60, w61, w62, w63, w64, w65, w66, w67, w68, w69, w70, w71, w72, w73, w74, w75]))] H := hW
    have hw : r3_ = 0 := hw
    subst hw
    refine lv_if_ne (tgt := 22) hx hb dX10_add_17 (by decide) (fun c4_ => absurd (by decide) c4_) (fun c4_ => ?_)
    refine lv_iconst (v := (-1)) hx hb dX10_add_20 (by decide) ?_
    exact zret_i (v := (-1)) hx hb hr hlocks hS () (by show _ = _; rw [if_neg c1_]) (hW.sub [] (by decide) rfl) (Nat.le_of_ble_eq_true rfl) (Nat.le_of_ble_eq_true rfl) dX10_add_21
  · have b5_ : (-1) ≤ Int32.toInt p1 ∧ Int32.toInt p1 ≤ (-1) := (by have u0 := zbnd p1; have u1 := (zi_eq _ _).mp c1_; have u2 : ((-1) : Int32).toInt = -1 := (by decide); omega)
    refine lv_aload_n hx hb dX10_add_5 rfl (lv_at hl 0 rfl) ?_
    refine lv_iconst (v := 0) hx hb dX10_add_6 (by decide) ?_
    refine zput (ws' := [(a0, .inr (9, [.int 0, w2, w3, w4, w5, w6, w7, w8, w9, w10, w11, w12, w13, w14, w15, w16, w17, w18, w19, w20, w21, w22, w23, w24, w25, w26, w27, w28, w29, w30, w31, w32, w33, w34, w35, w36, w37, .int 0, w38, w39, w40, w41, w42, w43, w44, w45, w46, w47, w48, w49, w50, w51, w52, w53, w54, w55, w56, w57, w58, w59, w60, w61, w62, w63, w64, w65, w66, w67, w68, w69, w70, w71, w72, w73, w74, w75]))]) hx hb ht inlX10 tyX10 tyX10_ok nmX10 hown hK hS hW 0 rfl rfl 37 (by decide) zm_177 rfl rfl rfl (Nat.le_of_ble_eq_true rfl) rfl dX10_add_7 (fun H locs hW hS => ?_)
    refine lv_iconst (v := 0) hx hb dX10_add_10 (by decide) ?_
    exact zret_i (v := 0) hx hb hr hlocks hS () (by show _ = _; rw [if_pos c1_]) (hW.sub [] (by decide) rfl) (Nat.le_of_ble_eq_true rfl) (Nat.le_of_ble_eq_true rfl) dX10_add_11
set_option maxHeartbeats 8000000 in
set_option maxRecDepth 100000 in
theorem zc_X9_within_7 (l : Launch) (D : va_G) (y : Nat → ClassId) (p0 : Int32) : zM l D y yX9_within (Cond.code yX9_within cX9_within 3 (some .boolean) :: zT) { frames := 0, cells := 0, slots := 0, locals := 0 } [.int p0, .int 0, .int 2] [] (zQi (S := Unit) D (fun r_ _ => r_ = (if p0 < 0 then 0 else (if 2 < p0 then 0 else 1))) (fun _ => [])) := by
  refine zent (cc := cX9_within) (maxL := 3) (ret := (some .boolean)) (by decide) (Nat.le_of_ble_eq_true rfl) ?_
  intro p e s m below meth c A H locs ls hx hb hml hr ht hown hlocks hin hA hK hE hS hW hl
  have hown : s.vm.findClass RX9 = some m.cls := hown
  have hW : zPD D A [] H := hW
  have hl : lv_has ls 3 [(0, .int p0), (1, .int 0), (2, .int 2)] := hl
  refine lv_iload_n hx hb dX9_within_0 rfl (lv_at hl 0 rfl) ?_
  refine lv_iload_n hx hb dX9_within_1 rfl (lv_at hl 1 rfl) ?_
  refine lv_icmp_lt (tgt := 14) hx hb dX9_within_2 (by decide) (fun c1_ => ?_) (fun c1_ => ?_)
  · have b2_ : (-2147483648) ≤ Int32.toInt p0 ∧ Int32.toInt p0 ≤ (-1) := (by have u0 := zbnd p0; have u1 := (zi_lt _ _).mp c1_; have u2 : (0 : Int32).toInt = 0 := (by decide); omega)
    refine lv_iconst (v := 0) hx hb dX9_within_14 (by decide) ?_
    exact zret_z (v := 0) hx hb hr hlocks hS () rfl (by show _ = _; rw [if_pos c1_]) hW (Nat.le_of_ble_eq_true rfl) (Nat.le_of_ble_eq_true rfl) dX9_within_15
  · have b3_ : 0 ≤ Int32.toInt p0 ∧ Int32.toInt p0 ≤ 2147483647 := (by have u0 := zbnd p0; have u1 := (not_congr (zi_lt _ _)).mp c1_; have u2 : (0 : Int32).toInt = 0 := (by decide); omega)
    refine lv_iload_n hx hb dX9_within_5 rfl (lv_at hl 0 rfl) ?_
    refine lv_iload_n hx hb dX9_within_6 rfl (lv_at hl 2 rfl) ?_
    refine lv_icmp_gt (tgt := 14) hx hb dX9_within_7 (by decide) (fun c4_ => ?_) (fun c4_ => ?_)
    · have b5_ : 3 ≤ Int32.toInt p0 ∧ Int32.toInt p0 ≤ 2147483647 := (by have u0 := b3_; have u1 := (zi_lt _ _).mp c4_; have u2 : (2 : Int32).toInt = 2 := (by decide); omega)
      refine lv_iconst (v := 0) hx hb dX9_within_14 (by decide) ?_
      exact zret_z (v := 0) hx hb hr hlocks hS () rfl (by show _ = _; rw [if_neg c1_, if_pos c4_]) hW (Nat.le_of_ble_eq_true rfl) (Nat.le_of_ble_eq_true rfl) dX9_within_15
    · have b6_ : 0 ≤ Int32.toInt p0 ∧ Int32.toInt p0 ≤ 2 := (by have u0 := b3_; have u1 := (not_congr (zi_lt _ _)).mp c4_; have u2 : (2 : Int32).toInt = 2 := (by decide); omega)
      refine lv_iconst (v := 1) hx hb dX9_within_10 (by decide) ?_
      refine lv_goto (tgt := 15) hx hb dX9_within_11 (by decide) ?_
      exact zret_z (v := 1) hx hb hr hlocks hS () rfl (by show _ = _; rw [if_neg c1_, if_neg c4_]) hW (Nat.le_of_ble_eq_true rfl) (Nat.le_of_ble_eq_true rfl) dX9_within_15
set_option maxHeartbeats 8000000 in
set_option maxRecDepth 100000 in
theorem zc_X1_goAlong_0 (l : Launch) (D : va_G) (y : Nat → ClassId) (a0 : Nat) (a1 : Nat) (a2 : Nat) (w3 : Value) (w4 : Value) (w5 : Value) (w6 : Value) (w7 : Value) (w8 : Value) (w9 : Value) (w10 : Value) (w11 : Value) (w12 : Value) (w13 : Value) (w14 : Value) (w15 : Value) (w16 : Value) (w17 : Value) (w18 : Value) (w19 : Value) (w20 : Value) : zM l D y yX1_goAlong (Cond.code yX1_goAlong cX1_goAlong 10 (some .int) :: zT) { frames := 0, cells := 0, slots := 0, locals := 0 } [.ref a0, .ref a1, .int 0, .int 0, .int 0] [(a0, .inr (1, [.ref a2, w3, w4, w5, w6, w7, w8, w9, w10])), (a2, .inr (6, [w11, w12, w13, w14, w15, w16, .int 0, .int 0, w17, w18, w19, w20]))] (zQi (S := Unit) D (fun r_ _ => r_ = 0) (fun _ => [(a0, .inr (1, [.ref a2, w3, w4, w5, w6, w7, w8, w9, w10])), (a2, .inr (6, [w11, w12, w13, w14, w15, w16, .int 0, .int 0, w17, w18, w19, w20]))])) := by
  refine zent (cc := cX1_goAlong) (maxL := 10) (ret := (some .int)) (by decide) (Nat.le_of_ble_eq_true rfl) ?_
  intro p e s m below meth c A H locs ls hx hb hml hr ht hown hlocks hin hA hK hE hS hW hl
  have hown : s.vm.findClass RX1 = some m.cls := hown
  have hW : zPD D A [(a0, .inr (1, [.ref a2, w3, w4, w5, w6, w7, w8, w9, w10])), (a2, .inr (6, [w11, w12, w13, w14, w15, w16, .int 0, .int 0, w17, w18, w19, w20]))] H := hW
  have hl : lv_has ls 10 [(0, .ref a0), (1, .ref a1), (2, .int 0), (3, .int 0), (4, .int 0)] := hl
  refine lv_iload hx hb dX1_goAlong_0 (lv_at hl 4 rfl) ?_
  refine lv_istore (lv' := [(5, .int 0), (0, .ref a0), (1, .ref a1), (2, .int 0), (3, .int 0), (4, .int 0)]) hx hb dX1_goAlong_2 hl (by decide) rfl (fun ls hl => ?_)
  refine lv_aload_n hx hb dX1_goAlong_4 rfl (lv_at hl 1 rfl) ?_
  refine zget hx hb ht inlX1 hown hK hW 0 rfl rfl 0 (by decide) zm_119 rfl dX1_goAlong_5 ?_
  refine zget hx hb ht inlX7 hown hK hW 1 rfl rfl 6 (by decide) zm_820 rfl dX1_goAlong_8 ?_
  refine lv_istore (lv' := [(6, .int 0), (5, .int 0), (0, .ref a0), (1, .ref a1), (2, .int 0), (3, .int 0), (4, .int 0)]) hx hb dX1_goAlong_11 hl (by decide) rfl (fun ls hl => ?_)
  refine lv_aload_n hx hb dX1_goAlong_13 rfl (lv_at hl 2 rfl) ?_
  refine zget hx hb ht inlX1 hown hK hW 0 rfl rfl 0 (by decide) zm_119 rfl dX1_goAlong_14 ?_
  refine zget hx hb ht inlX7 hown hK hW 1 rfl rfl 7 (by decide) zm_821 rfl dX1_goAlong_17 ?_
  refine lv_istore (lv' := [(7, .int 0), (6, .int 0), (5, .int 0), (0, .ref a0), (1, .ref a1), (2, .int 0), (3, .int 0), (4, .int 0)]) hx hb dX1_goAlong_20 hl (by decide) rfl (fun ls hl => ?_)
  refine lv_iload_n hx hb dX1_goAlong_22 rfl (lv_at hl 5 rfl) ?_
  refine lv_istore (lv' := [(8, .int 0), (7, .int 0), (6, .int 0), (5, .int 0), (0, .ref a0), (1, .ref a1), (2, .int 0), (3, .int 0), (4, .int 0)]) hx hb dX1_goAlong_23 hl (by decide) rfl (fun ls hl => ?_)
  refine lv_iload hx hb dX1_goAlong_25 (lv_at hl 0 rfl) ?_
  refine lv_iload_n hx hb dX1_goAlong_27 rfl (lv_at hl 7 rfl) ?_
  refine lv_icmp_ge (tgt := 126) hx hb dX1_goAlong_28 (by decide) (fun c1_ => ?_) (fun c1_ => absurd (by decide) c1_)
  refine lv_iload hx hb dX1_goAlong_126 (lv_at hl 3 rfl) ?_
  exact zret_i (v := 0) hx hb hr hlocks hS () rfl hW (Nat.le_of_ble_eq_true rfl) (Nat.le_of_ble_eq_true rfl) dX1_goAlong_128
set_option maxHeartbeats 8000000 in
set_option maxRecDepth 100000 in
theorem zc_X1_goRound_0 (l : Launch) (D : va_G) (y : Nat → ClassId) (a0 : Nat) (a1 : Nat) (w2 : Value) (w3 : Value) (w4 : Value) (w5 : Value) (w6 : Value) (w7 : Value) (w8 : Value) (w9 : Value) (w10 : Value) (w11 : Value) (w12 : Value) (w13 : Value) (w14 : Value) (w15 : Value) (a16 : Nat) (w17 : Value) (w18 : Value) (w19 : Value) (w20 : Value) : zM l D y yX1_goRound (Cond.code yX1_goRound cX1_goRound 2 (some .int) :: zT) { frames := 1, cells := 0, slots := 0, locals := 29 } [.ref a0, .int 0] [(a0, .inr (1, [.ref a1, w2, w3, w4, w5, w6, w7, w8, w9])), (a1, .inr (6, [w10, w11, w12, w13, .int 0, w14, .int 0, .int 0, w15, .ref a16, w17, w18])), (a16, .inr (5, [.int 0, w19, w20]))] (zQi (S := Unit) D (fun r_ _ => r_ = 0) (fun _ => [(a0, .inr (1, [.ref a1, w2, w3, w4, w5, w6, w7, w8, w9])), (a1, .inr (6, [w10, w11, w12, w13, .int 0, w14, .int 0, .int 0, w15, .ref a16, w17, w18])), (a16, .inr (5, [.int 0, w19, w20]))])) := by
  refine zent (cc := cX1_goRound) (maxL := 2) (ret := (some .int)) (by decide) (Nat.le_of_ble_eq_true rfl) ?_
  intro p e s m below meth c A H locs ls hx hb hml hr ht hown hlocks hin hA hK hE hS hW hl
  have hown : s.vm.findClass RX1 = some m.cls := hown
  have hW : zPD D A [(a0, .inr (1, [.ref a1, w2, w3, w4, w5, w6, w7, w8, w9])), (a1, .inr (6, [w10, w11, w12, w13, .int 0, w14, .int 0, .int 0, w15, .ref a16, w17, w18])), (a16, .inr (5, [.int 0, w19, w20]))] H := hW
  have hl : lv_has ls 2 [(0, .ref a0), (1, .int 0)] := hl
  refine lv_aload_n hx hb dX1_goRound_0 rfl (lv_at hl 0 rfl) ?_
  refine lv_aload_n hx hb dX1_goRound_1 rfl (lv_at hl 0 rfl) ?_
  refine zget hx hb ht inlX1 hown hK hW 0 rfl rfl 0 (by decide) zm_119 rfl dX1_goRound_2 ?_
  refine zget hx hb ht inlX7 hown hK hW 1 rfl rfl 9 (by decide) zm_813 rfl dX1_goRound_5 ?_
  refine lv_iconst (v := 0) hx hb dX1_goRound_8 (by decide) ?_
  refine lv_aload_n hx hb dX1_goRound_9 rfl (lv_at hl 0 rfl) ?_
  refine zget hx hb ht inlX1 hown hK hW 0 rfl rfl 0 (by decide) zm_119 rfl dX1_goRound_10 ?_
  refine zget hx hb ht inlX7 hown hK hW 1 rfl rfl 9 (by decide) zm_813 rfl dX1_goRound_13 ?_
  refine zget hx hb ht inlX6 hown hK hW 2 rfl rfl 0 (by decide) zm_814 rfl dX1_goRound_16 ?_
  refine lv_aload_n hx hb dX1_goRound_19 rfl (lv_at hl 0 rfl) ?_
  refine zget hx hb ht inlX1 hown hK hW 0 rfl rfl 0 (by decide) zm_119 rfl dX1_goRound_20 ?_
  refine zget hx hb ht inlX7 hown hK hW 1 rfl rfl 4 (by decide) zm_815 rfl dX1_goRound_23 ?_
  refine lv_iload_n hx hb dX1_goRound_26 rfl (lv_at hl 1 rfl) ?_
  refine lv_iadd hx hb dX1_goRound_27 ?_
  refine ztop (w := .int 0) (congrArg Value.int (by decide)) ?_
  refine zgo_i (wr := [(a16, .inr (5, [.int 0, w19, w20]))]) (zrunV (As := [.ref a16, .int 0, .int 0, .int 0]) (rest := []) ⟨hx, hb, hml, hown, ht⟩ (zc_X1_goAlong_0 l D y a0 a16 a1 w2 w3 w4 w5 w6 w7 w8 w9 w10 w11 w12 w13 (.int 0) w14 w15 (.ref a16) w17 w18) (cwV 4 ht (zgV zm_816 zm_817 zm_818 zm_28 zm_819) rfl rfl rfl (by decide +kernel) ⟨(Nat.le_of_ble_eq_true rfl), (Nat.le_of_ble_eq_true rfl)⟩) hK hE hS hA hW [0, 1] (by decide) rfl 0 rfl rfl rfl rfl hl.1 rfl (Nat.le_of_ble_eq_true rfl) dX1_goRound_28 (Nat.le_of_ble_eq_true rfl) (Nat.le_of_ble_eq_true rfl)) hS hA hW [0, 1] [2] rfl rfl (by decide) (by decide) (fun r1_ u H locs hw hW hS => ?_)
  have hW : zPD D A [(a16, .inr (5, [.int 0, w19, w20])), (a0, .inr (1, [.ref a1, w2, w3, w4, w5, w6, w7, w8, w9])), (a1, .inr (6, [w10, w11, w12, w13, .int 0, w14, .int 0, .int 0, w15, .ref a16, w17, w18]))] H := hW
  have hw : r1_ = 0 := hw
  subst hw
  exact zret_i (v := 0) hx hb hr hlocks hS () rfl (hW.sub [1, 2, 0] (by decide) rfl) (Nat.le_of_ble_eq_true rfl) (Nat.le_of_ble_eq_true rfl) dX1_goRound_31
set_option maxHeartbeats 8000000 in
set_option maxRecDepth 100000 in
theorem zc_X1_shutInTime_0 (l : Launch) (D : va_G) (y : Nat → ClassId) (a0 : Nat) (a1 : Nat) (w2 : Value) (w3 : Value) (w4 : Value) (w5 : Value) (w6 : Value) (w7 : Value) (w8 : Value) (w9 : Value) (w10 : Value) (w11 : Value) (w12 : Value) (w13 : Value) (w14 : Value) (w15 : Value) (w16 : Value) (w17 : Value) (w18 : Value) (a19 : Nat) (w20 : Value) (w21 : Value) (w22 : Value) (w23 : Value) : zM l D y yX1_shutInTime (Cond.code yX1_shutInTime cX1_shutInTime 3 (some .int) :: zT) { frames := 0, cells := 0, slots := 0, locals := 0 } [.ref a0] [(a0, .inr (1, [.ref a1, w2, w3, w4, w5, w6, w7, w8, w9])), (a1, .inr (6, [w10, w11, w12, w13, w14, w15, w16, w17, w18, .ref a19, w20, w21])), (a19, .inr (5, [.int 0, w22, w23]))] (zQi (S := Unit) D (fun r_ _ => r_ = 0) (fun _ => [(a0, .inr (1, [.ref a1, w2, w3, w4, w5, w6, w7, w8, w9])), (a1, .inr (6, [w10, w11, w12, w13, w14, w15, w16, w17, w18, .ref a19, w20, w21])), (a19, .inr (5, [.int 0, w22, w23]))])) := by
  refine zent (cc := cX1_shutInTime) (maxL := 3) (ret := (some .int)) (by decide) (Nat.le_of_ble_eq_true rfl) ?_
  intro p e s m below meth c A H locs ls hx hb hml hr ht hown hlocks hin hA hK hE hS hW hl
  have hown : s.vm.findClass RX1 = some m.cls := hown
  have hW : zPD D A [(a0, .inr (1, [.ref a1, w2, w3, w4, w5, w6, w7, w8, w9])), (a1, .inr (6, [w10, w11, w12, w13, w14, w15, w16, w17, w18, .ref a19, w20, w21])), (a19, .inr (5, [.int 0, w22, w23]))] H := hW
  have hl : lv_has ls 3 [(0, .ref a0)] := hl
  refine lv_iconst (v := 0) hx hb dX1_shutInTime_0 (by decide) ?_
  refine lv_istore_n (lv' := [(1, .int 0), (0, .ref a0)]) hx hb dX1_shutInTime_1 rfl hl (by decide) rfl (fun ls hl => ?_)
  refine lv_iconst (v := 0) hx hb dX1_shutInTime_2 (by decide) ?_
  refine lv_istore_n (lv' := [(2, .int 0), (1, .int 0), (0, .ref a0)]) hx hb dX1_shutInTime_3 rfl hl (by decide) rfl (fun ls hl => ?_)
  refine lv_iload_n hx hb dX1_shutInTime_4 rfl (lv_at hl 0 rfl) ?_
  refine lv_aload_n hx hb dX1_shutInTime_5 rfl (lv_at hl 2 rfl) ?_
  refine zget hx hb ht inlX1 hown hK hW 0 rfl rfl 0 (by decide) zm_119 rfl dX1_shutInTime_6 ?_
  refine zget hx hb ht inlX7 hown hK hW 1 rfl rfl 9 (by decide) zm_813 rfl dX1_shutInTime_9 ?_
  refine zget hx hb ht inlX6 hown hK hW 2 rfl rfl 0 (by decide) zm_814 rfl dX1_shutInTime_12 ?_
  refine lv_icmp_ge (tgt := 51) hx hb dX1_shutInTime_15 (by decide) (fun c1_ => ?_) (fun c1_ => absurd (by decide) c1_)
  refine lv_iload_n hx hb dX1_shutInTime_51 rfl (lv_at hl 1 rfl) ?_
  exact zret_i (v := 0) hx hb hr hlocks hS () rfl hW (Nat.le_of_ble_eq_true rfl) (Nat.le_of_ble_eq_true rfl) dX1_shutInTime_52
set_option maxHeartbeats 8000000 in
set_option maxRecDepth 100000 in
theorem zc_X1_stormEnd_0 (l : Launch) (D : va_G) (y : Nat → ClassId) (a0 : Nat) (a1 : Nat) (w2 : Value) (w3 : Value) (w4 : Value) (w5 : Value) (w6 : Value) (w7 : Value) (w8 : Value) (w9 : Value) (w10 : Value) (w11 : Value) (w12 : Value) (w13 : Value) (w14 : Value) (w15 : Value) (w16 : Value) (a17 : Nat) (w18 : Value) (w19 : Value) (w20 : Value) (w21 : Value) (w22 : Value) (w23 : Value) (w24 : Value) (w25 : Value) (w26 : Value) (w27 : Value) : zM l D y yX1_stormEnd (Cond.code yX1_stormEnd cX1_stormEnd 1 (some .int) :: zT) { frames := 0, cells := 0, slots := 0, locals := 0 } [.ref a0] [(a0, .inr (1, [.ref a1, w2, .int 20, w3, w4, w5, w6, w7, w8])), (a1, .inr (6, [w9, w10, w11, w12, w13, w14, w15, w16, .ref a17, w18, w19, w20])), (a17, .inr (2, [w21, .int 15, w22, w23, w24, w25, w26, w27]))] (zQi (S := Unit) D (fun r_ _ => r_ = 35) (fun _ => [(a0, .inr (1, [.ref a1, w2, .int 20, w3, w4, w5, w6, w7, w8])), (a1, .inr (6, [w9, w10, w11, w12, w13, w14, w15, w16, .ref a17, w18, w19, w20])), (a17, .inr (2, [w21, .int 15, w22, w23, w24, w25, w26, w27]))])) := by
  refine zent (cc := cX1_stormEnd) (maxL := 1) (ret := (some .int)) (by decide) (Nat.le_of_ble_eq_true rfl) ?_
  intro p e s m below meth c A H locs ls hx hb hml hr ht hown hlocks hin hA hK hE hS hW hl
  have hown : s.vm.findClass RX1 = some m.cls := hown
  have hW : zPD D A [(a0, .inr (1, [.ref a1, w2, .int 20, w3, w4, w5, w6, w7, w8])), (a1, .inr (6, [w9, w10, w11, w12, w13, w14, w15, w16, .ref a17, w18, w19, w20])), (a17, .inr (2, [w21, .int 15, w22, w23, w24, w25, w26, w27]))] H := hW
  have hl : lv_has ls 1 [(0, .ref a0)] := hl
  refine lv_aload_n hx hb dX1_stormEnd_0 rfl (lv_at hl 0 rfl) ?_
  refine zget hx hb ht inlX1 hown hK hW 0 rfl rfl 2 (by decide) zm_110 rfl dX1_stormEnd_1 ?_
  refine lv_aload_n hx hb dX1_stormEnd_4 rfl (lv_at hl 0 rfl) ?_
  refine zget hx hb ht inlX1 hown hK hW 0 rfl rfl 0 (by decide) zm_119 rfl dX1_stormEnd_5 ?_
  refine zget hx hb ht inlX7 hown hK hW 1 rfl rfl 8 (by decide) zm_290 rfl dX1_stormEnd_8 ?_
  refine zget hx hb ht inlX2 hown hK hW 2 rfl rfl 1 (by decide) zm_291 rfl dX1_stormEnd_11 ?_
  refine lv_iadd hx hb dX1_stormEnd_14 ?_
  refine ztop (w := .int 35) (congrArg Value.int (by decide)) ?_
  exact zret_i (v := 35) hx hb hr hlocks hS () rfl hW (Nat.le_of_ble_eq_true rfl) (Nat.le_of_ble_eq_true rfl) dX1_stormEnd_15
set_option maxHeartbeats 8000000 in
set_option maxRecDepth 100000 in
theorem zc_X1_harmOfAll_1 (l : Launch) (D : va_G) (y : Nat → ClassId) (a0 : Nat) (a1 : Nat) (w2 : Value) (w3 : Value) (w4 : Value) (w5 : Value) (w6 : Value) (w7 : Value) (w8 : Value) (w9 : Value) (w10 : Value) (w11 : Value) (w12 : Value) (w13 : Value) (w14 : Value) (w15 : Value) (w16 : Value) (w17 : Value) (w18 : Value) (w19 : Value) (w20 : Value) : zM l D y yX1_harmOfAll (Cond.code yX1_harmOfAll cX1_harmOfAll 5 (some .int) :: zT) { frames := 0, cells := 0, slots := 0, locals := 0 } [.ref a0, .int 0, .int 35] [(a0, .inr (1, [.ref a1, w2, w3, w4, w5, w6, w7, w8, w9])), (a1, .inr (6, [w10, .int 0, w11, w12, w13, w14, w15, w16, w17, w18, w19, w20]))] (zQi (S := Unit) D (fun r_ _ => r_ = 0) (fun _ => [(a0, .inr (1, [.ref a1, w2, w3, w4, w5, w6, w7, w8, w9])), (a1, .inr (6, [w10, .int 0, w11, w12, w13, w14, w15, w16, w17, w18, w19, w20]))])) := by
  refine zent (cc := cX1_harmOfAll) (maxL := 5) (ret := (some .int)) (by decide) (Nat.le_of_ble_eq_true rfl) ?_
  intro p e s m below meth c A H locs ls hx hb hml hr ht hown hlocks hin hA hK hE hS hW hl
  have hown : s.vm.findClass RX1 = some m.cls := hown
  have hW : zPD D A [(a0, .inr (1, [.ref a1, w2, w3, w4, w5, w6, w7, w8, w9])), (a1, .inr (6, [w10, .int 0, w11, w12, w13, w14, w15, w16, w17, w18, w19, w20]))] H := hW
  have hl : lv_has ls 5 [(0, .ref a0), (1, .int 0), (2, .int 35)] := hl
  refine lv_iconst (v := 0) hx hb dX1_harmOfAll_0 (by decide) ?_
  refine lv_istore_n (lv' := [(3, .int 0), (0, .ref a0), (1, .int 0), (2, .int 35)]) hx hb dX1_harmOfAll_1 rfl hl (by decide) rfl (fun ls hl => ?_)
  refine lv_iconst (v := 0) hx hb dX1_harmOfAll_2 (by decide) ?_
  refine lv_istore (lv' := [(4, .int 0), (3, .int 0), (0, .ref a0), (1, .int 0), (2, .int 35)]) hx hb dX1_harmOfAll_3 hl (by decide) rfl (fun ls hl => ?_)
  refine lv_iload hx hb dX1_harmOfAll_5 (lv_at hl 0 rfl) ?_
  refine lv_aload_n hx hb dX1_harmOfAll_7 rfl (lv_at hl 2 rfl) ?_
  refine zget hx hb ht inlX1 hown hK hW 0 rfl rfl 0 (by decide) zm_119 rfl dX1_harmOfAll_8 ?_
  refine zget hx hb ht inlX7 hown hK hW 1 rfl rfl 1 (by decide) zm_284 rfl dX1_harmOfAll_11 ?_
  refine lv_icmp_ge (tgt := 34) hx hb dX1_harmOfAll_14 (by decide) (fun c1_ => ?_) (fun c1_ => absurd (by decide) c1_)
  refine lv_iload_n hx hb dX1_harmOfAll_34 rfl (lv_at hl 1 rfl) ?_
  exact zret_i (v := 0) hx hb hr hlocks hS () rfl hW (Nat.le_of_ble_eq_true rfl) (Nat.le_of_ble_eq_true rfl) dX1_harmOfAll_35
set_option maxHeartbeats 8000000 in
set_option maxRecDepth 100000 in
theorem zc_X1_cost_0 (l : Launch) (D : va_G) (y : Nat → ClassId) (a0 : Nat) (a1 : Nat) (w2 : Value) (w3 : Value) (w4 : Value) (w5 : Value) (w6 : Value) (w7 : Value) (w8 : Value) (w9 : Value) (w10 : Value) (w11 : Value) (w12 : Value) (w13 : Value) (w14 : Value) (a15 : Nat) (w16 : Value) (w17 : Value) (w18 : Value) (w19 : Value) (w20 : Value) (w21 : Value) (w22 : Value) (w23 : Value) (w24 : Value) (w25 : Value) : zM l D y yX1_cost (Cond.code yX1_cost cX1_cost 1 (some .int) :: zT) { frames := 1, cells := 0, slots := 0, locals := 24 } [.ref a0] [(a0, .inr (1, [.ref a1, w2, .int 20, w3, w4, w5, w6, w7, w8])), (a1, .inr (6, [w9, .int 0, w10, w11, .int 0, w12, w13, w14, .ref a15, w16, w17, w18])), (a15, .inr (2, [w19, .int 15, w20, w21, w22, w23, w24, w25]))] (zQi (S := Unit) D (fun r_ _ => r_ = 0) (fun _ => [(a0, .inr (1, [.ref a1, w2, .int 20, w3, w4, w5, w6, w7, w8])), (a1, .inr (6, [w9, .int 0, w10, w11, .int 0, w12, w13, w14, .ref a15, w16, w17, w18])), (a15, .inr (2, [w19, .int 15, w20, w21, w22, w23, w24, w25]))])) := by
  refine zent (cc := cX1_cost) (maxL := 1) (ret := (some .int)) (by decide) (Nat.le_of_ble_eq_true rfl) ?_
  intro p e s m below meth c A H locs ls hx hb hml hr ht hown hlocks hin hA hK hE hS hW hl
  have hown : s.vm.findClass RX1 = some m.cls := hown
  have hW : zPD D A [(a0, .inr (1, [.ref a1, w2, .int 20, w3, w4, w5, w6, w7, w8])), (a1, .inr (6, [w9, .int 0, w10, w11, .int 0, w12, w13, w14, .ref a15, w16, w17, w18])), (a15, .inr (2, [w19, .int 15, w20, w21, w22, w23, w24, w25]))] H := hW
  have hl : lv_has ls 1 [(0, .ref a0)] := hl
  refine lv_aload_n hx hb dX1_cost_0 rfl (lv_at hl 0 rfl) ?_
  refine lv_aload_n hx hb dX1_cost_1 rfl (lv_at hl 0 rfl) ?_
  refine zget hx hb ht inlX1 hown hK hW 0 rfl rfl 0 (by decide) zm_119 rfl dX1_cost_2 ?_
  refine zget hx hb ht inlX7 hown hK hW 1 rfl rfl 4 (by decide) zm_815 rfl dX1_cost_5 ?_
  refine lv_aload_n hx hb dX1_cost_8 rfl (lv_at hl 0 rfl) ?_
  refine zgo_i (wr := []) (zrunV (As := []) (rest := [.int 0, .ref a0]) ⟨hx, hb, hml, hown, ht⟩ (zc_X1_stormEnd_0 l D y a0 a1 w2 w3 w4 w5 w6 w7 w8 w9 (.int 0) w10 w11 (.int 0) w12 w13 w14 a15 w16 w17 w18 w19 w20 w21 w22 w23 w24 w25) (cwV 0 ht (zgV zm_337 zm_338 zm_339 zm_28 zm_340) rfl rfl rfl (by decide +kernel) ⟨(Nat.le_of_ble_eq_true rfl), (Nat.le_of_ble_eq_true rfl)⟩) hK hE hS hA hW [0, 1, 2] (by decide) rfl 0 rfl rfl rfl rfl hl.1 rfl (Nat.le_of_ble_eq_true rfl) dX1_cost_9 (Nat.le_of_ble_eq_true rfl) (Nat.le_of_ble_eq_true rfl)) hS hA hW [0, 1, 2] [] rfl rfl (by decide) (by decide) (fun r1_ u H locs hw hW hS => ?_)
  have hW : zPD D A [(a0, .inr (1, [.ref a1, w2, .int 20, w3, w4, w5, w6, w7, w8])), (a1, .inr (6, [w9, .int 0, w10, w11, .int 0, w12, w13, w14, .ref a15, w16, w17, w18])), (a15, .inr (2, [w19, .int 15, w20, w21, w22, w23, w24, w25]))] H := hW
  have hw : r1_ = 35 := hw
  subst hw
  refine zgo_i (wr := [(a15, .inr (2, [w19, .int 15, w20, w21, w22, w23, w24, w25]))]) (zrunV (As := [.int 0, .int 35]) (rest := []) ⟨hx, hb, hml, hown, ht⟩ (zc_X1_harmOfAll_1 l D y a0 a1 w2 (.int 20) w3 w4 w5 w6 w7 w8 w9 w10 w11 (.int 0) w12 w13 w14 (.ref a15) w16 w17 w18) (cwV 2 ht (zgV zm_831 zm_733 zm_734 zm_28 zm_735) rfl rfl rfl (by decide +kernel) ⟨(Nat.le_of_ble_eq_true rfl), (Nat.le_of_ble_eq_true rfl)⟩) hK hE hS hA hW [0, 1] (by decide) rfl 0 rfl rfl rfl rfl hl.1 rfl (Nat.le_of_ble_eq_true rfl) dX1_cost_12 (Nat.le_of_ble_eq_true rfl) (Nat.le_of_ble_eq_true rfl)) hS hA hW [0, 1] [2] rfl rfl (by decide) (by decide) (fun r2_ u H locs hw hW hS => ?_)
  have hW : zPD D A [(a15, .inr (2, [w19, .int 15, w20, w21, w22, w23, w24, w25])), (a0, .inr (1, [.ref a1, w2, .int 20, w3, w4, w5, w6, w7, w8])), (a1, .inr (6, [w9, .int 0, w10, w11, .int 0, w12, w13, w14, .ref a15, w16, w17, w18]))] H := hW
  have hw : r2_ = 0 := hw
  subst hw
  exact zret_i (v := 0) hx hb hr hlocks hS () rfl (hW.sub [1, 2, 0] (by decide) rfl) (Nat.le_of_ble_eq_true rfl) (Nat.le_of_ble_eq_true rfl) dX1_cost_15
set_option maxHeartbeats 8000000 in
set_option maxRecDepth 100000 in
theorem zc_X9_round_0 (l : Launch) (D : va_G) (y : Nat → ClassId) (a0 : Nat) (p1 : Int32) (w2 : Value) (w3 : Value) (w4 : Value) (w5 : Value) (w6 : Value) (w7 : Value) (a8 : Nat) (w9 : Value) (w10 : Value) (a11 : Nat) (w12 : Value) (w13 : Value) (w14 : Value) (w15 : Value) (w16 : Value) (a17 : Nat) (w18 : Value) (w19 : Value) (a20 : Nat) (a21 : Nat) (w22 : Value) (w23 : Value) (w24 : Value) (w25 : Value) (w26 : Value) (w27 : Value) (w28 : Value) (w29 : Value) (w30 : Value) (w31 : Value) (w32 : Value) : zM l D y yX9_round (Cond.code yX9_round cX9_round 3 (some .int) :: zT) { frames := 2, cells := 0, slots := 0, locals := 50 } [.ref a0, .int p1] [(a0, .inr (8, [w2, w3, w4, w5, w6, w7, .ref a8, w9, w10])), (a8, .inr (1, [.ref a11, .int 0, .int 0, w12, w13, w14, w15, w16, .ref a17])), (a11, .inr (6, [w18, .int 0, .int 20, .int 0, .int 0, w19, .int 0, .int 0, .ref a20, .ref a21, w22, w23])), (a17, .inl (y 2, 4, .inl (fun _ => 0))), (a20, .inr (2, [w24, .int 15, w25, w26, w27, w28, w29, w30])), (a21, .inr (5, [.int 0, w31, w32]))] (zQi (S := Unit) D (fun r_ _ => r_ = (if p1 < 0 then (-1) else (if 2 < p1 then (-1) else 0))) (fun _ => [])) := by
  refine zent (cc := cX9_round) (maxL := 3) (ret := (some .int)) (by decide) (Nat.le_of_ble_eq_true rfl) ?_
  intro p e s m below meth c A H locs ls hx hb hml hr ht hown hlocks hin hA hK hE hS hW hl
  have hown : s.vm.findClass RX9 = some m.cls := hown
  have hW : zPD D A [(a0, .inr (8, [w2, w3, w4, w5, w6, w7, .ref a8, w9, w10])), (a8, .inr (1, [.ref a11, .int 0, .int 0, w12, w13, w14, w15, w16, .ref a17])), (a11, .inr (6, [w18, .int 0, .int 20, .int 0, .int 0, w19, .int 0, .int 0, .ref a20, .ref a21, w22, w23])), (a17, .inl (y 2, 4, .inl (fun _ => 0))), (a20, .inr (2, [w24, .int 15, w25, w26, w27, w28, w29, w30])), (a21, .inr (5, [.int 0, w31, w32]))] H := hW
  have hl : lv_has ls 3 [(0, .ref a0), (1, .int p1)] := hl
  refine lv_iload_n hx hb dX9_round_0 rfl (lv_at hl 1 rfl) ?_
  refine lv_iconst (v := 0) hx hb dX9_round_1 (by decide) ?_
  refine lv_iconst (v := 2) hx hb dX9_round_2 (by decide) ?_
  refine zgo0_i (zrunS (As := [.int p1, .int 0, .int 2]) (rest := []) ⟨hx, hb, hml, hown, ht⟩ (zc_X9_within_7 l D y p1) (va_cwS 3 ht (zgS zm_222 zm_223 zm_2 zm_224) rfl rfl rfl (by decide +kernel) ⟨(Nat.le_of_ble_eq_true rfl), (Nat.le_of_ble_eq_true rfl)⟩) hK hE hS hA hW [] (by decide) rfl rfl hl.1 rfl (Nat.le_of_ble_eq_true rfl) dX9_round_3 (Nat.le_of_ble_eq_true rfl) (Nat.le_of_ble_eq_true rfl)) hS hA hW (fun r1_ u H locs hw hW hS => ?_)
  have hw : r1_ = (if p1 < 0 then 0 else (if 2 < p1 then 0 else 1)) := hw
  by_cases c2_ : p1 < 0
  · have b3_ : (-2147483648) ≤ Int32.toInt p1 ∧ Int32.toInt p1 ≤ (-1) := (by have u0 := zbnd p1; have u1 := (zi_lt _ _).mp c2_; have u2 : (0 : Int32).toInt = 0 := (by decide); omega)
    rw [if_pos c2_] at hw
    subst hw
    refine lv_if_ne (tgt := 11) hx hb dX9_round_6 (by decide) (fun c4_ => absurd (by decide) c4_) (fun c4_ => ?_)
    refine lv_iconst (v := (-1)) hx hb dX9_round_9 (by decide) ?_
    exact zret_i (v := (-1)) hx hb hr hlocks hS () (by show _ = _; rw [if_pos c2_]) (hW.sub [] (by decide) rfl) (Nat.le_of_ble_eq_true rfl) (Nat.le_of_ble_eq_true rfl) dX9_round_10
  · have b5_ : 0 ≤ Int32.toInt p1 ∧ Int32.toInt p1 ≤ 2147483647 := (by have u0 := zbnd p1; have u1 := (not_congr (zi_lt _ _)).mp c2_; have u2 : (0 : Int32).toInt = 0 := (by decide); omega)
    rw [if_neg c2_] at hw
    by_cases c6_ : 2 < p1
    · have b7_ : 3 ≤ Int32.toInt p1 ∧ Int32.toInt p1 ≤ 2147483647 := (by have u0 := b5_; have u1 := (zi_lt _ _).mp c6_; have u2 : (2 : Int32).toInt = 2 := (by decide); omega)
      rw [if_pos c6_] at hw
      subst hw
      refine lv_if_ne (tgt := 11) hx hb dX9_round_6 (by decide) (fun c8_ => absurd (by decide) c8_) (fun c8_ => ?_)
      refine lv_iconst (v := (-1)) hx hb dX9_round_9 (by decide) ?_
      exact zret_i (v := (-1)) hx hb hr hlocks hS () (by show _ = _; rw [if_neg c2_, if_pos c6_]) (hW.sub [] (by decide) rfl) (Nat.le_of_ble_eq_true rfl) (Nat.le_of_ble_eq_true rfl) dX9_round_10
    · have b9_ : 0 ≤ Int32.toInt p1 ∧ Int32.toInt p1 ≤ 2 := (by have u0 := b5_; have u1 := (not_congr (zi_lt _ _)).mp c6_; have u2 : (2 : Int32).toInt = 2 := (by decide); omega)
      rw [if_neg c6_] at hw
      subst hw
      refine lv_if_ne (tgt := 11) hx hb dX9_round_6 (by decide) (fun c10_ => ?_) (fun c10_ => absurd c10_ (by decide))
      refine lv_aload_n hx hb dX9_round_11 rfl (lv_at hl 0 rfl) ?_
      refine zget hx hb ht inlX9 hown hK hW 0 rfl rfl 6 (by decide) zm_29 rfl dX9_round_12 ?_
      refine zgo_v (wr := [(a0, .inr (8, [w2, w3, w4, w5, w6, w7, .ref a8, w9, w10])), (a20, .inr (2, [w24, .int 15, w25, w26, w27, w28, w29, w30])), (a21, .inr (5, [.int 0, w31, w32]))]) (zrunV (As := []) (rest := []) ⟨hx, hb, hml, hown, ht⟩ (zc_X1_beginFromNow_0 l D y a8 a11 w12 w13 w14 w15 w16 a17 w18 (.int 0) w19 (.int 0) (.int 0) (.ref a20) (.ref a21) w22 w23) (cwV 0 ht (zgV zm_274 zm_275 zm_276 zm_28 zm_277) rfl rfl rfl (by decide +kernel) ⟨(Nat.le_of_ble_eq_true rfl), (Nat.le_of_ble_eq_true rfl)⟩) hK hE hS hA hW [1, 2, 3] (by decide) rfl 0 rfl rfl rfl rfl hl.1 rfl (Nat.le_of_ble_eq_true rfl) dX9_round_15 (Nat.le_of_ble_eq_true rfl) (Nat.le_of_ble_eq_true rfl)) hS hA hW [1, 2, 3] [0, 4, 5] rfl rfl (by decide) (by decide) (fun u H locs hw hW hS => ?_)
      have hW : zPD D A [(a0, .inr (8, [w2, w3, w4, w5, w6, w7, .ref a8, w9, w10])), (a20, .inr (2, [w24, .int 15, w25, w26, w27, w28, w29, w30])), (a21, .inr (5, [.int 0, w31, w32])), (a8, .inr (1, [.ref a11, .int 0, .int 20, w12, w13, w14, w15, w16, .ref a17])), (a11, .inr (6, [w18, .int 0, .int 20, .int 0, .int 0, w19, .int 0, .int 0, .ref a20, .ref a21, w22, w23])), (a17, .inl (y 2, 4, .inl (upd (fun _ => 0) 0 1)))] H := hW
      refine lv_aload_n hx hb dX9_round_18 rfl (lv_at hl 0 rfl) ?_
      refine zget hx hb ht inlX9 hown hK hW 0 rfl rfl 6 (by decide) zm_29 rfl dX9_round_19 ?_
      refine lv_iconst (v := 0) hx hb dX9_round_22 (by decide) ?_
      refine zgo_i (wr := [(a0, .inr (8, [w2, w3, w4, w5, w6, w7, .ref a8, w9, w10])), (a20, .inr (2, [w24, .int 15, w25, w26, w27, w28, w29, w30])), (a17, .inl (y 2, 4, .inl (upd (fun _ => 0) 0 1)))]) (zrunV (As := [.int 0]) (rest := []) ⟨hx, hb, hml, hown, ht⟩ (zc_X1_goRound_0 l D y a8 a11 (.int 0) (.int 20) w12 w13 w14 w15 w16 (.ref a17) w18 (.int 0) (.int 20) (.int 0) w19 (.ref a20) a21 w22 w23 w31 w32) (cwV 1 ht (zgV zm_809 zm_810 zm_811 zm_28 zm_812) rfl rfl rfl (by decide +kernel) ⟨(Nat.le_of_ble_eq_true rfl), (Nat.le_of_ble_eq_true rfl)⟩) hK hE hS hA hW [3, 4, 2] (by decide) rfl 0 rfl rfl rfl rfl hl.1 rfl (Nat.le_of_ble_eq_true rfl) dX9_round_23 (Nat.le_of_ble_eq_true rfl) (Nat.le_of_ble_eq_true rfl)) hS hA hW [3, 4, 2] [0, 1, 5] rfl rfl (by decide) (by decide) (fun r12_ u H locs hw hW hS => ?_)
      have hW : zPD D A [(a0, .inr (8, [w2, w3, w4, w5, w6, w7, .ref a8, w9, w10])), (a20, .inr (2, [w24, .int 15, w25, w26, w27, w28, w29, w30])), (a17, .inl (y 2, 4, .inl (upd (fun _ => 0) 0 1))), (a8, .inr (1, [.ref a11, .int 0, .int 20, w12, w13, w14, w15, w16, .ref a17])), (a11, .inr (6, [w18, .int 0, .int 20, .int 0, .int 0, w19, .int 0, .int 0, .ref a20, .ref a21, w22, w23])), (a21, .inr (5, [.int 0, w31, w32]))] H := hW
      have hw : r12_ = 0 := hw
      subst hw
      refine lv_istore_n (lv' := [(2, .int 0), (0, .ref a0), (1, .int p1)]) hx hb dX9_round_26 rfl hl (by decide) rfl (fun ls hl => ?_)
      refine lv_iload_n hx hb dX9_round_27 rfl (lv_at hl 2 rfl) ?_
      refine lv_if_ne (tgt := 39) hx hb dX9_round_28 (by decide) (fun c13_ => ?_) (fun c13_ => ?_)
      · have b14_ : 1 ≤ Int32.toInt p1 ∧ Int32.toInt p1 ≤ 2 := (by have u0 := b9_; have u1 := (not_congr (zi_eq _ _)).mp c13_; have u2 : (0 : Int32).toInt = 0 := (by decide); omega)
        refine lv_iload_n hx hb dX9_round_39 rfl (lv_at hl 2 rfl) ?_
        refine lv_iconst (v := 1) hx hb dX9_round_40 (by decide) ?_
        refine lv_icmp_ne (tgt := 48) hx hb dX9_round_41 (by decide) (fun c15_ => ?_) (fun c15_ => ?_)
        · have b16_ : 2 ≤ Int32.toInt p1 ∧ Int32.toInt p1 ≤ 2 := (by have u0 := b14_; have u1 := (not_congr (zi_eq _ _)).mp c15_; have u2 : (1 : Int32).toInt = 1 := (by decide); omega)
          refine lv_aload_n hx hb dX9_round_48 rfl (lv_at hl 1 rfl) ?_
          refine zget hx hb ht inlX9 hown hK hW 0 rfl rfl 6 (by decide) zm_29 rfl dX9_round_49 ?_
          refine zgo_i (wr := [(a0, .inr (8, [w2, w3, w4, w5, w6, w7, .ref a8, w9, w10])), (a20, .inr (2, [w24, .int 15, w25, w26, w27, w28, w29, w30])), (a17, .inl (y 2, 4, .inl (upd (fun _ => 0) 0 1)))]) (zrunV (As := []) (rest := []) ⟨hx, hb, hml, hown, ht⟩ (zc_X1_shutInTime_0 l D y a8 a11 (.int 0) (.int 20) w12 w13 w14 w15 w16 (.ref a17) w18 (.int 0) (.int 20) (.int 0) (.int 0) w19 (.int 0) (.int 0) (.ref a20) a21 w22 w23 w31 w32) (cwV 0 ht (zgV zm_832 zm_833 zm_834 zm_28 zm_835) rfl rfl rfl (by decide +kernel) ⟨(Nat.le_of_ble_eq_true rfl), (Nat.le_of_ble_eq_true rfl)⟩) hK hE hS hA hW [3, 4, 5] (by decide) rfl 0 rfl rfl rfl rfl hl.1 rfl (Nat.le_of_ble_eq_true rfl) dX9_round_52 (Nat.le_of_ble_eq_true rfl) (Nat.le_of_ble_eq_true rfl)) hS hA hW [3, 4, 5] [0, 1, 2] rfl rfl (by decide) (by decide) (fun r17_ u H locs hw hW hS => ?_)
          have hW : zPD D A [(a0, .inr (8, [w2, w3, w4, w5, w6, w7, .ref a8, w9, w10])), (a20, .inr (2, [w24, .int 15, w25, w26, w27, w28, w29, w30])), (a17, .inl (y 2, 4, .inl (upd (fun _ => 0) 0 1))), (a8, .inr (1, [.ref a11, .int 0, .int 20, w12, w13, w14, w15, w16, .ref a17])), (a11, .inr (6, [w18, .int 0, .int 20, .int 0, .int 0, w19, .int 0, .int 0, .ref a20, .ref a21, w22, w23])), (a21, .inr (5, [.int 0, w31, w32]))] H := hW
          have hw : r17_ = 0 := hw
          subst hw
          exact zret_i (v := 0) hx hb hr hlocks hS () (by show _ = _; rw [if_neg c2_, if_neg c6_]) (hW.sub [] (by decide) rfl) (Nat.le_of_ble_eq_true rfl) (Nat.le_of_ble_eq_true rfl) dX9_round_55
        · have b18_ : 1 ≤ Int32.toInt p1 ∧ Int32.toInt p1 ≤ 1 := (by have u0 := b14_; have u1 := (zi_eq _ _).mp c15_; have u2 : (1 : Int32).toInt = 1 := (by decide); omega)
          refine lv_iload_n hx hb dX9_round_44 rfl (lv_at hl 0 rfl) ?_
          refine lv_goto (tgt := 55) hx hb dX9_round_45 (by decide) ?_
          exact zret_i (v := 0) hx hb hr hlocks hS () (by show _ = _; rw [if_neg c2_, if_neg c6_]) (hW.sub [] (by decide) rfl) (Nat.le_of_ble_eq_true rfl) (Nat.le_of_ble_eq_true rfl) dX9_round_55
      · have b19_ : 0 ≤ Int32.toInt p1 ∧ Int32.toInt p1 ≤ 0 := (by have u0 := b9_; have u1 := (zi_eq _ _).mp c13_; have u2 : (0 : Int32).toInt = 0 := (by decide); omega)
        refine lv_aload_n hx hb dX9_round_31 rfl (lv_at hl 1 rfl) ?_
        refine zget hx hb ht inlX9 hown hK hW 0 rfl rfl 6 (by decide) zm_29 rfl dX9_round_32 ?_
        refine zgo_i (wr := [(a0, .inr (8, [w2, w3, w4, w5, w6, w7, .ref a8, w9, w10])), (a17, .inl (y 2, 4, .inl (upd (fun _ => 0) 0 1))), (a21, .inr (5, [.int 0, w31, w32]))]) (zrunV (As := []) (rest := []) ⟨hx, hb, hml, hown, ht⟩ (zc_X1_cost_0 l D y a8 a11 (.int 0) w12 w13 w14 w15 w16 (.ref a17) w18 (.int 20) (.int 0) w19 (.int 0) (.int 0) a20 (.ref a21) w22 w23 w24 w25 w26 w27 w28 w29 w30) (cwV 0 ht (zgV zm_827 zm_828 zm_829 zm_28 zm_830) rfl rfl rfl (by decide +kernel) ⟨(Nat.le_of_ble_eq_true rfl), (Nat.le_of_ble_eq_true rfl)⟩) hK hE hS hA hW [3, 4, 1] (by decide) rfl 0 rfl rfl rfl rfl hl.1 rfl (Nat.le_of_ble_eq_true rfl) dX9_round_35 (Nat.le_of_ble_eq_true rfl) (Nat.le_of_ble_eq_true rfl)) hS hA hW [3, 4, 1] [0, 2, 5] rfl rfl (by decide) (by decide) (fun r20_ u H locs hw hW hS => ?_)
        have hW : zPD D A [(a0, .inr (8, [w2, w3, w4, w5, w6, w7, .ref a8, w9, w10])), (a17, .inl (y 2, 4, .inl (upd (fun _ => 0) 0 1))), (a21, .inr (5, [.int 0, w31, w32])), (a8, .inr (1, [.ref a11, .int 0, .int 20, w12, w13, w14, w15, w16, .ref a17])), (a11, .inr (6, [w18, .int 0, .int 20, .int 0, .int 0, w19, .int 0, .int 0, .ref a20, .ref a21, w22, w23])), (a20, .inr (2, [w24, .int 15, w25, w26, w27, w28, w29, w30]))] H := hW
        have hw : r20_ = 0 := hw
        subst hw
        exact zret_i (v := 0) hx hb hr hlocks hS () (by show _ = _; rw [if_neg c2_, if_neg c6_]) (hW.sub [] (by decide) rfl) (Nat.le_of_ble_eq_true rfl) (Nat.le_of_ble_eq_true rfl) dX9_round_38
set_option maxHeartbeats 8000000 in
set_option maxRecDepth 100000 in
theorem zc_X10_in_8 (l : Launch) (D : va_G) (y : Nat → ClassId) (a0 : Nat) (p1 : Int32) (w2 : Value) (w3 : Value) (w4 : Value) (w5 : Value) (w6 : Value) (w7 : Value) (w8 : Value) (w9 : Value) (w10 : Value) (w11 : Value) (w12 : Value) (w13 : Value) (w14 : Value) (w15 : Value) (w16 : Value) (w17 : Value) (w18 : Value) (w19 : Value) (w20 : Value) (w21 : Value) (w22 : Value) (w23 : Value) (w24 : Value) (w25 : Value) (w26 : Value) (w27 : Value) (w28 : Value) (w29 : Value) (w30 : Value) (w31 : Value) (w32 : Value) (w33 : Value) (w34 : Value) (w35 : Value) (w36 : Value) (w37 : Value) (w38 : Value) (w39 : Value) (w40 : Value) (w41 : Value) (w42 : Value) (w43 : Value) (w44 : Value) (w45 : Value) (w46 : Value) (w47 : Value) (w48 : Value) (w49 : Value) (w50 : Value) (w51 : Value) (w52 : Value) (w53 : Value) (w54 : Value) (w55 : Value) (w56 : Value) (w57 : Value) (w58 : Value) (w59 : Value) (w60 : Value) (w61 : Value) (w62 : Value) (w63 : Value) (w64 : Value) (w65 : Value) (w66 : Value) (w67 : Value) (w68 : Value) (w69 : Value) (w70 : Value) (w71 : Value) (w72 : Value) (w73 : Value) (w74 : Value) (w75 : Value) (w76 : Value) (w77 : Value) : zM l D y yX10_in (Cond.code yX10_in cX10_in 4 (some .boolean) :: zT) { frames := 0, cells := 0, slots := 0, locals := 0 } [.ref a0, .int p1, .int 0, .int 2] [(a0, .inr (9, [w2, w3, w4, w5, w6, w7, w8, w9, w10, w11, w12, w13, w14, w15, w16, w17, w18, w19, w20, w21, w22, w23, w24, w25, w26, w27, w28, w29, w30, w31, w32, w33, w34, w35, w36, w37, w38, w39, w40, w41, w42, w43, w44, w45, w46, w47, w48, w49, w50, w51, w52, w53, w54, w55, w56, w57, w58, w59, w60, w61, w62, w63, w64, w65, w66, w67, w68, w69, w70, w71, w72, w73, w74, w75, w76, w77]))] (zQi (S := Unit) D (fun r_ _ => r_ = (if p1 < 0 then 0 else (if 2 < p1 then 0 else 1))) (fun _ => [(a0, .inr (9, [w2, w3, w4, w5, w6, w7, w8, w9, w10, w11, w12, w13, w14, w15, w16, w17, w18, w19, w20, w21, w22, w23, w24, w25, w26, w27, w28, w29, w30, w31, w32, w33, w34, w35, w36, w37, w38, w39, w40, w41, w42, w43, w44, w45, w46, w47, w48, w49, w50, w51, w52, w53, w54, w55, w56, w57, w58, w59, w60, w61, w62, w63, w64, w65, w66, w67, w68, w69, w70, w71, w72, w73, w74, w75, w76, w77]))])) := by
  refine zent (cc := cX10_in) (maxL := 4) (ret := (some .boolean)) (by decide) (Nat.le_of_ble_eq_true rfl) ?_
  intro p e s m below meth c A H locs ls hx hb hml hr ht hown hlocks hin hA hK hE hS hW hl
  have hown : s.vm.findClass RX10 = some m.cls := hown
  have hW : zPD D A [(a0, .inr (9, [w2, w3, w4, w5, w6, w7, w8, w9, w10, w11, w12, w13, w14, w15, w16, w17, w18, w19, w20, w21, w22, w23, w24, w25, w26, w27, w28, w29, w30, w31, w32, w33, w34, w35, w36, w37, w38, w39, w40, w41, w42, w43, w44, w45, w46, w47, w48, w49, w50, w51, w52, w53, w54, w55, w56, w57, w58, w59, w60, w61, w62, w63, w64, w65, w66, w67, w68, w69, w70, w71, w72, w73, w74, w75, w76, w77]))] H := hW
  have hl : lv_has ls 4 [(0, .ref a0), (1, .int p1), (2, .int 0), (3, .int 2)] := hl
  refine lv_iload_n hx hb dX10_in_0 rfl (lv_at hl 1 rfl) ?_
  refine lv_iload_n hx hb dX10_in_1 rfl (lv_at hl 2 rfl) ?_
  refine lv_icmp_lt (tgt := 14) hx hb dX10_in_2 (by decide) (fun c1_ => ?_) (fun c1_ => ?_)
  · have b2_ : (-2147483648) ≤ Int32.toInt p1 ∧ Int32.toInt p1 ≤ (-1) := (by have u0 := zbnd p1; have u1 := (zi_lt _ _).mp c1_; have u2 : (0 : Int32).toInt = 0 := (by decide); omega)
    refine lv_iconst (v := 0) hx hb dX10_in_14 (by decide) ?_
    exact zret_z (v := 0) hx hb hr hlocks hS () rfl (by show _ = _; rw [if_pos c1_]) hW (Nat.le_of_ble_eq_true rfl) (Nat.le_of_ble_eq_true rfl) dX10_in_15
  · have b3_ : 0 ≤ Int32.toInt p1 ∧ Int32.toInt p1 ≤ 2147483647 := (by have u0 := zbnd p1; have u1 := (not_congr (zi_lt _ _)).mp c1_; have u2 : (0 : Int32).toInt = 0 := (by decide); omega)
    refine lv_iload_n hx hb dX10_in_5 rfl (lv_at hl 1 rfl) ?_
    refine lv_iload_n hx hb dX10_in_6 rfl (lv_at hl 3 rfl) ?_
    refine lv_icmp_gt (tgt := 14) hx hb dX10_in_7 (by decide) (fun c4_ => ?_) (fun c4_ => ?_)
    · have b5_ : 3 ≤ Int32.toInt p1 ∧ Int32.toInt p1 ≤ 2147483647 := (by have u0 := b3_; have u1 := (zi_lt _ _).mp c4_; have u2 : (2 : Int32).toInt = 2 := (by decide); omega)
      refine lv_iconst (v := 0) hx hb dX10_in_14 (by decide) ?_
      exact zret_z (v := 0) hx hb hr hlocks hS () rfl (by show _ = _; rw [if_neg c1_, if_pos c4_]) hW (Nat.le_of_ble_eq_true rfl) (Nat.le_of_ble_eq_true rfl) dX10_in_15
    · have b6_ : 0 ≤ Int32.toInt p1 ∧ Int32.toInt p1 ≤ 2 := (by have u0 := b3_; have u1 := (not_congr (zi_lt _ _)).mp c4_; have u2 : (2 : Int32).toInt = 2 := (by decide); omega)
      refine lv_iconst (v := 1) hx hb dX10_in_10 (by decide) ?_
      refine lv_goto (tgt := 15) hx hb dX10_in_11 (by decide) ?_
      exact zret_z (v := 1) hx hb hr hlocks hS () rfl (by show _ = _; rw [if_neg c1_, if_neg c4_]) hW (Nat.le_of_ble_eq_true rfl) (Nat.le_of_ble_eq_true rfl) dX10_in_15
set_option maxHeartbeats 8000000 in
set_option maxRecDepth 100000 in
theorem zc_X10_layRound_0 (l : Launch) (D : va_G) (y : Nat → ClassId) (a0 : Nat) (w1 : Value) (w2 : Value) (w3 : Value) (w4 : Value) (w5 : Value) (w6 : Value) (w7 : Value) (w8 : Value) (w9 : Value) (w10 : Value) (w11 : Value) (w12 : Value) (w13 : Value) (w14 : Value) (w15 : Value) (w16 : Value) (w17 : Value) (w18 : Value) (w19 : Value) (w20 : Value) (w21 : Value) (w22 : Value) (w23 : Value) (w24 : Value) (w25 : Value) (w26 : Value) (w27 : Value) (w28 : Value) (w29 : Value) (w30 : Value) (w31 : Value) (w32 : Value) (w33 : Value) (w34 : Value) (w35 : Value) (a36 : Nat) (a37 : Nat) (w38 : Value) (w39 : Value) (w40 : Value) (w41 : Value) (w42 : Value) (w43 : Value) (w44 : Value) (w45 : Value) (w46 : Value) (w47 : Value) (w48 : Value) (w49 : Value) (w50 : Value) (w51 : Value) (w52 : Value) (w53 : Value) (w54 : Value) (w55 : Value) (w56 : Value) (w57 : Value) (w58 : Value) (w59 : Value) (w60 : Value) (w61 : Value) (w62 : Value) (w63 : Value) (w64 : Value) (w65 : Value) (w66 : Value) (w67 : Value) (w68 : Value) (w69 : Value) (w70 : Value) (w71 : Value) (w72 : Value) (w73 : Value) (w74 : Value) : zM l D y yX10_layRound (Cond.code yX10_layRound cX10_layRound 2 none :: zT) { frames := 0, cells := 0, slots := 0, locals := 0 } [.ref a0] [(a0, .inr (9, [w1, w2, w3, w4, w5, w6, w7, w8, w9, w10, w11, w12, w13, w14, w15, w16, w17, w18, w19, w20, w21, w22, w23, w24, w25, w26, w27, w28, w29, w30, w31, w32, w33, w34, w35, .int 0, .ref a36, .int 0, .ref a37, w38, w39, w40, w41, w42, w43, w44, w45, w46, w47, w48, w49, w50, w51, w52, w53, w54, w55, w56, w57, w58, w59, w60, w61, w62, w63, w64, w65, w66, w67, w68, w69, w70, w71, w72, w73, w74])), (a36, .inl (y 0, 7, .inl (fun _ => 0))), (a37, .inl (y 0, 7, .inl (fun _ => 0)))] (zQv (S := Unit) D (fun _ => True) (fun _ => [(a0, .inr (9, [w1, w2, w3, w4, w5, w6, w7, w8, w9, w10, w11, w12, w13, w14, w15, w16, w17, w18, w19, w20, w21, w22, w23, w24, w25, w26, w27, w28, w29, w30, w31, w32, w33, w34, w35, .int 0, .ref a36, .int 0, .ref a37, w38, w39, w40, w41, w42, w43, w44, w45, w46, w47, w48, w49, w50, w51, w52, w53, w54, w55, w56, w57, w58, w59, w60, w61, w62, w63, w64, w65, w66, w67, w68, w69, w70, w71, w72, w73, w74])), (a36, .inl (y 0, 7, .inl (fun _ => 0))), (a37, .inl (y 0, 7, .inl (fun _ => 0)))])) := by
  refine zent (cc := cX10_layRound) (maxL := 2) (ret := none) (by decide) (Nat.le_of_ble_eq_true rfl) ?_
  intro p e s m below meth c A H locs ls hx hb hml hr ht hown hlocks hin hA hK hE hS hW hl
  have hown : s.vm.findClass RX10 = some m.cls := hown
  have hW : zPD D A [(a0, .inr (9, [w1, w2, w3, w4, w5, w6, w7, w8, w9, w10, w11, w12, w13, w14, w15, w16, w17, w18, w19, w20, w21, w22, w23, w24, w25, w26, w27, w28, w29, w30, w31, w32, w33, w34, w35, .int 0, .ref a36, .int 0, .ref a37, w38, w39, w40, w41, w42, w43, w44, w45, w46, w47, w48, w49, w50, w51, w52, w53, w54, w55, w56, w57, w58, w59, w60, w61, w62, w63, w64, w65, w66, w67, w68, w69, w70, w71, w72, w73, w74])), (a36, .inl (y 0, 7, .inl (fun _ => 0))), (a37, .inl (y 0, 7, .inl (fun _ => 0)))] H := hW
  have hl : lv_has ls 2 [(0, .ref a0)] := hl
  refine lv_aload_n hx hb dX10_layRound_0 rfl (lv_at hl 0 rfl) ?_
  refine lv_aload_n hx hb dX10_layRound_1 rfl (lv_at hl 0 rfl) ?_
  refine zget hx hb ht inlX10 hown hK hW 0 rfl rfl 37 (by decide) zm_177 rfl dX10_layRound_2 ?_
  refine zput (ws' := [(a0, .inr (9, [w1, w2, w3, w4, w5, w6, w7, w8, w9, w10, w11, w12, w13, w14, w15, w16, w17, w18, w19, w20, w21, w22, w23, w24, w25, w26, w27, w28, w29, w30, w31, w32, w33, w34, w35, .int 0, .ref a36, .int 0, .ref a37, w38, w39, w40, w41, w42, w43, w44, w45, w46, w47, w48, w49, w50, w51, w52, w53, w54, w55, w56, w57, w58, w59, w60, w61, w62, w63, w64, w65, w66, w67, w68, w69, w70, w71, w72, w73, w74])), (a36, .inl (y 0, 7, .inl (fun _ => 0))), (a37, .inl (y 0, 7, .inl (fun _ => 0)))]) hx hb ht inlX10 tyX10 tyX10_ok nmX10 hown hK hS hW 0 rfl rfl 35 (by decide) zm_175 rfl rfl rfl (Nat.le_of_ble_eq_true rfl) rfl dX10_layRound_5 (fun H locs hW hS => ?_)
  refine lv_iconst (v := 0) hx hb dX10_layRound_8 (by decide) ?_
  refine lv_istore_n (lv' := [(1, .int 0), (0, .ref a0)]) hx hb dX10_layRound_9 rfl hl (by decide) rfl (fun ls hl => ?_)
  refine lv_iload_n hx hb dX10_layRound_10 rfl (lv_at hl 0 rfl) ?_
  refine lv_bipush (v := 7) hx hb dX10_layRound_11 (by decide) ?_
  refine lv_icmp_ge (tgt := 34) hx hb dX10_layRound_13 (by decide) (fun c1_ => absurd c1_ (by decide)) (fun c1_ => ?_)
  refine lv_aload_n hx hb dX10_layRound_16 rfl (lv_at hl 1 rfl) ?_
  refine zget hx hb ht inlX10 hown hK hW 0 rfl rfl 36 (by decide) zm_176 rfl dX10_layRound_17 ?_
  refine lv_iload_n hx hb dX10_layRound_20 rfl (lv_at hl 0 rfl) ?_
  refine lv_aload_n hx hb dX10_layRound_21 rfl (lv_at hl 1 rfl) ?_
  refine zget hx hb ht inlX10 hown hK hW 0 rfl rfl 38 (by decide) zm_178 rfl dX10_layRound_22 ?_
  refine lv_iload_n hx hb dX10_layRound_25 rfl (lv_at hl 0 rfl) ?_
  refine ziald (v := 0) hx hb hK hW 2 rfl (by unfold vp_in; decide) rfl dX10_layRound_26 ?_
  refine ziast0 hx hb hK hS hW 1 rfl (by unfold vp_in; decide) (zupd0 _) dX10_layRound_27 (fun H locs hW hS => ?_)
  refine lv_iinc (k := 0) (v := 1) (lv' := [(1, .int 1), (0, .ref a0)]) hx hb dX10_layRound_28 hl rfl (by decide) (by decide) rfl (fun ls hl => ?_)
  refine lv_goto (tgt := 10) hx hb dX10_layRound_31 (by decide) ?_
  refine lv_iload_n hx hb dX10_layRound_10 rfl (lv_at hl 0 rfl) ?_
  refine lv_bipush (v := 7) hx hb dX10_layRound_11 (by decide) ?_
  refine lv_icmp_ge (tgt := 34) hx hb dX10_layRound_13 (by decide) (fun c2_ => absurd c2_ (by decide)) (fun c2_ => ?_)
  refine lv_aload_n hx hb dX10_layRound_16 rfl (lv_at hl 1 rfl) ?_
  refine zget hx hb ht inlX10 hown hK hW 0 rfl rfl 36 (by decide) zm_176 rfl dX10_layRound_17 ?_
  refine lv_iload_n hx hb dX10_layRound_20 rfl (lv_at hl 0 rfl) ?_
  refine lv_aload_n hx hb dX10_layRound_21 rfl (lv_at hl 1 rfl) ?_
  refine zget hx hb ht inlX10 hown hK hW 0 rfl rfl 38 (by decide) zm_178 rfl dX10_layRound_22 ?_
  refine lv_iload_n hx hb dX10_layRound_25 rfl (lv_at hl 0 rfl) ?_
  refine ziald (v := 0) hx hb hK hW 2 rfl (by unfold vp_in; decide) rfl dX10_layRound_26 ?_
  refine ziast0 hx hb hK hS hW 1 rfl (by unfold vp_in; decide) (zupd0 _) dX10_layRound_27 (fun H locs hW hS => ?_)
  refine lv_iinc (k := 0) (v := 2) (lv' := [(1, .int 2), (0, .ref a0)]) hx hb dX10_layRound_28 hl rfl (by decide) (by decide) rfl (fun ls hl => ?_)
  refine lv_goto (tgt := 10) hx hb dX10_layRound_31 (by decide) ?_
  refine lv_iload_n hx hb dX10_layRound_10 rfl (lv_at hl 0 rfl) ?_
  refine lv_bipush (v := 7) hx hb dX10_layRound_11 (by decide) ?_
  refine lv_icmp_ge (tgt := 34) hx hb dX10_layRound_13 (by decide) (fun c3_ => absurd c3_ (by decide)) (fun c3_ => ?_)
  refine lv_aload_n hx hb dX10_layRound_16 rfl (lv_at hl 1 rfl) ?_
  refine zget hx hb ht inlX10 hown hK hW 0 rfl rfl 36 (by decide) zm_176 rfl dX10_layRound_17 ?_
  refine lv_iload_n hx hb dX10_layRound_20 rfl (lv_at hl 0 rfl) ?_
  refine lv_aload_n hx hb dX10_layRound_21 rfl (lv_at hl 1 rfl) ?_
  refine zget hx hb ht inlX10 hown hK hW 0 rfl rfl 38 (by decide) zm_178 rfl dX10_layRound_22 ?_
  refine lv_iload_n hx hb dX10_layRound_25 rfl (lv_at hl 0 rfl) ?_
  refine ziald (v := 0) hx hb hK hW 2 rfl (by unfold vp_in; decide) rfl dX10_layRound_26 ?_
  refine ziast0 hx hb hK hS hW 1 rfl (by unfold vp_in; decide) (zupd0 _) dX10_layRound_27 (fun H locs hW hS => ?_)
  refine lv_iinc (k := 0) (v := 3) (lv' := [(1, .int 3), (0, .ref a0)]) hx hb dX10_layRound_28 hl rfl (by decide) (by decide) rfl (fun ls hl => ?_)
  refine lv_goto (tgt := 10) hx hb dX10_layRound_31 (by decide) ?_
  refine lv_iload_n hx hb dX10_layRound_10 rfl (lv_at hl 0 rfl) ?_
  refine lv_bipush (v := 7) hx hb dX10_layRound_11 (by decide) ?_
  refine lv_icmp_ge (tgt := 34) hx hb dX10_layRound_13 (by decide) (fun c4_ => absurd c4_ (by decide)) (fun c4_ => ?_)
  refine lv_aload_n hx hb dX10_layRound_16 rfl (lv_at hl 1 rfl) ?_
  refine zget hx hb ht inlX10 hown hK hW 0 rfl rfl 36 (by decide) zm_176 rfl dX10_layRound_17 ?_
  refine lv_iload_n hx hb dX10_layRound_20 rfl (lv_at hl 0 rfl) ?_
  refine lv_aload_n hx hb dX10_layRound_21 rfl (lv_at hl 1 rfl) ?_
  refine zget hx hb ht inlX10 hown hK hW 0 rfl rfl 38 (by decide) zm_178 rfl dX10_layRound_22 ?_
  refine lv_iload_n hx hb dX10_layRound_25 rfl (lv_at hl 0 rfl) ?_
  refine ziald (v := 0) hx hb hK hW 2 rfl (by unfold vp_in; decide) rfl dX10_layRound_26 ?_
  refine ziast0 hx hb hK hS hW 1 rfl (by unfold vp_in; decide) (zupd0 _) dX10_layRound_27 (fun H locs hW hS => ?_)
  refine lv_iinc (k := 0) (v := 4) (lv' := [(1, .int 4), (0, .ref a0)]) hx hb dX10_layRound_28 hl rfl (by decide) (by decide) rfl (fun ls hl => ?_)
  refine lv_goto (tgt := 10) hx hb dX10_layRound_31 (by decide) ?_
  refine lv_iload_n hx hb dX10_layRound_10 rfl (lv_at hl 0 rfl) ?_
  refine lv_bipush (v := 7) hx hb dX10_layRound_11 (by decide) ?_
  refine lv_icmp_ge (tgt := 34) hx hb dX10_layRound_13 (by decide) (fun c5_ => absurd c5_ (by decide)) (fun c5_ => ?_)
  refine lv_aload_n hx hb dX10_layRound_16 rfl (lv_at hl 1 rfl) ?_
  refine zget hx hb ht inlX10 hown hK hW 0 rfl rfl 36 (by decide) zm_176 rfl dX10_layRound_17 ?_
  refine lv_iload_n hx hb dX10_layRound_20 rfl (lv_at hl 0 rfl) ?_
  refine lv_aload_n hx hb dX10_layRound_21 rfl (lv_at hl 1 rfl) ?_
  refine zget hx hb ht inlX10 hown hK hW 0 rfl rfl 38 (by decide) zm_178 rfl dX10_layRound_22 ?_
  refine lv_iload_n hx hb dX10_layRound_25 rfl (lv_at hl 0 rfl) ?_
  refine ziald (v := 0) hx hb hK hW 2 rfl (by unfold vp_in; decide) rfl dX10_layRound_26 ?_
  refine ziast0 hx hb hK hS hW 1 rfl (by unfold vp_in; decide) (zupd0 _) dX10_layRound_27 (fun H locs hW hS => ?_)
  refine lv_iinc (k := 0) (v := 5) (lv' := [(1, .int 5), (0, .ref a0)]) hx hb dX10_layRound_28 hl rfl (by decide) (by decide) rfl (fun ls hl => ?_)
  refine lv_goto (tgt := 10) hx hb dX10_layRound_31 (by decide) ?_
  refine lv_iload_n hx hb dX10_layRound_10 rfl (lv_at hl 0 rfl) ?_
  refine lv_bipush (v := 7) hx hb dX10_layRound_11 (by decide) ?_
  refine lv_icmp_ge (tgt := 34) hx hb dX10_layRound_13 (by decide) (fun c6_ => absurd c6_ (by decide)) (fun c6_ => ?_)
  refine lv_aload_n hx hb dX10_layRound_16 rfl (lv_at hl 1 rfl) ?_
  refine zget hx hb ht inlX10 hown hK hW 0 rfl rfl 36 (by decide) zm_176 rfl dX10_layRound_17 ?_
  refine lv_iload_n hx hb dX10_layRound_20 rfl (lv_at hl 0 rfl) ?_
  refine lv_aload_n hx hb dX10_layRound_21 rfl (lv_at hl 1 rfl) ?_
  refine zget hx hb ht inlX10 hown hK hW 0 rfl rfl 38 (by decide) zm_178 rfl dX10_layRound_22 ?_
  refine lv_iload_n hx hb dX10_layRound_25 rfl (lv_at hl 0 rfl) ?_
  refine ziald (v := 0) hx hb hK hW 2 rfl (by unfold vp_in; decide) rfl dX10_layRound_26 ?_
  refine ziast0 hx hb hK hS hW 1 rfl (by unfold vp_in; decide) (zupd0 _) dX10_layRound_27 (fun H locs hW hS => ?_)
  refine lv_iinc (k := 0) (v := 6) (lv' := [(1, .int 6), (0, .ref a0)]) hx hb dX10_layRound_28 hl rfl (by decide) (by decide) rfl (fun ls hl => ?_)
  refine lv_goto (tgt := 10) hx hb dX10_layRound_31 (by decide) ?_
  refine lv_iload_n hx hb dX10_layRound_10 rfl (lv_at hl 0 rfl) ?_
  refine lv_bipush (v := 7) hx hb dX10_layRound_11 (by decide) ?_
  refine lv_icmp_ge (tgt := 34) hx hb dX10_layRound_13 (by decide) (fun c7_ => absurd c7_ (by decide)) (fun c7_ => ?_)
  refine lv_aload_n hx hb dX10_layRound_16 rfl (lv_at hl 1 rfl) ?_
  refine zget hx hb ht inlX10 hown hK hW 0 rfl rfl 36 (by decide) zm_176 rfl dX10_layRound_17 ?_
  refine lv_iload_n hx hb dX10_layRound_20 rfl (lv_at hl 0 rfl) ?_
  refine lv_aload_n hx hb dX10_layRound_21 rfl (lv_at hl 1 rfl) ?_
  refine zget hx hb ht inlX10 hown hK hW 0 rfl rfl 38 (by decide) zm_178 rfl dX10_layRound_22 ?_
  refine lv_iload_n hx hb dX10_layRound_25 rfl (lv_at hl 0 rfl) ?_
  refine ziald (v := 0) hx hb hK hW 2 rfl (by unfold vp_in; decide) rfl dX10_layRound_26 ?_
  refine ziast0 hx hb hK hS hW 1 rfl (by unfold vp_in; decide) (zupd0 _) dX10_layRound_27 (fun H locs hW hS => ?_)
  refine lv_iinc (k := 0) (v := 7) (lv' := [(1, .int 7), (0, .ref a0)]) hx hb dX10_layRound_28 hl rfl (by decide) (by decide) rfl (fun ls hl => ?_)
  refine lv_goto (tgt := 10) hx hb dX10_layRound_31 (by decide) ?_
  refine lv_iload_n hx hb dX10_layRound_10 rfl (lv_at hl 0 rfl) ?_
  refine lv_bipush (v := 7) hx hb dX10_layRound_11 (by decide) ?_
  refine lv_icmp_ge (tgt := 34) hx hb dX10_layRound_13 (by decide) (fun c8_ => ?_) (fun c8_ => absurd (by decide) c8_)
  exact zret_v hx hb hr hlocks hS () trivial hW (Nat.le_of_ble_eq_true rfl) (Nat.le_of_ble_eq_true rfl) dX10_layRound_34
set_option maxHeartbeats 8000000 in
set_option maxRecDepth 100000 in
theorem zc_X10_goes_0 (l : Launch) (D : va_G) (y : Nat → ClassId) (a0 : Nat) (w1 : Value) (w2 : Value) (w3 : Value) (w4 : Value) (w5 : Value) (w6 : Value) (w7 : Value) (w8 : Value) (w9 : Value) (w10 : Value) (w11 : Value) (w12 : Value) (w13 : Value) (w14 : Value) (w15 : Value) (w16 : Value) (w17 : Value) (w18 : Value) (w19 : Value) (w20 : Value) (w21 : Value) (w22 : Value) (w23 : Value) (w24 : Value) (w25 : Value) (w26 : Value) (w27 : Value) (w28 : Value) (w29 : Value) (w30 : Value) (w31 : Value) (w32 : Value) (w33 : Value) (w34 : Value) (w35 : Value) (w36 : Value) (w37 : Value) (w38 : Value) (w39 : Value) (w40 : Value) (w41 : Value) (w42 : Value) (w43 : Value) (w44 : Value) (w45 : Value) (w46 : Value) (w47 : Value) (w48 : Value) (w49 : Value) (w50 : Value) (w51 : Value) (w52 : Value) (w53 : Value) (w54 : Value) (w55 : Value) (w56 : Value) (w57 : Value) (w58 : Value) (w59 : Value) (w60 : Value) (w61 : Value) (w62 : Value) (w63 : Value) (w64 : Value) (w65 : Value) (w66 : Value) (w67 : Value) (w68 : Value) (w69 : Value) (w70 : Value) (w71 : Value) (w72 : Value) (w73 : Value) (w74 : Value) : zM l D y yX10_goes (Cond.code yX10_goes cX10_goes 9 (some .int) :: zT) { frames := 0, cells := 0, slots := 0, locals := 0 } [.ref a0, .int 0, .int 0, .int 0] [(a0, .inr (9, [w1, w2, w3, w4, w5, .int 0, .int 0, w6, w7, w8, w9, w10, w11, w12, w13, w14, w15, w16, w17, w18, w19, w20, w21, w22, w23, w24, w25, w26, w27, w28, w29, w30, w31, w32, w33, w34, w35, w36, w37, w38, w39, w40, w41, w42, w43, w44, w45, w46, w47, w48, w49, w50, w51, w52, w53, w54, w55, w56, w57, w58, w59, w60, w61, w62, w63, w64, w65, w66, w67, w68, w69, w70, w71, w72, w73, w74]))] (zQi (S := Unit) D (fun r_ _ => r_ = 0) (fun _ => [(a0, .inr (9, [w1, w2, w3, w4, w5, .int 0, .int 0, w6, w7, w8, w9, w10, w11, w12, w13, w14, w15, w16, w17, w18, w19, w20, w21, w22, w23, w24, w25, w26, w27, w28, w29, w30, w31, w32, w33, w34, w35, w36, w37, w38, w39, w40, w41, w42, w43, w44, w45, w46, w47, w48, w49, w50, w51, w52, w53, w54, w55, w56, w57, w58, w59, w60, w61, w62, w63, w64, w65, w66, w67, w68, w69, w70, w71, w72, w73, w74]))])) := by
  refine zent (cc := cX10_goes) (maxL := 9) (ret := (some .int)) (by decide) (Nat.le_of_ble_eq_true rfl) ?_
  intro p e s m below meth c A H locs ls hx hb hml hr ht hown hlocks hin hA hK hE hS hW hl
  have hown : s.vm.findClass RX10 = some m.cls := hown
  have hW : zPD D A [(a0, .inr (9, [w1, w2, w3, w4, w5, .int 0, .int 0, w6, w7, w8, w9, w10, w11, w12, w13, w14, w15, w16, w17, w18, w19, w20, w21, w22, w23, w24, w25, w26, w27, w28, w29, w30, w31, w32, w33, w34, w35, w36, w37, w38, w39, w40, w41, w42, w43, w44, w45, w46, w47, w48, w49, w50, w51, w52, w53, w54, w55, w56, w57, w58, w59, w60, w61, w62, w63, w64, w65, w66, w67, w68, w69, w70, w71, w72, w73, w74]))] H := hW
  have hl : lv_has ls 9 [(0, .ref a0), (1, .int 0), (2, .int 0), (3, .int 0)] := hl
  refine lv_iload_n hx hb dX10_goes_0 rfl (lv_at hl 3 rfl) ?_
  refine lv_istore (lv' := [(4, .int 0), (0, .ref a0), (1, .int 0), (2, .int 0), (3, .int 0)]) hx hb dX10_goes_1 hl (by decide) rfl (fun ls hl => ?_)
  refine lv_aload_n hx hb dX10_goes_3 rfl (lv_at hl 1 rfl) ?_
  refine zget hx hb ht inlX10 hown hK hW 0 rfl rfl 5 (by decide) zm_145 rfl dX10_goes_4 ?_
  refine lv_istore (lv' := [(5, .int 0), (4, .int 0), (0, .ref a0), (1, .int 0), (2, .int 0), (3, .int 0)]) hx hb dX10_goes_7 hl (by decide) rfl (fun ls hl => ?_)
  refine lv_aload_n hx hb dX10_goes_9 rfl (lv_at hl 2 rfl) ?_
  refine zget hx hb ht inlX10 hown hK hW 0 rfl rfl 6 (by decide) zm_146 rfl dX10_goes_10 ?_
  refine lv_istore (lv' := [(6, .int 0), (5, .int 0), (4, .int 0), (0, .ref a0), (1, .int 0), (2, .int 0), (3, .int 0)]) hx hb dX10_goes_13 hl (by decide) rfl (fun ls hl => ?_)
  refine lv_iload_n hx hb dX10_goes_15 rfl (lv_at hl 4 rfl) ?_
  refine lv_istore (lv' := [(7, .int 0), (6, .int 0), (5, .int 0), (4, .int 0), (0, .ref a0), (1, .int 0), (2, .int 0), (3, .int 0)]) hx hb dX10_goes_16 hl (by decide) rfl (fun ls hl => ?_)
  refine lv_iload hx hb dX10_goes_18 (lv_at hl 0 rfl) ?_
  refine lv_iload_n hx hb dX10_goes_20 rfl (lv_at hl 6 rfl) ?_
  refine lv_icmp_ge (tgt := 101) hx hb dX10_goes_21 (by decide) (fun c1_ => ?_) (fun c1_ => absurd (by decide) c1_)
  refine lv_iload hx hb dX10_goes_101 (lv_at hl 3 rfl) ?_
  exact zret_i (v := 0) hx hb hr hlocks hS () rfl hW (Nat.le_of_ble_eq_true rfl) (Nat.le_of_ble_eq_true rfl) dX10_goes_103
set_option maxHeartbeats 8000000 in
set_option maxRecDepth 100000 in
theorem zc_X10_harmFrom_1 (l : Launch) (D : va_G) (y : Nat → ClassId) (a0 : Nat) (w1 : Value) (w2 : Value) (w3 : Value) (w4 : Value) (w5 : Value) (w6 : Value) (w7 : Value) (w8 : Value) (w9 : Value) (w10 : Value) (w11 : Value) (w12 : Value) (w13 : Value) (w14 : Value) (w15 : Value) (w16 : Value) (w17 : Value) (w18 : Value) (w19 : Value) (w20 : Value) (w21 : Value) (w22 : Value) (w23 : Value) (w24 : Value) (w25 : Value) (w26 : Value) (w27 : Value) (w28 : Value) (w29 : Value) (w30 : Value) (w31 : Value) (w32 : Value) (w33 : Value) (w34 : Value) (w35 : Value) (w36 : Value) (w37 : Value) (w38 : Value) (w39 : Value) (w40 : Value) (w41 : Value) (w42 : Value) (w43 : Value) (w44 : Value) (w45 : Value) (w46 : Value) (w47 : Value) (w48 : Value) (w49 : Value) (w50 : Value) (w51 : Value) (w52 : Value) (w53 : Value) (w54 : Value) (w55 : Value) (w56 : Value) (w57 : Value) (w58 : Value) (w59 : Value) (w60 : Value) (w61 : Value) (w62 : Value) (w63 : Value) (w64 : Value) (w65 : Value) (w66 : Value) (w67 : Value) (w68 : Value) (w69 : Value) (w70 : Value) (w71 : Value) (w72 : Value) (w73 : Value) : zM l D y yX10_harmFrom (Cond.code yX10_harmFrom cX10_harmFrom 5 (some .int) :: zT) { frames := 3, cells := 0, slots := 0, locals := 64 } [.ref a0, .int 0, .int 35] [(a0, .inr (9, [.int 0, w1, w2, .int 20, w3, w4, w5, w6, w7, w8, w9, w10, w11, w12, w13, .int (-1), w14, w15, w16, w17, w18, w19, w20, w21, w22, w23, w24, w25, w26, w27, w28, w29, w30, w31, w32, w33, w34, w35, w36, w37, w38, w39, w40, w41, w42, w43, w44, w45, w46, w47, w48, w49, w50, w51, w52, w53, w54, w55, w56, w57, w58, w59, w60, w61, w62, w63, w64, w65, w66, w67, w68, w69, w70, w71, w72, w73]))] (zQi (S := Unit) D (fun r_ _ => r_ = 0) (fun _ => [(a0, .inr (9, [.int 0, w1, w2, .int 20, w3, w4, w5, w6, w7, w8, w9, w10, w11, w12, w13, .int (-1), w14, w15, w16, w17, w18, w19, w20, w21, w22, w23, w24, w25, w26, w27, w28, w29, w30, w31, w32, w33, w34, w35, w36, w37, w38, w39, w40, w41, w42, w43, w44, w45, w46, w47, w48, w49, w50, w51, w52, w53, w54, w55, w56, w57, w58, w59, w60, w61, w62, w63, w64, w65, w66, w67, w68, w69, w70, w71, w72, w73]))])) := by
  refine zent (cc := cX10_harmFrom) (maxL := 5) (ret := (some .int)) (by decide) (Nat.le_of_ble_eq_true rfl) ?_
  intro p e s m below meth c A H locs ls hx hb hml hr ht hown hlocks hin hA hK hE hS hW hl
  have hown : s.vm.findClass RX10 = some m.cls := hown
  replace hW : zPD D A [(a0, .inr (9, [.int 0, w1, w2, .int 20, w3, w4, w5, w6, w7, w8, w9, w10, w11, w12, w13, .int (-1), w14, w15, w16, w17, w18, w19, w20, w21, w22, w23, w24, w25, w26, w27, w28, w29, w30, w31, w32, w33, w34, w35, w36, w37, w38, w39, w40, w41, w42, w43, w44, w45, w46, w47, w48, w49, w50, w51, w52, w53, w54, w55, w56, w57, w58, w59, w60, w61, w62, w63, w64, w65, w66, w67, w68, w69, w70, w71, w72, w73]))] H := hW
  replace hl : lv_has ls 5 [(0, .ref a0), (1, .int 0), (2, .int 35)] := hl
  refine lv_iconst (v := 0) hx hb dX10_harmFrom_0 (by decide) ?_
  refine lv_istore_n (lv' := [(3, .int 0), (0, .ref a0), (1, .int 0), (2, .int 35)]) hx hb dX10_harmFrom_1 rfl hl (by decide) rfl (fun ls hl => ?_)
  refine lv_iload_n hx hb dX10_harmFrom_2 rfl (lv_at hl 2 rfl) ?_
  refine lv_aload_n hx hb dX10_harmFrom_3 rfl (lv_at hl 1 rfl) ?_
  refine zget hx hb ht inlX10 hown hK hW 0 rfl rfl 3 (by decide) zm_143 rfl dX10_harmFrom_4 ?_
  refine lv_icmp_ge (tgt := 17) hx hb dX10_harmFrom_7 (by decide) (fun c1_ => absurd c1_ (by decide)) (fun c1_ => ?_)
  refine lv_aload_n hx hb dX10_harmFrom_10 rfl (lv_at hl 1 rfl) ?_
  refine zget hx hb ht inlX10 hown hK hW 0 rfl rfl 3 (by decide) zm_143 rfl dX10_harmFrom_11 ?_
  refine lv_goto (tgt := 18) hx hb dX10_harmFrom_14 (by decide) ?_
  refine lv_istore (lv' := [(4, .int 20), (3, .int 0), (0, .ref a0), (1, .int 0), (2, .int 35)]) hx hb dX10_harmFrom_18 hl (by decide) rfl (fun ls hl => ?_)
  obtain ⟨x2_, ex2_⟩ : ∃ z : Int32, z = 20 := ⟨_, rfl⟩
  obtain ⟨n20_, hI20_⟩ : ∃ n : Nat, (0 ≤ Int32.toInt x2_ ∧ Int32.toInt x2_ ≤ 250) ∧ (250 - Int32.toInt x2_ < (n : Int)) ∧ zPD D A [(a0, .inr (9, [.int 0, w1, w2, .int 20, w3, w4, w5, w6, w7, w8, w9, w10, w11, w12, w13, .int (-1), w14, w15, w16, w17, w18, w19, w20, w21, w22, w23, w24, w25, w26, w27, w28, w29, w30, w31, w32, w33, w34, w35, w36, w37, w38, w39, w40, w41, w42, w43, w44, w45, w46, w47, w48, w49, w50, w51, w52, w53, w54, w55, w56, w57, w58, w59, w60, w61, w62, w63, w64, w65, w66, w67, w68, w69, w70, w71, w72, w73]))] H ∧ va_S A s.heap H locs ∧ lv_has ls 5 [(4, .int x2_), (3, .int 0), (0, .ref a0), (1, .int 0), (2, .int 35)] := ⟨(250 - Int32.toInt x2_ + 1).toNat, by rw [ex2_]; exact (by decide), by omega, by (try rw [ex2_]); exact hW, hS, by (try rw [ex2_]); exact hl⟩
  clear hW hS hl ex2_
  induction n20_ generalizing x2_ H locs ls with
  | zero => obtain ⟨bx2_, hn, -⟩ := hI20_; exact absurd hn (by omega)
  | succ n ih =>
    obtain ⟨bx2_, hn, hW, hS, hl⟩ := hI20_
    refine lv_iload hx hb dX10_harmFrom_20 (lv_at hl 0 rfl) ?_
    refine lv_iload_n hx hb dX10_harmFrom_22 rfl (lv_at hl 4 rfl) ?_
    refine lv_icmp_ge (tgt := 55) hx hb dX10_harmFrom_23 (by decide) (fun c3_ => ?_) (fun c3_ => ?_)
    · have b4_ : 35 ≤ Int32.toInt x2_ ∧ Int32.toInt x2_ ≤ 250 := (by have u0 := bx2_; have u1 := (zi_le _ _).mp c3_; have u2 : (35 : Int32).toInt = 35 := (by decide); omega)
      refine lv_iload_n hx hb dX10_harmFrom_55 rfl (lv_at hl 1 rfl) ?_
      exact zret_i (v := 0) hx hb hr hlocks hS () rfl hW (Nat.le_of_ble_eq_true rfl) (Nat.le_of_ble_eq_true rfl) dX10_harmFrom_56
    · have b5_ : 0 ≤ Int32.toInt x2_ ∧ Int32.toInt x2_ ≤ 34 := (by have u0 := bx2_; have u1 := (not_congr (zi_le _ _)).mp c3_; have u2 : (35 : Int32).toInt = 35 := (by decide); omega)
      refine lv_iload hx hb dX10_harmFrom_26 (lv_at hl 0 rfl) ?_
      refine lv_aload_n hx hb dX10_harmFrom_28 rfl (lv_at hl 2 rfl) ?_
      refine zget hx hb ht inlX10 hown hK hW 0 rfl rfl 3 (by decide) zm_143 rfl dX10_harmFrom_29 ?_
      refine lv_aload_n hx hb dX10_harmFrom_32 rfl (lv_at hl 2 rfl) ?_
      refine zgo_i (wr := []) (zrunV (As := []) (rest := [.int 20, .int x2_]) ⟨hx, hb, hml, hown, ht⟩ (zc_X10_lastNow_0 l D y a0 (.int 0) w1 w2 (.int 20) w3 w4 w5 w6 w7 w8 w9 w10 w11 w12 w13 w14 w15 w16 w17 w18 w19 w20 w21 w22 w23 w24 w25 w26 w27 w28 w29 w30 w31 w32 w33 w34 w35 w36 w37 w38 w39 w40 w41 w42 w43 w44 w45 w46 w47 w48 w49 w50 w51 w52 w53 w54 w55 w56 w57 w58 w59 w60 w61 w62 w63 w64 w65 w66 w67 w68 w69 w70 w71 w72 w73) (cwV 0 ht (zgV zm_381 zm_382 zm_383 zm_5 zm_384) rfl rfl rfl (by decide +kernel) ⟨(Nat.le_of_ble_eq_true rfl), (Nat.le_of_ble_eq_true rfl)⟩) hK hE hS hA hW [0] (by decide) rfl 0 rfl rfl rfl rfl hl.1 rfl (Nat.le_of_ble_eq_true rfl) dX10_harmFrom_33 (Nat.le_of_ble_eq_true rfl) (Nat.le_of_ble_eq_true rfl)) hS hA hW [0] [] rfl rfl (by decide) (by decide) (fun r6_ u H locs hw hW hS => ?_)
      replace hW : zPD D A [(a0, .inr (9, [.int 0, w1, w2, .int 20, w3, w4, w5, w6, w7, w8, w9, w10, w11, w12, w13, .int (-1), w14, w15, w16, w17, w18, w19, w20, w21, w22, w23, w24, w25, w26, w27, w28, w29, w30, w31, w32, w33, w34, w35, w36, w37, w38, w39, w40, w41, w42, w43, w44, w45, w46, w47, w48, w49, w50, w51, w52, w53, w54, w55, w56, w57, w58, w59, w60, w61, w62, w63, w64, w65, w66, w67, w68, w69, w70, w71, w72, w73]))] H := hW
      have hw : r6_ = 15 := hw
      subst hw
      refine lv_iadd hx hb dX10_harmFrom_36 ?_
      refine ztop (w := .int 35) (congrArg Value.int (by decide)) ?_
      refine lv_icmp_ge (tgt := 55) hx hb dX10_harmFrom_37 (by decide) (fun c7_ => absurd c7_ c3_) (fun c7_ => ?_)
      refine lv_iload_n hx hb dX10_harmFrom_40 rfl (lv_at hl 1 rfl) ?_
      refine lv_aload_n hx hb dX10_harmFrom_41 rfl (lv_at hl 2 rfl) ?_
      refine lv_iload hx hb dX10_harmFrom_42 (lv_at hl 0 rfl) ?_
      refine zgo_i (wr := []) (zrunV (As := [.int x2_]) (rest := [.int 0]) ⟨hx, hb, hml, hown, ht⟩ (zc_X10_harmAt_0 l D y a0 x2_ w1 w2 (.int 20) w3 w4 w5 w6 w7 w8 w9 w10 w11 w12 w13 (.int (-1)) w14 w15 w16 w17 w18 w19 w20 w21 w22 w23 w24 w25 w26 w27 w28 w29 w30 w31 w32 w33 w34 w35 w36 w37 w38 w39 w40 w41 w42 w43 w44 w45 w46 w47 w48 w49 w50 w51 w52 w53 w54 w55 w56 w57 w58 w59 w60 w61 w62 w63 w64 w65 w66 w67 w68 w69 w70 w71 w72 w73) (cwV 1 ht (zgV zm_750 zm_751 zm_752 zm_5 zm_753) rfl rfl rfl (by decide +kernel) ⟨(Nat.le_of_ble_eq_true rfl), (Nat.le_of_ble_eq_true rfl)⟩) hK hE hS hA hW [0] (by decide) rfl 0 rfl rfl rfl rfl hl.1 rfl (Nat.le_of_ble_eq_true rfl) dX10_harmFrom_44 (Nat.le_of_ble_eq_true rfl) (Nat.le_of_ble_eq_true rfl)) hS hA hW [0] [] rfl rfl (by decide) (by decide) (fun r8_ u H locs hw hW hS => ?_)
      replace hW : zPD D A [(a0, .inr (9, [.int 0, w1, w2, .int 20, w3, w4, w5, w6, w7, w8, w9, w10, w11, w12, w13, .int (-1), w14, w15, w16, w17, w18, w19, w20, w21, w22, w23, w24, w25, w26, w27, w28, w29, w30, w31, w32, w33, w34, w35, w36, w37, w38, w39, w40, w41, w42, w43, w44, w45, w46, w47, w48, w49, w50, w51, w52, w53, w54, w55, w56, w57, w58, w59, w60, w61, w62, w63, w64, w65, w66, w67, w68, w69, w70, w71, w72, w73]))] H := hW
      have hw : r8_ = 0 := hw
      subst hw
      refine lv_iadd hx hb dX10_harmFrom_47 ?_
      refine ztop (w := .int 0) (congrArg Value.int (by decide)) ?_
      refine lv_istore_n (lv' := [(3, .int 0), (4, .int x2_), (0, .ref a0), (1, .int 0), (2, .int 35)]) hx hb dX10_harmFrom_48 rfl hl (by decide) rfl (fun ls hl => ?_)
      refine lv_iinc (k := 1) (v := (x2_ + 1)) (lv' := [(4, .int (x2_ + 1)), (3, .int 0), (0, .ref a0), (1, .int 0), (2, .int 35)]) hx hb dX10_harmFrom_49 hl rfl (by rfl) (by decide) rfl (fun ls hl => ?_)
      refine lv_goto (tgt := 20) hx hb dX10_harmFrom_52 (by decide) ?_
      have b9_ : 1 ≤ Int32.toInt (x2_ + 1) ∧ Int32.toInt (x2_ + 1) ≤ 35 := by have u0 := b5_; have u1 := zadd_1 x2_ (by omega); omega
      exact ih _ _ _ _ ⟨(by have u0 := b9_; omega), by have u0 := zadd_1 x2_ (by have u0 := b5_; omega); omega, hW, hS, (lv_sub hl [0, 1, 2, 3, 4] rfl)⟩
set_option maxHeartbeats 8000000 in
set_option maxRecDepth 100000 in
theorem zc_X10_harmTillEnd_0 (l : Launch) (D : va_G) (y : Nat → ClassId) (a0 : Nat) (w1 : Value) (w2 : Value) (w3 : Value) (w4 : Value) (w5 : Value) (w6 : Value) (w7 : Value) (w8 : Value) (w9 : Value) (w10 : Value) (w11 : Value) (w12 : Value) (w13 : Value) (w14 : Value) (w15 : Value) (w16 : Value) (w17 : Value) (w18 : Value) (w19 : Value) (w20 : Value) (w21 : Value) (w22 : Value) (w23 : Value) (w24 : Value) (w25 : Value) (w26 : Value) (w27 : Value) (w28 : Value) (w29 : Value) (w30 : Value) (w31 : Value) (w32 : Value) (w33 : Value) (w34 : Value) (w35 : Value) (w36 : Value) (w37 : Value) (w38 : Value) (w39 : Value) (w40 : Value) (w41 : Value) (w42 : Value) (w43 : Value) (w44 : Value) (w45 : Value) (w46 : Value) (w47 : Value) (w48 : Value) (w49 : Value) (w50 : Value) (w51 : Value) (w52 : Value) (w53 : Value) (w54 : Value) (w55 : Value) (w56 : Value) (w57 : Value) (w58 : Value) (w59 : Value) (w60 : Value) (w61 : Value) (w62 : Value) (w63 : Value) (w64 : Value) (w65 : Value) (w66 : Value) (w67 : Value) (w68 : Value) (w69 : Value) (w70 : Value) (w71 : Value) (w72 : Value) : zM l D y yX10_harmTillEnd (Cond.code yX10_harmTillEnd cX10_harmTillEnd 1 (some .int) :: zT) { frames := 4, cells := 0, slots := 0, locals := 88 } [.ref a0] [(a0, .inr (9, [.int 0, .int 0, w1, .int 20, w2, w3, w4, w5, w6, w7, w8, w9, w10, w11, w12, .int (-1), w13, w14, w15, w16, w17, w18, w19, w20, w21, w22, w23, w24, w25, w26, w27, w28, w29, w30, w31, w32, w33, w34, w35, w36, w37, w38, w39, w40, w41, w42, w43, w44, w45, w46, w47, w48, w49, w50, w51, w52, w53, w54, w55, w56, w57, w58, w59, w60, w61, w62, w63, w64, w65, w66, w67, w68, w69, w70, w71, w72]))] (zQi (S := Unit) D (fun r_ _ => r_ = 0) (fun _ => [(a0, .inr (9, [.int 0, .int 0, w1, .int 20, w2, w3, w4, w5, w6, w7, w8, w9, w10, w11, w12, .int (-1), w13, w14, w15, w16, w17, w18, w19, w20, w21, w22, w23, w24, w25, w26, w27, w28, w29, w30, w31, w32, w33, w34, w35, w36, w37, w38, w39, w40, w41, w42, w43, w44, w45, w46, w47, w48, w49, w50, w51, w52, w53, w54, w55, w56, w57, w58, w59, w60, w61, w62, w63, w64, w65, w66, w67, w68, w69, w70, w71, w72]))])) := by
  refine zent (cc := cX10_harmTillEnd) (maxL := 1) (ret := (some .int)) (by decide) (Nat.le_of_ble_eq_true rfl) ?_
  intro p e s m below meth c A H locs ls hx hb hml hr ht hown hlocks hin hA hK hE hS hW hl
  have hown : s.vm.findClass RX10 = some m.cls := hown
  have hW : zPD D A [(a0, .inr (9, [.int 0, .int 0, w1, .int 20, w2, w3, w4, w5, w6, w7, w8, w9, w10, w11, w12, .int (-1), w13, w14, w15, w16, w17, w18, w19, w20, w21, w22, w23, w24, w25, w26, w27, w28, w29, w30, w31, w32, w33, w34, w35, w36, w37, w38, w39, w40, w41, w42, w43, w44, w45, w46, w47, w48, w49, w50, w51, w52, w53, w54, w55, w56, w57, w58, w59, w60, w61, w62, w63, w64, w65, w66, w67, w68, w69, w70, w71, w72]))] H := hW
  have hl : lv_has ls 1 [(0, .ref a0)] := hl
  refine lv_aload_n hx hb dX10_harmTillEnd_0 rfl (lv_at hl 0 rfl) ?_
  refine lv_aload_n hx hb dX10_harmTillEnd_1 rfl (lv_at hl 0 rfl) ?_
  refine zget hx hb ht inlX10 hown hK hW 0 rfl rfl 1 (by decide) zm_141 rfl dX10_harmTillEnd_2 ?_
  refine lv_aload_n hx hb dX10_harmTillEnd_5 rfl (lv_at hl 0 rfl) ?_
  refine zget hx hb ht inlX10 hown hK hW 0 rfl rfl 3 (by decide) zm_143 rfl dX10_harmTillEnd_6 ?_
  refine lv_aload_n hx hb dX10_harmTillEnd_9 rfl (lv_at hl 0 rfl) ?_
  refine zgo_i (wr := []) (zrunV (As := []) (rest := [.int 20, .int 0, .ref a0]) ⟨hx, hb, hml, hown, ht⟩ (zc_X10_lastNow_0 l D y a0 (.int 0) (.int 0) w1 (.int 20) w2 w3 w4 w5 w6 w7 w8 w9 w10 w11 w12 w13 w14 w15 w16 w17 w18 w19 w20 w21 w22 w23 w24 w25 w26 w27 w28 w29 w30 w31 w32 w33 w34 w35 w36 w37 w38 w39 w40 w41 w42 w43 w44 w45 w46 w47 w48 w49 w50 w51 w52 w53 w54 w55 w56 w57 w58 w59 w60 w61 w62 w63 w64 w65 w66 w67 w68 w69 w70 w71 w72) (cwV 0 ht (zgV zm_381 zm_382 zm_383 zm_5 zm_384) rfl rfl rfl (by decide +kernel) ⟨(Nat.le_of_ble_eq_true rfl), (Nat.le_of_ble_eq_true rfl)⟩) hK hE hS hA hW [0] (by decide) rfl 0 rfl rfl rfl rfl hl.1 rfl (Nat.le_of_ble_eq_true rfl) dX10_harmTillEnd_10 (Nat.le_of_ble_eq_true rfl) (Nat.le_of_ble_eq_true rfl)) hS hA hW [0] [] rfl rfl (by decide) (by decide) (fun r1_ u H locs hw hW hS => ?_)
  have hW : zPD D A [(a0, .inr (9, [.int 0, .int 0, w1, .int 20, w2, w3, w4, w5, w6, w7, w8, w9, w10, w11, w12, .int (-1), w13, w14, w15, w16, w17, w18, w19, w20, w21, w22, w23, w24, w25, w26, w27, w28, w29, w30, w31, w32, w33, w34, w35, w36, w37, w38, w39, w40, w41, w42, w43, w44, w45, w46, w47, w48, w49, w50, w51, w52, w53, w54, w55, w56, w57, w58, w59, w60, w61, w62, w63, w64, w65, w66, w67, w68, w69, w70, w71, w72]))] H := hW
  have hw : r1_ = 15 := hw
  subst hw
  refine lv_iadd hx hb dX10_harmTillEnd_13 ?_
  refine ztop (w := .int 35) (congrArg Value.int (by decide)) ?_
  refine zgo_i (wr := []) (zrunV (As := [.int 0, .int 35]) (rest := []) ⟨hx, hb, hml, hown, ht⟩ (zc_X10_harmFrom_1 l D y a0 (.int 0) w1 w2 w3 w4 w5 w6 w7 w8 w9 w10 w11 w12 w13 w14 w15 w16 w17 w18 w19 w20 w21 w22 w23 w24 w25 w26 w27 w28 w29 w30 w31 w32 w33 w34 w35 w36 w37 w38 w39 w40 w41 w42 w43 w44 w45 w46 w47 w48 w49 w50 w51 w52 w53 w54 w55 w56 w57 w58 w59 w60 w61 w62 w63 w64 w65 w66 w67 w68 w69 w70 w71 w72) (cwV 2 ht (zgV zm_746 zm_747 zm_748 zm_5 zm_749) rfl rfl rfl (by decide +kernel) ⟨(Nat.le_of_ble_eq_true rfl), (Nat.le_of_ble_eq_true rfl)⟩) hK hE hS hA hW [0] (by decide) rfl 0 rfl rfl rfl rfl hl.1 rfl (Nat.le_of_ble_eq_true rfl) dX10_harmTillEnd_14 (Nat.le_of_ble_eq_true rfl) (Nat.le_of_ble_eq_true rfl)) hS hA hW [0] [] rfl rfl (by decide) (by decide) (fun r2_ u H locs hw hW hS => ?_)
  have hW : zPD D A [(a0, .inr (9, [.int 0, .int 0, w1, .int 20, w2, w3, w4, w5, w6, w7, w8, w9, w10, w11, w12, .int (-1), w13, w14, w15, w16, w17, w18, w19, w20, w21, w22, w23, w24, w25, w26, w27, w28, w29, w30, w31, w32, w33, w34, w35, w36, w37, w38, w39, w40, w41, w42, w43, w44, w45, w46, w47, w48, w49, w50, w51, w52, w53, w54, w55, w56, w57, w58, w59, w60, w61, w62, w63, w64, w65, w66, w67, w68, w69, w70, w71, w72]))] H := hW
  have hw : r2_ = 0 := hw
  subst hw
  exact zret_i (v := 0) hx hb hr hlocks hS () rfl hW (Nat.le_of_ble_eq_true rfl) (Nat.le_of_ble_eq_true rfl) dX10_harmTillEnd_17
set_option maxHeartbeats 8000000 in
set_option maxRecDepth 100000 in
theorem zc_X10_costOfPath_0 (l : Launch) (D : va_G) (y : Nat → ClassId) (a0 : Nat) (w1 : Value) (w2 : Value) (w3 : Value) (w4 : Value) (w5 : Value) (w6 : Value) (w7 : Value) (w8 : Value) (a9 : Nat) (w10 : Value) (w11 : Value) (w12 : Value) (w13 : Value) (w14 : Value) (w15 : Value) (w16 : Value) (w17 : Value) (w18 : Value) (w19 : Value) (w20 : Value) (w21 : Value) (w22 : Value) (w23 : Value) (w24 : Value) (w25 : Value) (w26 : Value) (w27 : Value) (w28 : Value) (a29 : Nat) (w30 : Value) (w31 : Value) (w32 : Value) (w33 : Value) (w34 : Value) (w35 : Value) (w36 : Value) (w37 : Value) (w38 : Value) (w39 : Value) (w40 : Value) (w41 : Value) (w42 : Value) (w43 : Value) (w44 : Value) (w45 : Value) (w46 : Value) (w47 : Value) (w48 : Value) (w49 : Value) (w50 : Value) (w51 : Value) (w52 : Value) (w53 : Value) (w54 : Value) (w55 : Value) (w56 : Value) (w57 : Value) (w58 : Value) (w59 : Value) (w60 : Value) (w61 : Value) (w62 : Value) (w63 : Value) (w64 : Value) (w65 : Value) (w66 : Value) (w67 : Value) (w68 : Value) (w69 : Value) : zM l D y yX10_costOfPath (Cond.code yX10_costOfPath cX10_costOfPath 3 (some .int) :: zT) { frames := 5, cells := 0, slots := 0, locals := 108 } [.ref a0, .int 0] [(a0, .inr (9, [.int 0, .int 0, w1, .int 20, w2, .int 0, .int 0, w3, w4, w5, w6, w7, w8, .ref a9, w10, .int (-1), w11, w12, w13, w14, w15, w16, w17, w18, w19, w20, w21, w22, w23, w24, w25, w26, w27, w28, .ref a29, .int 0, w30, w31, w32, w33, w34, w35, w36, w37, w38, w39, w40, w41, w42, w43, w44, w45, w46, w47, w48, w49, w50, w51, w52, w53, w54, w55, w56, w57, w58, w59, w60, w61, w62, w63, w64, w65, w66, w67, w68, w69])), (a9, .inl (y 2, 7, .inl (fun _ => 0))), (a29, .inl (y 0, 7, .inl (fun _ => 0)))] (zQi (S := Unit) D (fun r_ _ => r_ = 0) (fun _ => [(a0, .inr (9, [.int 0, .int 0, w1, .int 20, w2, .int 0, .int 0, w3, w4, w5, w6, w7, w8, .ref a9, w10, .int (-1), w11, w12, w13, w14, w15, w16, w17, w18, w19, w20, w21, w22, w23, w24, w25, w26, w27, w28, .ref a29, .int 0, w30, w31, w32, w33, w34, w35, w36, w37, w38, w39, w40, w41, w42, w43, w44, w45, w46, w47, w48, w49, w50, w51, w52, w53, w54, w55, w56, w57, w58, w59, w60, w61, w62, w63, w64, w65, w66, w67, w68, w69])), (a9, .inl (y 2, 7, .inl (fun _ => 0))), (a29, .inl (y 0, 7, .inl (upd (upd (upd (upd (upd (upd (upd (fun _ => 0) 0 99999) 1 99999) 2 99999) 3 99999) 4 99999) 5 99999) 6 99999)))])) := by
  refine zent (cc := cX10_costOfPath) (maxL := 3) (ret := (some .int)) (by decide) (Nat.le_of_ble_eq_true rfl) ?_
  intro p e s m below meth c A H locs ls hx hb hml hr ht hown hlocks hin hA hK hE hS hW hl
  have hown : s.vm.findClass RX10 = some m.cls := hown
  have hW : zPD D A [(a0, .inr (9, [.int 0, .int 0, w1, .int 20, w2, .int 0, .int 0, w3, w4, w5, w6, w7, w8, .ref a9, w10, .int (-1), w11, w12, w13, w14, w15, w16, w17, w18, w19, w20, w21, w22, w23, w24, w25, w26, w27, w28, .ref a29, .int 0, w30, w31, w32, w33, w34, w35, w36, w37, w38, w39, w40, w41, w42, w43, w44, w45, w46, w47, w48, w49, w50, w51, w52, w53, w54, w55, w56, w57, w58, w59, w60, w61, w62, w63, w64, w65, w66, w67, w68, w69])), (a9, .inl (y 2, 7, .inl (fun _ => 0))), (a29, .inl (y 0, 7, .inl (fun _ => 0)))] H := hW
  have hl : lv_has ls 3 [(0, .ref a0), (1, .int 0)] := hl
  refine lv_aload_n hx hb dX10_costOfPath_0 rfl (lv_at hl 0 rfl) ?_
  refine zgo_v (wr := []) (zrunV (As := []) (rest := []) ⟨hx, hb, hml, hown, ht⟩ (zc_X10_layOpen_0 l D y a0 (.int 0) (.int 0) w1 (.int 20) w2 (.int 0) (.int 0) w3 w4 w5 w6 w7 w8 a9 w10 (.int (-1)) w11 w12 w13 w14 w15 w16 w17 w18 w19 w20 w21 w22 w23 w24 w25 w26 w27 w28 a29 (.int 0) w30 w31 w32 w33 w34 w35 w36 w37 w38 w39 w40 w41 w42 w43 w44 w45 w46 w47 w48 w49 w50 w51 w52 w53 w54 w55 w56 w57 w58 w59 w60 w61 w62 w63 w64 w65 w66 w67 w68 w69) (cwV 0 ht (zgV zm_397 zm_398 zm_399 zm_5 zm_400) rfl rfl rfl (by decide +kernel) ⟨(Nat.le_of_ble_eq_true rfl), (Nat.le_of_ble_eq_true rfl)⟩) hK hE hS hA hW [0, 1, 2] (by decide) rfl 0 rfl rfl rfl rfl hl.1 rfl (Nat.le_of_ble_eq_true rfl) dX10_costOfPath_1 (Nat.le_of_ble_eq_true rfl) (Nat.le_of_ble_eq_true rfl)) hS hA hW [0, 1, 2] [] rfl rfl (by decide) (by decide) (fun u H locs hw hW hS => ?_)
  have hW : zPD D A [(a0, .inr (9, [.int 0, .int 0, w1, .int 20, w2, .int 0, .int 0, w3, w4, w5, w6, w7, w8, .ref a9, w10, .int (-1), w11, w12, w13, w14, w15, w16, w17, w18, w19, w20, w21, w22, w23, w24, w25, w26, w27, w28, .ref a29, .int 0, w30, w31, w32, w33, w34, w35, w36, w37, w38, w39, w40, w41, w42, w43, w44, w45, w46, w47, w48, w49, w50, w51, w52, w53, w54, w55, w56, w57, w58, w59, w60, w61, w62, w63, w64, w65, w66, w67, w68, w69])), (a9, .inl (y 2, 7, .inl (fun _ => 0))), (a29, .inl (y 0, 7, .inl (upd (upd (upd (upd (upd (upd (upd (fun _ => 0) 0 99999) 1 99999) 2 99999) 3 99999) 4 99999) 5 99999) 6 99999)))] H := hW
  refine lv_aload_n hx hb dX10_costOfPath_4 rfl (lv_at hl 0 rfl) ?_
  refine lv_iconst (v := 0) hx hb dX10_costOfPath_5 (by decide) ?_
  refine lv_aload_n hx hb dX10_costOfPath_6 rfl (lv_at hl 0 rfl) ?_
  refine zget hx hb ht inlX10 hown hK hW 0 rfl rfl 35 (by decide) zm_175 rfl dX10_costOfPath_7 ?_
  refine lv_aload_n hx hb dX10_costOfPath_10 rfl (lv_at hl 0 rfl) ?_
  refine zget hx hb ht inlX10 hown hK hW 0 rfl rfl 1 (by decide) zm_141 rfl dX10_costOfPath_11 ?_
  refine lv_iload_n hx hb dX10_costOfPath_14 rfl (lv_at hl 1 rfl) ?_
  refine lv_iadd hx hb dX10_costOfPath_15 ?_
  refine ztop (w := .int 0) (congrArg Value.int (by decide)) ?_
  refine zgo_i (wr := [(a9, .inl (y 2, 7, .inl (fun _ => 0))), (a29, .inl (y 0, 7, .inl (upd (upd (upd (upd (upd (upd (upd (fun _ => 0) 0 99999) 1 99999) 2 99999) 3 99999) 4 99999) 5 99999) 6 99999)))]) (zrunV (As := [.int 0, .int 0, .int 0]) (rest := []) ⟨hx, hb, hml, hown, ht⟩ (zc_X10_goes_0 l D y a0 (.int 0) (.int 0) w1 (.int 20) w2 w3 w4 w5 w6 w7 w8 (.ref a9) w10 (.int (-1)) w11 w12 w13 w14 w15 w16 w17 w18 w19 w20 w21 w22 w23 w24 w25 w26 w27 w28 (.ref a29) (.int 0) w30 w31 w32 w33 w34 w35 w36 w37 w38 w39 w40 w41 w42 w43 w44 w45 w46 w47 w48 w49 w50 w51 w52 w53 w54 w55 w56 w57 w58 w59 w60 w61 w62 w63 w64 w65 w66 w67 w68 w69) (cwV 3 ht (zgV zm_852 zm_853 zm_854 zm_5 zm_855) rfl rfl rfl (by decide +kernel) ⟨(Nat.le_of_ble_eq_true rfl), (Nat.le_of_ble_eq_true rfl)⟩) hK hE hS hA hW [0] (by decide) rfl 0 rfl rfl rfl rfl hl.1 rfl (Nat.le_of_ble_eq_true rfl) dX10_costOfPath_16 (Nat.le_of_ble_eq_true rfl) (Nat.le_of_ble_eq_true rfl)) hS hA hW [0] [1, 2] rfl rfl (by decide) (by decide) (fun r2_ u H locs hw hW hS => ?_)
  have hW : zPD D A [(a9, .inl (y 2, 7, .inl (fun _ => 0))), (a29, .inl (y 0, 7, .inl (upd (upd (upd (upd (upd (upd (upd (fun _ => 0) 0 99999) 1 99999) 2 99999) 3 99999) 4 99999) 5 99999) 6 99999))), (a0, .inr (9, [.int 0, .int 0, w1, .int 20, w2, .int 0, .int 0, w3, w4, w5, w6, w7, w8, .ref a9, w10, .int (-1), w11, w12, w13, w14, w15, w16, w17, w18, w19, w20, w21, w22, w23, w24, w25, w26, w27, w28, .ref a29, .int 0, w30, w31, w32, w33, w34, w35, w36, w37, w38, w39, w40, w41, w42, w43, w44, w45, w46, w47, w48, w49, w50, w51, w52, w53, w54, w55, w56, w57, w58, w59, w60, w61, w62, w63, w64, w65, w66, w67, w68, w69]))] H := hW
  have hw : r2_ = 0 := hw
  subst hw
  refine lv_istore_n (lv' := [(2, .int 0), (0, .ref a0), (1, .int 0)]) hx hb dX10_costOfPath_19 rfl hl (by decide) rfl (fun ls hl => ?_)
  refine lv_aload_n hx hb dX10_costOfPath_20 rfl (lv_at hl 1 rfl) ?_
  refine zgo_i (wr := [(a9, .inl (y 2, 7, .inl (fun _ => 0))), (a29, .inl (y 0, 7, .inl (upd (upd (upd (upd (upd (upd (upd (fun _ => 0) 0 99999) 1 99999) 2 99999) 3 99999) 4 99999) 5 99999) 6 99999)))]) (zrunV (As := []) (rest := []) ⟨hx, hb, hml, hown, ht⟩ (zc_X10_harmTillEnd_0 l D y a0 w1 w2 (.int 0) (.int 0) w3 w4 w5 w6 w7 w8 (.ref a9) w10 w11 w12 w13 w14 w15 w16 w17 w18 w19 w20 w21 w22 w23 w24 w25 w26 w27 w28 (.ref a29) (.int 0) w30 w31 w32 w33 w34 w35 w36 w37 w38 w39 w40 w41 w42 w43 w44 w45 w46 w47 w48 w49 w50 w51 w52 w53 w54 w55 w56 w57 w58 w59 w60 w61 w62 w63 w64 w65 w66 w67 w68 w69) (cwV 0 ht (zgV zm_856 zm_857 zm_858 zm_5 zm_859) rfl rfl rfl (by decide +kernel) ⟨(Nat.le_of_ble_eq_true rfl), (Nat.le_of_ble_eq_true rfl)⟩) hK hE hS hA hW [2] (by decide) rfl 0 rfl rfl rfl rfl hl.1 rfl (Nat.le_of_ble_eq_true rfl) dX10_costOfPath_21 (Nat.le_of_ble_eq_true rfl) (Nat.le_of_ble_eq_true rfl)) hS hA hW [2] [0, 1] rfl rfl (by decide) (by decide) (fun r3_ u H locs hw hW hS => ?_)
  have hW : zPD D A [(a9, .inl (y 2, 7, .inl (fun _ => 0))), (a29, .inl (y 0, 7, .inl (upd (upd (upd (upd (upd (upd (upd (fun _ => 0) 0 99999) 1 99999) 2 99999) 3 99999) 4 99999) 5 99999) 6 99999))), (a0, .inr (9, [.int 0, .int 0, w1, .int 20, w2, .int 0, .int 0, w3, w4, w5, w6, w7, w8, .ref a9, w10, .int (-1), w11, w12, w13, w14, w15, w16, w17, w18, w19, w20, w21, w22, w23, w24, w25, w26, w27, w28, .ref a29, .int 0, w30, w31, w32, w33, w34, w35, w36, w37, w38, w39, w40, w41, w42, w43, w44, w45, w46, w47, w48, w49, w50, w51, w52, w53, w54, w55, w56, w57, w58, w59, w60, w61, w62, w63, w64, w65, w66, w67, w68, w69]))] H := hW
  have hw : r3_ = 0 := hw
  subst hw
  exact zret_i (v := 0) hx hb hr hlocks hS () rfl (hW.sub [2, 0, 1] (by decide) rfl) (Nat.le_of_ble_eq_true rfl) (Nat.le_of_ble_eq_true rfl) dX10_costOfPath_24
set_option maxHeartbeats 8000000 in
set_option maxRecDepth 100000 in
theorem zc_X10_costOfRound_0 (l : Launch) (D : va_G) (y : Nat → ClassId) (a0 : Nat) (w1 : Value) (w2 : Value) (w3 : Value) (w4 : Value) (w5 : Value) (w6 : Value) (w7 : Value) (w8 : Value) (a9 : Nat) (w10 : Value) (w11 : Value) (w12 : Value) (w13 : Value) (w14 : Value) (w15 : Value) (w16 : Value) (w17 : Value) (w18 : Value) (w19 : Value) (w20 : Value) (w21 : Value) (w22 : Value) (w23 : Value) (w24 : Value) (w25 : Value) (w26 : Value) (w27 : Value) (a28 : Nat) (a29 : Nat) (a30 : Nat) (w31 : Value) (w32 : Value) (w33 : Value) (w34 : Value) (w35 : Value) (w36 : Value) (w37 : Value) (w38 : Value) (w39 : Value) (w40 : Value) (w41 : Value) (w42 : Value) (w43 : Value) (w44 : Value) (w45 : Value) (w46 : Value) (w47 : Value) (w48 : Value) (w49 : Value) (w50 : Value) (w51 : Value) (w52 : Value) (w53 : Value) (w54 : Value) (w55 : Value) (w56 : Value) (w57 : Value) (w58 : Value) (w59 : Value) (w60 : Value) (w61 : Value) (w62 : Value) (w63 : Value) (w64 : Value) (w65 : Value) (w66 : Value) (w67 : Value) : zM l D y yX10_costOfRound (Cond.code yX10_costOfRound cX10_costOfRound 2 (some .int) :: zT) { frames := 6, cells := 0, slots := 0, locals := 130 } [.ref a0, .int 0] [(a0, .inr (9, [.int 0, .int 0, w1, .int 20, w2, .int 0, .int 0, w3, w4, w5, w6, w7, w8, .ref a9, w10, .int (-1), w11, w12, w13, w14, w15, w16, w17, w18, w19, w20, w21, w22, w23, w24, w25, w26, .int 0, w27, .ref a28, .int 0, .ref a29, .int 0, .ref a30, w31, w32, w33, w34, w35, w36, w37, w38, w39, w40, w41, w42, w43, w44, w45, w46, w47, w48, w49, w50, w51, w52, w53, w54, w55, w56, w57, w58, w59, w60, w61, w62, w63, w64, w65, w66, w67])), (a9, .inl (y 2, 7, .inl (fun _ => 0))), (a28, .inl (y 0, 7, .inl (fun _ => 0))), (a29, .inl (y 0, 7, .inl (fun _ => 0))), (a30, .inl (y 0, 7, .inl (fun _ => 0)))] (zQi (S := Unit) D (fun r_ _ => r_ = 0) (fun _ => [(a0, .inr (9, [.int 0, .int 0, w1, .int 20, w2, .int 0, .int 0, w3, w4, w5, w6, w7, w8, .ref a9, w10, .int (-1), w11, w12, w13, w14, w15, w16, w17, w18, w19, w20, w21, w22, w23, w24, w25, w26, .int 0, w27, .ref a28, .int 0, .ref a29, .int 0, .ref a30, w31, w32, w33, w34, w35, w36, w37, w38, w39, w40, w41, w42, w43, w44, w45, w46, w47, w48, w49, w50, w51, w52, w53, w54, w55, w56, w57, w58, w59, w60, w61, w62, w63, w64, w65, w66, w67])), (a9, .inl (y 2, 7, .inl (fun _ => 0))), (a28, .inl (y 0, 7, .inl (upd (upd (upd (upd (upd (upd (upd (fun _ => 0) 0 99999) 1 99999) 2 99999) 3 99999) 4 99999) 5 99999) 6 99999))), (a29, .inl (y 0, 7, .inl (fun _ => 0))), (a30, .inl (y 0, 7, .inl (fun _ => 0)))])) := by
  refine zent (cc := cX10_costOfRound) (maxL := 2) (ret := (some .int)) (by decide) (Nat.le_of_ble_eq_true rfl) ?_
  intro p e s m below meth c A H locs ls hx hb hml hr ht hown hlocks hin hA hK hE hS hW hl
  have hown : s.vm.findClass RX10 = some m.cls := hown
  have hW : zPD D A [(a0, .inr (9, [.int 0, .int 0, w1, .int 20, w2, .int 0, .int 0, w3, w4, w5, w6, w7, w8, .ref a9, w10, .int (-1), w11, w12, w13, w14, w15, w16, w17, w18, w19, w20, w21, w22, w23, w24, w25, w26, .int 0, w27, .ref a28, .int 0, .ref a29, .int 0, .ref a30, w31, w32, w33, w34, w35, w36, w37, w38, w39, w40, w41, w42, w43, w44, w45, w46, w47, w48, w49, w50, w51, w52, w53, w54, w55, w56, w57, w58, w59, w60, w61, w62, w63, w64, w65, w66, w67])), (a9, .inl (y 2, 7, .inl (fun _ => 0))), (a28, .inl (y 0, 7, .inl (fun _ => 0))), (a29, .inl (y 0, 7, .inl (fun _ => 0))), (a30, .inl (y 0, 7, .inl (fun _ => 0)))] H := hW
  have hl : lv_has ls 2 [(0, .ref a0), (1, .int 0)] := hl
  refine lv_aload_n hx hb dX10_costOfRound_0 rfl (lv_at hl 0 rfl) ?_
  refine zgo_v (wr := [(a9, .inl (y 2, 7, .inl (fun _ => 0))), (a28, .inl (y 0, 7, .inl (fun _ => 0))), (a29, .inl (y 0, 7, .inl (fun _ => 0))), (a30, .inl (y 0, 7, .inl (fun _ => 0)))]) (zrunV (As := []) (rest := []) ⟨hx, hb, hml, hown, ht⟩ (zc_X10_layRain_0 l D y a0 (.int 0) w1 (.int 20) w2 (.int 0) (.int 0) w3 w4 w5 w6 w7 w8 (.ref a9) w10 w11 w12 w13 w14 w15 w16 w17 w18 w19 w20 w21 w22 w23 w24 w25 w26 w27 (.ref a28) (.int 0) (.ref a29) (.int 0) (.ref a30) w31 w32 w33 w34 w35 w36 w37 w38 w39 w40 w41 w42 w43 w44 w45 w46 w47 w48 w49 w50 w51 w52 w53 w54 w55 w56 w57 w58 w59 w60 w61 w62 w63 w64 w65 w66 w67) (cwV 0 ht (zgV zm_377 zm_378 zm_379 zm_5 zm_380) rfl rfl rfl (by decide +kernel) ⟨(Nat.le_of_ble_eq_true rfl), (Nat.le_of_ble_eq_true rfl)⟩) hK hE hS hA hW [0] (by decide) rfl 0 rfl rfl rfl rfl hl.1 rfl (Nat.le_of_ble_eq_true rfl) dX10_costOfRound_1 (Nat.le_of_ble_eq_true rfl) (Nat.le_of_ble_eq_true rfl)) hS hA hW [0] [1, 2, 3, 4] rfl rfl (by decide) (by decide) (fun u H locs hw hW hS => ?_)
  have hW : zPD D A [(a9, .inl (y 2, 7, .inl (fun _ => 0))), (a28, .inl (y 0, 7, .inl (fun _ => 0))), (a29, .inl (y 0, 7, .inl (fun _ => 0))), (a30, .inl (y 0, 7, .inl (fun _ => 0))), (a0, .inr (9, [.int 0, .int 0, w1, .int 20, w2, .int 0, .int 0, w3, w4, w5, w6, w7, w8, .ref a9, w10, .int (-1), w11, w12, w13, w14, w15, w16, w17, w18, w19, w20, w21, w22, w23, w24, w25, w26, .int 0, w27, .ref a28, .int 0, .ref a29, .int 0, .ref a30, w31, w32, w33, w34, w35, w36, w37, w38, w39, w40, w41, w42, w43, w44, w45, w46, w47, w48, w49, w50, w51, w52, w53, w54, w55, w56, w57, w58, w59, w60, w61, w62, w63, w64, w65, w66, w67]))] H := hW
  refine lv_aload_n hx hb dX10_costOfRound_4 rfl (lv_at hl 0 rfl) ?_
  refine zgo_v (wr := [(a9, .inl (y 2, 7, .inl (fun _ => 0))), (a28, .inl (y 0, 7, .inl (fun _ => 0)))]) (zrunV (As := []) (rest := []) ⟨hx, hb, hml, hown, ht⟩ (zc_X10_layRound_0 l D y a0 (.int 0) (.int 0) w1 (.int 20) w2 (.int 0) (.int 0) w3 w4 w5 w6 w7 w8 (.ref a9) w10 (.int (-1)) w11 w12 w13 w14 w15 w16 w17 w18 w19 w20 w21 w22 w23 w24 w25 w26 (.int 0) w27 (.ref a28) a29 a30 w31 w32 w33 w34 w35 w36 w37 w38 w39 w40 w41 w42 w43 w44 w45 w46 w47 w48 w49 w50 w51 w52 w53 w54 w55 w56 w57 w58 w59 w60 w61 w62 w63 w64 w65 w66 w67) (cwV 0 ht (zgV zm_844 zm_845 zm_846 zm_5 zm_847) rfl rfl rfl (by decide +kernel) ⟨(Nat.le_of_ble_eq_true rfl), (Nat.le_of_ble_eq_true rfl)⟩) hK hE hS hA hW [4, 2, 3] (by decide) rfl 0 rfl rfl rfl rfl hl.1 rfl (Nat.le_of_ble_eq_true rfl) dX10_costOfRound_5 (Nat.le_of_ble_eq_true rfl) (Nat.le_of_ble_eq_true rfl)) hS hA hW [4, 2, 3] [0, 1] rfl rfl (by decide) (by decide) (fun u H locs hw hW hS => ?_)
  have hW : zPD D A [(a9, .inl (y 2, 7, .inl (fun _ => 0))), (a28, .inl (y 0, 7, .inl (fun _ => 0))), (a0, .inr (9, [.int 0, .int 0, w1, .int 20, w2, .int 0, .int 0, w3, w4, w5, w6, w7, w8, .ref a9, w10, .int (-1), w11, w12, w13, w14, w15, w16, w17, w18, w19, w20, w21, w22, w23, w24, w25, w26, .int 0, w27, .ref a28, .int 0, .ref a29, .int 0, .ref a30, w31, w32, w33, w34, w35, w36, w37, w38, w39, w40, w41, w42, w43, w44, w45, w46, w47, w48, w49, w50, w51, w52, w53, w54, w55, w56, w57, w58, w59, w60, w61, w62, w63, w64, w65, w66, w67])), (a29, .inl (y 0, 7, .inl (fun _ => 0))), (a30, .inl (y 0, 7, .inl (fun _ => 0)))] H := hW
  refine lv_aload_n hx hb dX10_costOfRound_8 rfl (lv_at hl 0 rfl) ?_
  refine lv_iload_n hx hb dX10_costOfRound_9 rfl (lv_at hl 1 rfl) ?_
  refine zgo_i (wr := [(a29, .inl (y 0, 7, .inl (fun _ => 0))), (a30, .inl (y 0, 7, .inl (fun _ => 0)))]) (zrunV (As := [.int 0]) (rest := []) ⟨hx, hb, hml, hown, ht⟩ (zc_X10_costOfPath_0 l D y a0 w1 w2 w3 w4 w5 w6 w7 w8 a9 w10 w11 w12 w13 w14 w15 w16 w17 w18 w19 w20 w21 w22 w23 w24 w25 w26 (.int 0) w27 a28 (.ref a29) (.int 0) (.ref a30) w31 w32 w33 w34 w35 w36 w37 w38 w39 w40 w41 w42 w43 w44 w45 w46 w47 w48 w49 w50 w51 w52 w53 w54 w55 w56 w57 w58 w59 w60 w61 w62 w63 w64 w65 w66 w67) (cwV 1 ht (zgV zm_848 zm_849 zm_850 zm_5 zm_851) rfl rfl rfl (by decide +kernel) ⟨(Nat.le_of_ble_eq_true rfl), (Nat.le_of_ble_eq_true rfl)⟩) hK hE hS hA hW [2, 0, 1] (by decide) rfl 0 rfl rfl rfl rfl hl.1 rfl (Nat.le_of_ble_eq_true rfl) dX10_costOfRound_10 (Nat.le_of_ble_eq_true rfl) (Nat.le_of_ble_eq_true rfl)) hS hA hW [2, 0, 1] [3, 4] rfl rfl (by decide) (by decide) (fun r3_ u H locs hw hW hS => ?_)
  have hW : zPD D A [(a29, .inl (y 0, 7, .inl (fun _ => 0))), (a30, .inl (y 0, 7, .inl (fun _ => 0))), (a0, .inr (9, [.int 0, .int 0, w1, .int 20, w2, .int 0, .int 0, w3, w4, w5, w6, w7, w8, .ref a9, w10, .int (-1), w11, w12, w13, w14, w15, w16, w17, w18, w19, w20, w21, w22, w23, w24, w25, w26, .int 0, w27, .ref a28, .int 0, .ref a29, .int 0, .ref a30, w31, w32, w33, w34, w35, w36, w37, w38, w39, w40, w41, w42, w43, w44, w45, w46, w47, w48, w49, w50, w51, w52, w53, w54, w55, w56, w57, w58, w59, w60, w61, w62, w63, w64, w65, w66, w67])), (a9, .inl (y 2, 7, .inl (fun _ => 0))), (a28, .inl (y 0, 7, .inl (upd (upd (upd (upd (upd (upd (upd (fun _ => 0) 0 99999) 1 99999) 2 99999) 3 99999) 4 99999) 5 99999) 6 99999)))] H := hW
  have hw : r3_ = 0 := hw
  subst hw
  exact zret_i (v := 0) hx hb hr hlocks hS () rfl (hW.sub [2, 3, 4, 0, 1] (by decide) rfl) (Nat.le_of_ble_eq_true rfl) (Nat.le_of_ble_eq_true rfl) dX10_costOfRound_13
set_option maxHeartbeats 8000000 in
set_option maxRecDepth 100000 in
theorem zc_X10_round_0 (l : Launch) (D : va_G) (y : Nat → ClassId) (a0 : Nat) (p1 : Int32) (w2 : Value) (w3 : Value) (w4 : Value) (w5 : Value) (w6 : Value) (w7 : Value) (w8 : Value) (w9 : Value) (a10 : Nat) (w11 : Value) (w12 : Value) (w13 : Value) (w14 : Value) (w15 : Value) (w16 : Value) (w17 : Value) (w18 : Value) (w19 : Value) (w20 : Value) (w21 : Value) (w22 : Value) (w23 : Value) (w24 : Value) (w25 : Value) (w26 : Value) (w27 : Value) (w28 : Value) (a29 : Nat) (a30 : Nat) (a31 : Nat) (w32 : Value) (w33 : Value) (w34 : Value) (w35 : Value) (w36 : Value) (w37 : Value) (w38 : Value) (w39 : Value) (w40 : Value) (w41 : Value) (w42 : Value) (w43 : Value) (w44 : Value) (w45 : Value) (w46 : Value) (w47 : Value) (w48 : Value) (w49 : Value) (w50 : Value) (w51 : Value) (w52 : Value) (w53 : Value) (w54 : Value) (w55 : Value) (w56 : Value) (w57 : Value) (w58 : Value) (w59 : Value) (w60 : Value) (w61 : Value) (w62 : Value) (w63 : Value) (w64 : Value) (w65 : Value) (w66 : Value) (w67 : Value) (w68 : Value) : zM l D y yX10_round (Cond.code yX10_round cX10_round 5 (some .int) :: zT) { frames := 7, cells := 0, slots := 0, locals := 151 } [.ref a0, .int p1] [(a0, .inr (9, [.int 0, .int 0, w2, .int 20, w3, .int 0, .int 0, w4, w5, w6, w7, w8, w9, .ref a10, w11, .int (-1), w12, w13, w14, w15, w16, w17, w18, w19, w20, w21, w22, w23, w24, w25, w26, w27, .int 0, w28, .ref a29, .int 0, .ref a30, .int 0, .ref a31, w32, w33, w34, w35, w36, w37, w38, w39, w40, w41, w42, w43, w44, w45, w46, w47, w48, w49, w50, w51, w52, w53, w54, w55, w56, w57, w58, w59, w60, w61, w62, w63, w64, w65, w66, w67, w68])), (a10, .inl (y 2, 7, .inl (fun _ => 0))), (a29, .inl (y 0, 7, .inl (fun _ => 0))), (a30, .inl (y 0, 7, .inl (fun _ => 0))), (a31, .inl (y 0, 7, .inl (fun _ => 0)))] (zQi (S := Unit) D (fun r_ _ => r_ = (if p1 < 0 then (-1) else (if 2 < p1 then (-1) else 0))) (fun _ => [])) := by
  refine zent (cc := cX10_round) (maxL := 5) (ret := (some .int)) (by decide) (Nat.le_of_ble_eq_true rfl) ?_
  intro p e s m below meth c A H locs ls hx hb hml hr ht hown hlocks hin hA hK hE hS hW hl
  have hown : s.vm.findClass RX10 = some m.cls := hown
  have hW : zPD D A [(a0, .inr (9, [.int 0, .int 0, w2, .int 20, w3, .int 0, .int 0, w4, w5, w6, w7, w8, w9, .ref a10, w11, .int (-1), w12, w13, w14, w15, w16, w17, w18, w19, w20, w21, w22, w23, w24, w25, w26, w27, .int 0, w28, .ref a29, .int 0, .ref a30, .int 0, .ref a31, w32, w33, w34, w35, w36, w37, w38, w39, w40, w41, w42, w43, w44, w45, w46, w47, w48, w49, w50, w51, w52, w53, w54, w55, w56, w57, w58, w59, w60, w61, w62, w63, w64, w65, w66, w67, w68])), (a10, .inl (y 2, 7, .inl (fun _ => 0))), (a29, .inl (y 0, 7, .inl (fun _ => 0))), (a30, .inl (y 0, 7, .inl (fun _ => 0))), (a31, .inl (y 0, 7, .inl (fun _ => 0)))] H := hW
  have hl : lv_has ls 5 [(0, .ref a0), (1, .int p1)] := hl
  refine lv_aload_n hx hb dX10_round_0 rfl (lv_at hl 0 rfl) ?_
  refine lv_iload_n hx hb dX10_round_1 rfl (lv_at hl 1 rfl) ?_
  refine lv_iconst (v := 0) hx hb dX10_round_2 (by decide) ?_
  refine lv_iconst (v := 2) hx hb dX10_round_3 (by decide) ?_
  refine zgo_i (wr := [(a10, .inl (y 2, 7, .inl (fun _ => 0))), (a29, .inl (y 0, 7, .inl (fun _ => 0))), (a30, .inl (y 0, 7, .inl (fun _ => 0))), (a31, .inl (y 0, 7, .inl (fun _ => 0)))]) (zrunV (As := [.int p1, .int 0, .int 2]) (rest := []) ⟨hx, hb, hml, hown, ht⟩ (zc_X10_in_8 l D y a0 p1 (.int 0) (.int 0) w2 (.int 20) w3 (.int 0) (.int 0) w4 w5 w6 w7 w8 w9 (.ref a10) w11 (.int (-1)) w12 w13 w14 w15 w16 w17 w18 w19 w20 w21 w22 w23 w24 w25 w26 w27 (.int 0) w28 (.ref a29) (.int 0) (.ref a30) (.int 0) (.ref a31) w32 w33 w34 w35 w36 w37 w38 w39 w40 w41 w42 w43 w44 w45 w46 w47 w48 w49 w50 w51 w52 w53 w54 w55 w56 w57 w58 w59 w60 w61 w62 w63 w64 w65 w66 w67 w68) (cwV 3 ht (zgV zm_240 zm_241 zm_242 zm_5 zm_243) rfl rfl rfl (by decide +kernel) ⟨(Nat.le_of_ble_eq_true rfl), (Nat.le_of_ble_eq_true rfl)⟩) hK hE hS hA hW [0] (by decide) rfl 0 rfl rfl rfl rfl hl.1 rfl (Nat.le_of_ble_eq_true rfl) dX10_round_4 (Nat.le_of_ble_eq_true rfl) (Nat.le_of_ble_eq_true rfl)) hS hA hW [0] [1, 2, 3, 4] rfl rfl (by decide) (by decide) (fun r1_ u H locs hw hW hS => ?_)
  have hW : zPD D A [(a10, .inl (y 2, 7, .inl (fun _ => 0))), (a29, .inl (y 0, 7, .inl (fun _ => 0))), (a30, .inl (y 0, 7, .inl (fun _ => 0))), (a31, .inl (y 0, 7, .inl (fun _ => 0))), (a0, .inr (9, [.int 0, .int 0, w2, .int 20, w3, .int 0, .int 0, w4, w5, w6, w7, w8, w9, .ref a10, w11, .int (-1), w12, w13, w14, w15, w16, w17, w18, w19, w20, w21, w22, w23, w24, w25, w26, w27, .int 0, w28, .ref a29, .int 0, .ref a30, .int 0, .ref a31, w32, w33, w34, w35, w36, w37, w38, w39, w40, w41, w42, w43, w44, w45, w46, w47, w48, w49, w50, w51, w52, w53, w54, w55, w56, w57, w58, w59, w60, w61, w62, w63, w64, w65, w66, w67, w68]))] H := hW
  have hw : r1_ = (if p1 < 0 then 0 else (if 2 < p1 then 0 else 1)) := hw
  by_cases c2_ : p1 < 0
  · have b3_ : (-2147483648) ≤ Int32.toInt p1 ∧ Int32.toInt p1 ≤ (-1) := (by have u0 := zbnd p1; have u1 := (zi_lt _ _).mp c2_; have u2 : (0 : Int32).toInt = 0 := (by decide); omega)
    rw [if_pos c2_] at hw
    subst hw
    refine lv_if_ne (tgt := 12) hx hb dX10_round_7 (by decide) (fun c4_ => absurd (by decide) c4_) (fun c4_ => ?_)
    refine lv_iconst (v := (-1)) hx hb dX10_round_10 (by decide) ?_
    exact zret_i (v := (-1)) hx hb hr hlocks hS () (by show _ = _; rw [if_pos c2_]) (hW.sub [] (by decide) rfl) (Nat.le_of_ble_eq_true rfl) (Nat.le_of_ble_eq_true rfl) dX10_round_11
  · have b5_ : 0 ≤ Int32.toInt p1 ∧ Int32.toInt p1 ≤ 2147483647 := (by have u0 := zbnd p1; have u1 := (not_congr (zi_lt _ _)).mp c2_; have u2 : (0 : Int32).toInt = 0 := (by decide); omega)
    rw [if_neg c2_] at hw
    by_cases c6_ : 2 < p1
    · have b7_ : 3 ≤ Int32.toInt p1 ∧ Int32.toInt p1 ≤ 2147483647 := (by have u0 := b5_; have u1 := (zi_lt _ _).mp c6_; have u2 : (2 : Int32).toInt = 2 := (by decide); omega)
      rw [if_pos c6_] at hw
      subst hw
      refine lv_if_ne (tgt := 12) hx hb dX10_round_7 (by decide) (fun c8_ => absurd (by decide) c8_) (fun c8_ => ?_)
      refine lv_iconst (v := (-1)) hx hb dX10_round_10 (by decide) ?_
      exact zret_i (v := (-1)) hx hb hr hlocks hS () (by show _ = _; rw [if_neg c2_, if_pos c6_]) (hW.sub [] (by decide) rfl) (Nat.le_of_ble_eq_true rfl) (Nat.le_of_ble_eq_true rfl) dX10_round_11
    · have b9_ : 0 ≤ Int32.toInt p1 ∧ Int32.toInt p1 ≤ 2 := (by have u0 := b5_; have u1 := (not_congr (zi_lt _ _)).mp c6_; have u2 : (2 : Int32).toInt = 2 := (by decide); omega)
      rw [if_neg c6_] at hw
      subst hw
      refine lv_if_ne (tgt := 12) hx hb dX10_round_7 (by decide) (fun c10_ => ?_) (fun c10_ => absurd c10_ (by decide))
      refine lv_iload_n hx hb dX10_round_12 rfl (lv_at hl 1 rfl) ?_
      refine lv_if_ne (tgt := 22) hx hb dX10_round_13 (by decide) (fun c11_ => ?_) (fun c11_ => ?_)
      · have b12_ : 1 ≤ Int32.toInt p1 ∧ Int32.toInt p1 ≤ 2 := (by have u0 := b9_; have u1 := (not_congr (zi_eq _ _)).mp c11_; have u2 : (0 : Int32).toInt = 0 := (by decide); omega)
        refine lv_aload_n hx hb dX10_round_22 rfl (lv_at hl 0 rfl) ?_
        refine zgo_v (wr := [(a10, .inl (y 2, 7, .inl (fun _ => 0))), (a29, .inl (y 0, 7, .inl (fun _ => 0)))]) (zrunV (As := []) (rest := []) ⟨hx, hb, hml, hown, ht⟩ (zc_X10_layRound_0 l D y a0 (.int 0) (.int 0) w2 (.int 20) w3 (.int 0) (.int 0) w4 w5 w6 w7 w8 w9 (.ref a10) w11 (.int (-1)) w12 w13 w14 w15 w16 w17 w18 w19 w20 w21 w22 w23 w24 w25 w26 w27 (.int 0) w28 (.ref a29) a30 a31 w32 w33 w34 w35 w36 w37 w38 w39 w40 w41 w42 w43 w44 w45 w46 w47 w48 w49 w50 w51 w52 w53 w54 w55 w56 w57 w58 w59 w60 w61 w62 w63 w64 w65 w66 w67 w68) (cwV 0 ht (zgV zm_844 zm_845 zm_846 zm_5 zm_847) rfl rfl rfl (by decide +kernel) ⟨(Nat.le_of_ble_eq_true rfl), (Nat.le_of_ble_eq_true rfl)⟩) hK hE hS hA hW [4, 2, 3] (by decide) rfl 0 rfl rfl rfl rfl hl.1 rfl (Nat.le_of_ble_eq_true rfl) dX10_round_23 (Nat.le_of_ble_eq_true rfl) (Nat.le_of_ble_eq_true rfl)) hS hA hW [4, 2, 3] [0, 1] rfl rfl (by decide) (by decide) (fun u H locs hw hW hS => ?_)
        have hW : zPD D A [(a10, .inl (y 2, 7, .inl (fun _ => 0))), (a29, .inl (y 0, 7, .inl (fun _ => 0))), (a0, .inr (9, [.int 0, .int 0, w2, .int 20, w3, .int 0, .int 0, w4, w5, w6, w7, w8, w9, .ref a10, w11, .int (-1), w12, w13, w14, w15, w16, w17, w18, w19, w20, w21, w22, w23, w24, w25, w26, w27, .int 0, w28, .ref a29, .int 0, .ref a30, .int 0, .ref a31, w32, w33, w34, w35, w36, w37, w38, w39, w40, w41, w42, w43, w44, w45, w46, w47, w48, w49, w50, w51, w52, w53, w54, w55, w56, w57, w58, w59, w60, w61, w62, w63, w64, w65, w66, w67, w68])), (a30, .inl (y 0, 7, .inl (fun _ => 0))), (a31, .inl (y 0, 7, .inl (fun _ => 0)))] H := hW
        refine lv_aload_n hx hb dX10_round_26 rfl (lv_at hl 0 rfl) ?_
        refine zgo_v (wr := [(a30, .inl (y 0, 7, .inl (fun _ => 0))), (a31, .inl (y 0, 7, .inl (fun _ => 0)))]) (zrunV (As := []) (rest := []) ⟨hx, hb, hml, hown, ht⟩ (zc_X10_layOpen_0 l D y a0 (.int 0) (.int 0) w2 (.int 20) w3 (.int 0) (.int 0) w4 w5 w6 w7 w8 w9 a10 w11 (.int (-1)) w12 w13 w14 w15 w16 w17 w18 w19 w20 w21 w22 w23 w24 w25 w26 w27 (.int 0) w28 a29 (.int 0) (.ref a30) (.int 0) (.ref a31) w32 w33 w34 w35 w36 w37 w38 w39 w40 w41 w42 w43 w44 w45 w46 w47 w48 w49 w50 w51 w52 w53 w54 w55 w56 w57 w58 w59 w60 w61 w62 w63 w64 w65 w66 w67 w68) (cwV 0 ht (zgV zm_397 zm_398 zm_399 zm_5 zm_400) rfl rfl rfl (by decide +kernel) ⟨(Nat.le_of_ble_eq_true rfl), (Nat.le_of_ble_eq_true rfl)⟩) hK hE hS hA hW [2, 0, 1] (by decide) rfl 0 rfl rfl rfl rfl hl.1 rfl (Nat.le_of_ble_eq_true rfl) dX10_round_27 (Nat.le_of_ble_eq_true rfl) (Nat.le_of_ble_eq_true rfl)) hS hA hW [2, 0, 1] [3, 4] rfl rfl (by decide) (by decide) (fun u H locs hw hW hS => ?_)
        have hW : zPD D A [(a30, .inl (y 0, 7, .inl (fun _ => 0))), (a31, .inl (y 0, 7, .inl (fun _ => 0))), (a0, .inr (9, [.int 0, .int 0, w2, .int 20, w3, .int 0, .int 0, w4, w5, w6, w7, w8, w9, .ref a10, w11, .int (-1), w12, w13, w14, w15, w16, w17, w18, w19, w20, w21, w22, w23, w24, w25, w26, w27, .int 0, w28, .ref a29, .int 0, .ref a30, .int 0, .ref a31, w32, w33, w34, w35, w36, w37, w38, w39, w40, w41, w42, w43, w44, w45, w46, w47, w48, w49, w50, w51, w52, w53, w54, w55, w56, w57, w58, w59, w60, w61, w62, w63, w64, w65, w66, w67, w68])), (a10, .inl (y 2, 7, .inl (fun _ => 0))), (a29, .inl (y 0, 7, .inl (upd (upd (upd (upd (upd (upd (upd (fun _ => 0) 0 99999) 1 99999) 2 99999) 3 99999) 4 99999) 5 99999) 6 99999)))] H := hW
        refine lv_aload_n hx hb dX10_round_30 rfl (lv_at hl 0 rfl) ?_
        refine lv_iconst (v := 0) hx hb dX10_round_31 (by decide) ?_
        refine lv_aload_n hx hb dX10_round_32 rfl (lv_at hl 0 rfl) ?_
        refine zget hx hb ht inlX10 hown hK hW 2 rfl rfl 35 (by decide) zm_175 rfl dX10_round_33 ?_
        refine lv_aload_n hx hb dX10_round_36 rfl (lv_at hl 0 rfl) ?_
        refine zget hx hb ht inlX10 hown hK hW 2 rfl rfl 1 (by decide) zm_141 rfl dX10_round_37 ?_
        refine zgo_i (wr := [(a30, .inl (y 0, 7, .inl (fun _ => 0))), (a31, .inl (y 0, 7, .inl (fun _ => 0))), (a10, .inl (y 2, 7, .inl (fun _ => 0))), (a29, .inl (y 0, 7, .inl (upd (upd (upd (upd (upd (upd (upd (fun _ => 0) 0 99999) 1 99999) 2 99999) 3 99999) 4 99999) 5 99999) 6 99999)))]) (zrunV (As := [.int 0, .int 0, .int 0]) (rest := []) ⟨hx, hb, hml, hown, ht⟩ (zc_X10_goes_0 l D y a0 (.int 0) (.int 0) w2 (.int 20) w3 w4 w5 w6 w7 w8 w9 (.ref a10) w11 (.int (-1)) w12 w13 w14 w15 w16 w17 w18 w19 w20 w21 w22 w23 w24 w25 w26 w27 (.int 0) w28 (.ref a29) (.int 0) (.ref a30) (.int 0) (.ref a31) w32 w33 w34 w35 w36 w37 w38 w39 w40 w41 w42 w43 w44 w45 w46 w47 w48 w49 w50 w51 w52 w53 w54 w55 w56 w57 w58 w59 w60 w61 w62 w63 w64 w65 w66 w67 w68) (cwV 3 ht (zgV zm_852 zm_853 zm_854 zm_5 zm_855) rfl rfl rfl (by decide +kernel) ⟨(Nat.le_of_ble_eq_true rfl), (Nat.le_of_ble_eq_true rfl)⟩) hK hE hS hA hW [2] (by decide) rfl 0 rfl rfl rfl rfl hl.1 rfl (Nat.le_of_ble_eq_true rfl) dX10_round_40 (Nat.le_of_ble_eq_true rfl) (Nat.le_of_ble_eq_true rfl)) hS hA hW [2] [0, 1, 3, 4] rfl rfl (by decide) (by decide) (fun r15_ u H locs hw hW hS => ?_)
        have hW : zPD D A [(a30, .inl (y 0, 7, .inl (fun _ => 0))), (a31, .inl (y 0, 7, .inl (fun _ => 0))), (a10, .inl (y 2, 7, .inl (fun _ => 0))), (a29, .inl (y 0, 7, .inl (upd (upd (upd (upd (upd (upd (upd (fun _ => 0) 0 99999) 1 99999) 2 99999) 3 99999) 4 99999) 5 99999) 6 99999))), (a0, .inr (9, [.int 0, .int 0, w2, .int 20, w3, .int 0, .int 0, w4, w5, w6, w7, w8, w9, .ref a10, w11, .int (-1), w12, w13, w14, w15, w16, w17, w18, w19, w20, w21, w22, w23, w24, w25, w26, w27, .int 0, w28, .ref a29, .int 0, .ref a30, .int 0, .ref a31, w32, w33, w34, w35, w36, w37, w38, w39, w40, w41, w42, w43, w44, w45, w46, w47, w48, w49, w50, w51, w52, w53, w54, w55, w56, w57, w58, w59, w60, w61, w62, w63, w64, w65, w66, w67, w68]))] H := hW
        have hw : r15_ = 0 := hw
        subst hw
        refine lv_istore_n (lv' := [(2, .int 0), (0, .ref a0), (1, .int p1)]) hx hb dX10_round_43 rfl hl (by decide) rfl (fun ls hl => ?_)
        refine lv_iload_n hx hb dX10_round_44 rfl (lv_at hl 2 rfl) ?_
        refine lv_iconst (v := 1) hx hb dX10_round_45 (by decide) ?_
        refine lv_icmp_ne (tgt := 51) hx hb dX10_round_46 (by decide) (fun c16_ => ?_) (fun c16_ => ?_)
        · have b17_ : 2 ≤ Int32.toInt p1 ∧ Int32.toInt p1 ≤ 2 := (by have u0 := b12_; have u1 := (not_congr (zi_eq _ _)).mp c16_; have u2 : (1 : Int32).toInt = 1 := (by decide); omega)
          refine lv_iconst (v := 0) hx hb dX10_round_51 (by decide) ?_
          refine lv_istore_n (lv' := [(3, .int 0), (2, .int 0), (0, .ref a0), (1, .int p1)]) hx hb dX10_round_52 rfl hl (by decide) rfl (fun ls hl => ?_)
          refine lv_iconst (v := 0) hx hb dX10_round_53 (by decide) ?_
          refine lv_istore (lv' := [(4, .int 0), (3, .int 0), (2, .int 0), (0, .ref a0), (1, .int p1)]) hx hb dX10_round_54 hl (by decide) rfl (fun ls hl => ?_)
          refine lv_iload hx hb dX10_round_56 (lv_at hl 0 rfl) ?_
          refine lv_aload_n hx hb dX10_round_58 rfl (lv_at hl 3 rfl) ?_
          refine zget hx hb ht inlX10 hown hK hW 4 rfl rfl 37 (by decide) zm_177 rfl dX10_round_59 ?_
          refine lv_icmp_ge (tgt := 98) hx hb dX10_round_62 (by decide) (fun c18_ => ?_) (fun c18_ => absurd (by decide) c18_)
          refine lv_iload_n hx hb dX10_round_98 rfl (lv_at hl 1 rfl) ?_
          exact zret_i (v := 0) hx hb hr hlocks hS () (by show _ = _; rw [if_neg c2_, if_neg c6_]) (hW.sub [] (by decide) rfl) (Nat.le_of_ble_eq_true rfl) (Nat.le_of_ble_eq_true rfl) dX10_round_99
        · have b19_ : 1 ≤ Int32.toInt p1 ∧ Int32.toInt p1 ≤ 1 := (by have u0 := b12_; have u1 := (zi_eq _ _).mp c16_; have u2 : (1 : Int32).toInt = 1 := (by decide); omega)
          refine lv_iload_n hx hb dX10_round_49 rfl (lv_at hl 0 rfl) ?_
          exact zret_i (v := 0) hx hb hr hlocks hS () (by show _ = _; rw [if_neg c2_, if_neg c6_]) (hW.sub [] (by decide) rfl) (Nat.le_of_ble_eq_true rfl) (Nat.le_of_ble_eq_true rfl) dX10_round_50
      · have b20_ : 0 ≤ Int32.toInt p1 ∧ Int32.toInt p1 ≤ 0 := (by have u0 := b9_; have u1 := (zi_eq _ _).mp c11_; have u2 : (0 : Int32).toInt = 0 := (by decide); omega)
        refine lv_aload_n hx hb dX10_round_16 rfl (lv_at hl 0 rfl) ?_
        refine lv_iconst (v := 0) hx hb dX10_round_17 (by decide) ?_
        refine zgo_i (wr := []) (zrunV (As := [.int 0]) (rest := []) ⟨hx, hb, hml, hown, ht⟩ (zc_X10_costOfRound_0 l D y a0 w2 w3 w4 w5 w6 w7 w8 w9 a10 w11 w12 w13 w14 w15 w16 w17 w18 w19 w20 w21 w22 w23 w24 w25 w26 w27 w28 a29 a30 a31 w32 w33 w34 w35 w36 w37 w38 w39 w40 w41 w42 w43 w44 w45 w46 w47 w48 w49 w50 w51 w52 w53 w54 w55 w56 w57 w58 w59 w60 w61 w62 w63 w64 w65 w66 w67 w68) (cwV 1 ht (zgV zm_840 zm_841 zm_842 zm_5 zm_843) rfl rfl rfl (by decide +kernel) ⟨(Nat.le_of_ble_eq_true rfl), (Nat.le_of_ble_eq_true rfl)⟩) hK hE hS hA hW [4, 0, 1, 2, 3] (by decide) rfl 0 rfl rfl rfl rfl hl.1 rfl (Nat.le_of_ble_eq_true rfl) dX10_round_18 (Nat.le_of_ble_eq_true rfl) (Nat.le_of_ble_eq_true rfl)) hS hA hW [4, 0, 1, 2, 3] [] rfl rfl (by decide) (by decide) (fun r21_ u H locs hw hW hS => ?_)
        have hW : zPD D A [(a0, .inr (9, [.int 0, .int 0, w2, .int 20, w3, .int 0, .int 0, w4, w5, w6, w7, w8, w9, .ref a10, w11, .int (-1), w12, w13, w14, w15, w16, w17, w18, w19, w20, w21, w22, w23, w24, w25, w26, w27, .int 0, w28, .ref a29, .int 0, .ref a30, .int 0, .ref a31, w32, w33, w34, w35, w36, w37, w38, w39, w40, w41, w42, w43, w44, w45, w46, w47, w48, w49, w50, w51, w52, w53, w54, w55, w56, w57, w58, w59, w60, w61, w62, w63, w64, w65, w66, w67, w68])), (a10, .inl (y 2, 7, .inl (fun _ => 0))), (a29, .inl (y 0, 7, .inl (upd (upd (upd (upd (upd (upd (upd (fun _ => 0) 0 99999) 1 99999) 2 99999) 3 99999) 4 99999) 5 99999) 6 99999))), (a30, .inl (y 0, 7, .inl (fun _ => 0))), (a31, .inl (y 0, 7, .inl (fun _ => 0)))] H := hW
        have hw : r21_ = 0 := hw
        subst hw
        exact zret_i (v := 0) hx hb hr hlocks hS () (by show _ = _; rw [if_neg c2_, if_neg c6_]) (hW.sub [] (by decide) rfl) (Nat.le_of_ble_eq_true rfl) (Nat.le_of_ble_eq_true rfl) dX10_round_21
set_option maxHeartbeats 8000000 in
set_option maxRecDepth 100000 in
theorem zc_X9_within_8 (l : Launch) (D : va_G) (y : Nat → ClassId) (p0 : Int32) : zM l D y yX9_within (Cond.code yX9_within cX9_within 3 (some .boolean) :: zT) { frames := 0, cells := 0, slots := 0, locals := 0 } [.int p0, .int (-1), .int 4] [] (zQi (S := Unit) D (fun r_ _ => r_ = (if p0 < (-1) then 0 else (if 4 < p0 then 0 else 1))) (fun _ => [])) := by
  refine zent (cc := cX9_within) (maxL := 3) (ret := (some .boolean)) (by decide) (Nat.le_of_ble_eq_true rfl) ?_
  intro p e s m below meth c A H locs ls hx hb hml hr ht hown hlocks hin hA hK hE hS hW hl
  have hown : s.vm.findClass RX9 = some m.cls := hown
  have hW : zPD D A [] H := hW
  have hl : lv_has ls 3 [(0, .int p0), (1, .int (-1)), (2, .int 4)] := hl
  refine lv_iload_n hx hb dX9_within_0 rfl (lv_at hl 0 rfl) ?_
  refine lv_iload_n hx hb dX9_within_1 rfl (lv_at hl 1 rfl) ?_
  refine lv_icmp_lt (tgt := 14) hx hb dX9_within_2 (by decide) (fun c1_ => ?_) (fun c1_ => ?_)
  · have b2_ : (-2147483648) ≤ Int32.toInt p0 ∧ Int32.toInt p0 ≤ (-2) := (by have u0 := zbnd p0; have u1 := (zi_lt _ _).mp c1_; have u2 : ((-1) : Int32).toInt = -1 := (by decide); omega)
    refine lv_iconst (v := 0) hx hb dX9_within_14 (by decide) ?_
    exact zret_z (v := 0) hx hb hr hlocks hS () rfl (by show _ = _; rw [if_pos c1_]) hW (Nat.le_of_ble_eq_true rfl) (Nat.le_of_ble_eq_true rfl) dX9_within_15
  · have b3_ : (-1) ≤ Int32.toInt p0 ∧ Int32.toInt p0 ≤ 2147483647 := (by have u0 := zbnd p0; have u1 := (not_congr (zi_lt _ _)).mp c1_; have u2 : ((-1) : Int32).toInt = -1 := (by decide); omega)
    refine lv_iload_n hx hb dX9_within_5 rfl (lv_at hl 0 rfl) ?_
    refine lv_iload_n hx hb dX9_within_6 rfl (lv_at hl 2 rfl) ?_
    refine lv_icmp_gt (tgt := 14) hx hb dX9_within_7 (by decide) (fun c4_ => ?_) (fun c4_ => ?_)
    · have b5_ : 5 ≤ Int32.toInt p0 ∧ Int32.toInt p0 ≤ 2147483647 := (by have u0 := b3_; have u1 := (zi_lt _ _).mp c4_; have u2 : (4 : Int32).toInt = 4 := (by decide); omega)
      refine lv_iconst (v := 0) hx hb dX9_within_14 (by decide) ?_
      exact zret_z (v := 0) hx hb hr hlocks hS () rfl (by show _ = _; rw [if_neg c1_, if_pos c4_]) hW (Nat.le_of_ble_eq_true rfl) (Nat.le_of_ble_eq_true rfl) dX9_within_15
    · have b6_ : (-1) ≤ Int32.toInt p0 ∧ Int32.toInt p0 ≤ 4 := (by have u0 := b3_; have u1 := (not_congr (zi_lt _ _)).mp c4_; have u2 : (4 : Int32).toInt = 4 := (by decide); omega)
      refine lv_iconst (v := 1) hx hb dX9_within_10 (by decide) ?_
      refine lv_goto (tgt := 15) hx hb dX9_within_11 (by decide) ?_
      exact zret_z (v := 1) hx hb hr hlocks hS () rfl (by show _ = _; rw [if_neg c1_, if_neg c4_]) hW (Nat.le_of_ble_eq_true rfl) (Nat.le_of_ble_eq_true rfl) dX9_within_15
set_option maxHeartbeats 8000000 in
set_option maxRecDepth 100000 in
theorem zc_J6_bitCount_0f7a4_0 (l : Launch) (D : va_G) (y : Nat → ClassId) : zM l D y yJ6_bitCount_0f7a4 (Cond.code yJ6_bitCount_0f7a4 cJ6_bitCount_0f7a4 1 (some .int) :: zT) { frames := 0, cells := 0, slots := 0, locals := 0 } [.int 0] [] (zQi (S := Unit) D (fun r_ _ => r_ = 0) (fun _ => [])) := by
  refine zent (cc := cJ6_bitCount_0f7a4) (maxL := 1) (ret := (some .int)) (by decide) (Nat.le_of_ble_eq_true rfl) ?_
  intro p e s m below meth c A H locs ls hx hb hml hr ht hown hlocks hin hA hK hE hS hW hl
  have hown : s.vm.findClass RJ6 = some m.cls := hown
  have hW : zPD D A [] H := hW
  have hl : lv_has ls 1 [(0, .int 0)] := hl
  refine lv_iload_n hx hb dJ6_bitCount_0f7a4_0 rfl (lv_at hl 0 rfl) ?_
  refine lv_iload_n hx hb dJ6_bitCount_0f7a4_1 rfl (lv_at hl 0 rfl) ?_
  refine lv_iconst (v := 1) hx hb dJ6_bitCount_0f7a4_2 (by decide) ?_
  refine lv_iushr (v := 0) hx hb dJ6_bitCount_0f7a4_3 (by decide) ?_
  refine lv_ldcw (v := 1431655765) hx hb hown (ht _ zm_871) dJ6_bitCount_0f7a4_4 ?_
  refine lv_iand hx hb dJ6_bitCount_0f7a4_7 ?_
  refine ztop (w := .int 0) (congrArg Value.int (by decide)) ?_
  refine lv_isub hx hb dJ6_bitCount_0f7a4_8 ?_
  refine ztop (w := .int 0) (congrArg Value.int (by decide)) ?_
  refine lv_istore_n (lv' := [(0, .int 0)]) hx hb dJ6_bitCount_0f7a4_9 rfl hl (by decide) rfl (fun ls hl => ?_)
  refine lv_iload_n hx hb dJ6_bitCount_0f7a4_10 rfl (lv_at hl 0 rfl) ?_
  refine lv_ldcw (v := 858993459) hx hb hown (ht _ zm_872) dJ6_bitCount_0f7a4_11 ?_
  refine lv_iand hx hb dJ6_bitCount_0f7a4_14 ?_
  refine ztop (w := .int 0) (congrArg Value.int (by decide)) ?_
  refine lv_iload_n hx hb dJ6_bitCount_0f7a4_15 rfl (lv_at hl 0 rfl) ?_
  refine lv_iconst (v := 2) hx hb dJ6_bitCount_0f7a4_16 (by decide) ?_
  refine lv_iushr (v := 0) hx hb dJ6_bitCount_0f7a4_17 (by decide) ?_
  refine lv_ldcw (v := 858993459) hx hb hown (ht _ zm_872) dJ6_bitCount_0f7a4_18 ?_
  refine lv_iand hx hb dJ6_bitCount_0f7a4_21 ?_
  refine ztop (w := .int 0) (congrArg Value.int (by decide)) ?_
  refine lv_iadd hx hb dJ6_bitCount_0f7a4_22 ?_
  refine ztop (w := .int 0) (congrArg Value.int (by decide)) ?_
  refine lv_istore_n (lv' := [(0, .int 0)]) hx hb dJ6_bitCount_0f7a4_23 rfl hl (by decide) rfl (fun ls hl => ?_)
  refine lv_iload_n hx hb dJ6_bitCount_0f7a4_24 rfl (lv_at hl 0 rfl) ?_
  refine lv_iload_n hx hb dJ6_bitCount_0f7a4_25 rfl (lv_at hl 0 rfl) ?_
  refine lv_iconst (v := 4) hx hb dJ6_bitCount_0f7a4_26 (by decide) ?_
  refine lv_iushr (v := 0) hx hb dJ6_bitCount_0f7a4_27 (by decide) ?_
  refine lv_iadd hx hb dJ6_bitCount_0f7a4_28 ?_
  refine ztop (w := .int 0) (congrArg Value.int (by decide)) ?_
  refine lv_ldcw (v := 252645135) hx hb hown (ht _ zm_873) dJ6_bitCount_0f7a4_29 ?_
  refine lv_iand hx hb dJ6_bitCount_0f7a4_32 ?_
  refine ztop (w := .int 0) (congrArg Value.int (by decide)) ?_
  refine lv_istore_n (lv' := [(0, .int 0)]) hx hb dJ6_bitCount_0f7a4_33 rfl hl (by decide) rfl (fun ls hl => ?_)
  refine lv_iload_n hx hb dJ6_bitCount_0f7a4_34 rfl (lv_at hl 0 rfl) ?_
  refine lv_iload_n hx hb dJ6_bitCount_0f7a4_35 rfl (lv_at hl 0 rfl) ?_
  refine lv_bipush (v := 8) hx hb dJ6_bitCount_0f7a4_36 (by decide) ?_
  refine lv_iushr (v := 0) hx hb dJ6_bitCount_0f7a4_38 (by decide) ?_
  refine lv_iadd hx hb dJ6_bitCount_0f7a4_39 ?_
  refine ztop (w := .int 0) (congrArg Value.int (by decide)) ?_
  refine lv_istore_n (lv' := [(0, .int 0)]) hx hb dJ6_bitCount_0f7a4_40 rfl hl (by decide) rfl (fun ls hl => ?_)
  refine lv_iload_n hx hb dJ6_bitCount_0f7a4_41 rfl (lv_at hl 0 rfl) ?_
  refine lv_iload_n hx hb dJ6_bitCount_0f7a4_42 rfl (lv_at hl 0 rfl) ?_
  refine lv_bipush (v := 16) hx hb dJ6_bitCount_0f7a4_43 (by decide) ?_
  refine lv_iushr (v := 0) hx hb dJ6_bitCount_0f7a4_45 (by decide) ?_
  refine lv_iadd hx hb dJ6_bitCount_0f7a4_46 ?_
  refine ztop (w := .int 0) (congrArg Value.int (by decide)) ?_
  refine lv_istore_n (lv' := [(0, .int 0)]) hx hb dJ6_bitCount_0f7a4_47 rfl hl (by decide) rfl (fun ls hl => ?_)
  refine lv_iload_n hx hb dJ6_bitCount_0f7a4_48 rfl (lv_at hl 0 rfl) ?_
  refine lv_bipush (v := 63) hx hb dJ6_bitCount_0f7a4_49 (by decide) ?_
  refine lv_iand hx hb dJ6_bitCount_0f7a4_51 ?_
  refine ztop (w := .int 0) (congrArg Value.int (by decide)) ?_
  exact zret_i (v := 0) hx hb hr hlocks hS () rfl hW (Nat.le_of_ble_eq_true rfl) (Nat.le_of_ble_eq_true rfl) dJ6_bitCount_0f7a4_52
set_option maxHeartbeats 8000000 in
set_option maxRecDepth 100000 in
theorem zc_X1_costOfTried_0 (l : Launch) (D : va_G) (y : Nat → ClassId) (a0 : Nat) (a1 : Nat) (w2 : Value) (w3 : Value) (a4 : Nat) (w5 : Value) (w6 : Value) (w7 : Value) (w8 : Value) (w9 : Value) (w10 : Value) (w11 : Value) (w12 : Value) (a13 : Nat) (w14 : Value) (w15 : Value) (w16 : Value) (w17 : Value) (w18 : Value) (w19 : Value) (w20 : Value) (w21 : Value) (w22 : Value) (w23 : Value) (w24 : Value) (w25 : Value) : zM l D y yX1_costOfTried (Cond.code yX1_costOfTried cX1_costOfTried 1 (some .int) :: zT) { frames := 2, cells := 0, slots := 0, locals := 44 } [.ref a0] [(a0, .inr (1, [.ref a1, w2, .int 20, w3, .ref a4, w5, w6, w7, w8])), (a1, .inr (6, [w9, .int 0, w10, w11, .int 0, w12, .int 0, .int 0, .ref a13, w14, w15, w16])), (a4, .inr (5, [.int 0, w17, w18])), (a13, .inr (2, [w19, .int 15, w20, w21, w22, w23, w24, w25]))] (zQi (S := Unit) D (fun r_ _ => r_ = 0) (fun _ => [(a0, .inr (1, [.ref a1, w2, .int 20, w3, .ref a4, w5, w6, w7, w8])), (a1, .inr (6, [w9, .int 0, w10, w11, .int 0, w12, .int 0, .int 0, .ref a13, w14, w15, w16])), (a4, .inr (5, [.int 0, w17, w18])), (a13, .inr (2, [w19, .int 15, w20, w21, w22, w23, w24, w25]))])) := by
  refine zent (cc := cX1_costOfTried) (maxL := 1) (ret := (some .int)) (by decide) (Nat.le_of_ble_eq_true rfl) ?_
  intro p e s m below meth c A H locs ls hx hb hml hr ht hown hlocks hin hA hK hE hS hW hl
  have hown : s.vm.findClass RX1 = some m.cls := hown
  have hW : zPD D A [(a0, .inr (1, [.ref a1, w2, .int 20, w3, .ref a4, w5, w6, w7, w8])), (a1, .inr (6, [w9, .int 0, w10, w11, .int 0, w12, .int 0, .int 0, .ref a13, w14, w15, w16])), (a4, .inr (5, [.int 0, w17, w18])), (a13, .inr (2, [w19, .int 15, w20, w21, w22, w23, w24, w25]))] H := hW
  have hl : lv_has ls 1 [(0, .ref a0)] := hl
  refine lv_aload_n hx hb dX1_costOfTried_0 rfl (lv_at hl 0 rfl) ?_
  refine zgo_v (wr := [(a4, .inr (5, [.int 0, w17, w18])), (a13, .inr (2, [w19, .int 15, w20, w21, w22, w23, w24, w25]))]) (zrunV (As := []) (rest := []) ⟨hx, hb, hml, hown, ht⟩ (zc_X1_nobodyShuts_0 l D y a0 a1 w2 (.int 20) w3 (.ref a4) w5 w6 w7 w8 w9 w10 w11 (.int 0) w12 (.int 0) (.int 0) (.ref a13) w14 w15 w16) (cwV 0 ht (zgV zm_325 zm_326 zm_327 zm_28 zm_328) rfl rfl rfl (by decide +kernel) ⟨(Nat.le_of_ble_eq_true rfl), (Nat.le_of_ble_eq_true rfl)⟩) hK hE hS hA hW [0, 1] (by decide) rfl 0 rfl rfl rfl rfl hl.1 rfl (Nat.le_of_ble_eq_true rfl) dX1_costOfTried_1 (Nat.le_of_ble_eq_true rfl) (Nat.le_of_ble_eq_true rfl)) hS hA hW [0, 1] [2, 3] rfl rfl (by decide) (by decide) (fun u H locs hw hW hS => ?_)
  have hW : zPD D A [(a4, .inr (5, [.int 0, w17, w18])), (a13, .inr (2, [w19, .int 15, w20, w21, w22, w23, w24, w25])), (a0, .inr (1, [.ref a1, w2, .int 20, w3, .ref a4, w5, w6, w7, w8])), (a1, .inr (6, [w9, .int 0, w10, w11, .int 0, w12, .int 0, .int 0, .ref a13, w14, w15, w16]))] H := hW
  refine lv_aload_n hx hb dX1_costOfTried_4 rfl (lv_at hl 0 rfl) ?_
  refine lv_aload_n hx hb dX1_costOfTried_5 rfl (lv_at hl 0 rfl) ?_
  refine zget hx hb ht inlX1 hown hK hW 2 rfl rfl 4 (by decide) zm_113 rfl dX1_costOfTried_6 ?_
  refine lv_iconst (v := 0) hx hb dX1_costOfTried_9 (by decide) ?_
  refine lv_aload_n hx hb dX1_costOfTried_10 rfl (lv_at hl 0 rfl) ?_
  refine zget hx hb ht inlX1 hown hK hW 2 rfl rfl 4 (by decide) zm_113 rfl dX1_costOfTried_11 ?_
  refine zget hx hb ht inlX6 hown hK hW 0 rfl rfl 0 (by decide) zm_814 rfl dX1_costOfTried_14 ?_
  refine lv_aload_n hx hb dX1_costOfTried_17 rfl (lv_at hl 0 rfl) ?_
  refine zget hx hb ht inlX1 hown hK hW 2 rfl rfl 0 (by decide) zm_119 rfl dX1_costOfTried_18 ?_
  refine zget hx hb ht inlX7 hown hK hW 3 rfl rfl 4 (by decide) zm_815 rfl dX1_costOfTried_21 ?_
  refine zgo_i (wr := [(a4, .inr (5, [.int 0, w17, w18])), (a13, .inr (2, [w19, .int 15, w20, w21, w22, w23, w24, w25]))]) (zrunV (As := [.ref a4, .int 0, .int 0, .int 0]) (rest := []) ⟨hx, hb, hml, hown, ht⟩ (zc_X1_goAlong_0 l D y a0 a4 a1 w2 (.int 20) w3 (.ref a4) w5 w6 w7 w8 w9 (.int 0) w10 w11 (.int 0) w12 (.ref a13) w14 w15 w16) (cwV 4 ht (zgV zm_816 zm_817 zm_818 zm_28 zm_819) rfl rfl rfl (by decide +kernel) ⟨(Nat.le_of_ble_eq_true rfl), (Nat.le_of_ble_eq_true rfl)⟩) hK hE hS hA hW [2, 3] (by decide) rfl 0 rfl rfl rfl rfl hl.1 rfl (Nat.le_of_ble_eq_true rfl) dX1_costOfTried_24 (Nat.le_of_ble_eq_true rfl) (Nat.le_of_ble_eq_true rfl)) hS hA hW [2, 3] [0, 1] rfl rfl (by decide) (by decide) (fun r2_ u H locs hw hW hS => ?_)
  have hW : zPD D A [(a4, .inr (5, [.int 0, w17, w18])), (a13, .inr (2, [w19, .int 15, w20, w21, w22, w23, w24, w25])), (a0, .inr (1, [.ref a1, w2, .int 20, w3, .ref a4, w5, w6, w7, w8])), (a1, .inr (6, [w9, .int 0, w10, w11, .int 0, w12, .int 0, .int 0, .ref a13, w14, w15, w16]))] H := hW
  have hw : r2_ = 0 := hw
  subst hw
  refine lv_pop hx hb dX1_costOfTried_27 rfl ?_
  refine lv_aload_n hx hb dX1_costOfTried_28 rfl (lv_at hl 0 rfl) ?_
  refine zgo_i (wr := [(a4, .inr (5, [.int 0, w17, w18]))]) (zrunV (As := []) (rest := []) ⟨hx, hb, hml, hown, ht⟩ (zc_X1_cost_0 l D y a0 a1 w2 w3 (.ref a4) w5 w6 w7 w8 w9 w10 w11 w12 (.int 0) (.int 0) a13 w14 w15 w16 w19 w20 w21 w22 w23 w24 w25) (cwV 0 ht (zgV zm_884 zm_828 zm_829 zm_28 zm_830) rfl rfl rfl (by decide +kernel) ⟨(Nat.le_of_ble_eq_true rfl), (Nat.le_of_ble_eq_true rfl)⟩) hK hE hS hA hW [2, 3, 1] (by decide) rfl 0 rfl rfl rfl rfl hl.1 rfl (Nat.le_of_ble_eq_true rfl) dX1_costOfTried_29 (Nat.le_of_ble_eq_true rfl) (Nat.le_of_ble_eq_true rfl)) hS hA hW [2, 3, 1] [0] rfl rfl (by decide) (by decide) (fun r3_ u H locs hw hW hS => ?_)
  have hW : zPD D A [(a4, .inr (5, [.int 0, w17, w18])), (a0, .inr (1, [.ref a1, w2, .int 20, w3, .ref a4, w5, w6, w7, w8])), (a1, .inr (6, [w9, .int 0, w10, w11, .int 0, w12, .int 0, .int 0, .ref a13, w14, w15, w16])), (a13, .inr (2, [w19, .int 15, w20, w21, w22, w23, w24, w25]))] H := hW
  have hw : r3_ = 0 := hw
  subst hw
  exact zret_i (v := 0) hx hb hr hlocks hS () rfl (hW.sub [1, 2, 0, 3] (by decide) rfl) (Nat.le_of_ble_eq_true rfl) (Nat.le_of_ble_eq_true rfl) dX1_costOfTried_32
set_option maxHeartbeats 8000000 in
set_option maxRecDepth 100000 in
theorem zc_X6_becomeAs_0 (l : Launch) (D : va_G) (y : Nat → ClassId) (a0 : Nat) (a1 : Nat) (w2 : Value) (w3 : Value) (w4 : Value) (w5 : Value) : zM l D y yX6_becomeAs (Cond.code yX6_becomeAs cX6_becomeAs 3 none :: zT) { frames := 1, cells := 0, slots := 0, locals := 20 } [.ref a0, .ref a1] [(a0, .inr (5, [.int 0, w2, w3])), (a1, .inr (5, [.int 0, w4, w5]))] (zQv (S := Unit) D (fun _ => True) (fun _ => [(a0, .inr (5, [.int 0, w2, w3])), (a1, .inr (5, [.int 0, w4, w5]))])) := by
  refine zent (cc := cX6_becomeAs) (maxL := 3) (ret := none) (by decide) (Nat.le_of_ble_eq_true rfl) ?_
  intro p e s m below meth c A H locs ls hx hb hml hr ht hown hlocks hin hA hK hE hS hW hl
  have hown : s.vm.findClass RX6 = some m.cls := hown
  have hW : zPD D A [(a0, .inr (5, [.int 0, w2, w3])), (a1, .inr (5, [.int 0, w4, w5]))] H := hW
  have hl : lv_has ls 3 [(0, .ref a0), (1, .ref a1)] := hl
  refine lv_aload_n hx hb dX6_becomeAs_0 rfl (lv_at hl 0 rfl) ?_
  refine zgo_i (wr := [(a1, .inr (5, [.int 0, w4, w5]))]) (zrunV (As := []) (rest := []) ⟨hx, hb, hml, hown, ht⟩ (zc_X6_clear_0 l D y a0 w2 w3) (cwV 0 ht (zgV zm_889 zm_785 zm_786 zm_78 zm_787) rfl rfl rfl (by decide +kernel) ⟨(Nat.le_of_ble_eq_true rfl), (Nat.le_of_ble_eq_true rfl)⟩) hK hE hS hA hW [0] (by decide) rfl 0 rfl rfl rfl rfl hl.1 rfl (Nat.le_of_ble_eq_true rfl) dX6_becomeAs_1 (Nat.le_of_ble_eq_true rfl) (Nat.le_of_ble_eq_true rfl)) hS hA hW [0] [1] rfl rfl (by decide) (by decide) (fun r1_ u H locs hw hW hS => ?_)
  have hW : zPD D A [(a1, .inr (5, [.int 0, w4, w5])), (a0, .inr (5, [.int 0, w2, w3]))] H := hW
  have hw : r1_ = 0 := hw
  subst hw
  refine lv_pop hx hb dX6_becomeAs_4 rfl ?_
  refine lv_iconst (v := 0) hx hb dX6_becomeAs_5 (by decide) ?_
  refine lv_istore_n (lv' := [(2, .int 0), (0, .ref a0), (1, .ref a1)]) hx hb dX6_becomeAs_6 rfl hl (by decide) rfl (fun ls hl => ?_)
  refine lv_iload_n hx hb dX6_becomeAs_7 rfl (lv_at hl 0 rfl) ?_
  refine lv_aload_n hx hb dX6_becomeAs_8 rfl (lv_at hl 2 rfl) ?_
  refine zget hx hb ht inlX6 hown hK hW 0 rfl rfl 0 (by decide) zm_88 rfl dX6_becomeAs_9 ?_
  refine lv_icmp_ge (tgt := 38) hx hb dX6_becomeAs_12 (by decide) (fun c2_ => ?_) (fun c2_ => absurd (by decide) c2_)
  exact zret_v hx hb hr hlocks hS () trivial (hW.sub [1, 0] (by decide) rfl) (Nat.le_of_ble_eq_true rfl) (Nat.le_of_ble_eq_true rfl) dX6_becomeAs_38
set_option maxHeartbeats 8000000 in
set_option maxRecDepth 100000 in
theorem zc_X6_permute_0 (l : Launch) (D : va_G) (y : Nat → ClassId) (a0 : Nat) (w1 : Value) (w2 : Value) : zM l D y yX6_permute (Cond.code yX6_permute cX6_permute 5 (some .boolean) :: zT) { frames := 0, cells := 0, slots := 0, locals := 0 } [.ref a0] [(a0, .inr (5, [.int 0, w1, w2]))] (zQi (S := Unit) D (fun r_ _ => r_ = 0) (fun _ => [(a0, .inr (5, [.int 0, w1, w2]))])) := by
  refine zent (cc := cX6_permute) (maxL := 5) (ret := (some .boolean)) (by decide) (Nat.le_of_ble_eq_true rfl) ?_
  intro p e s m below meth c A H locs ls hx hb hml hr ht hown hlocks hin hA hK hE hS hW hl
  have hown : s.vm.findClass RX6 = some m.cls := hown
  have hW : zPD D A [(a0, .inr (5, [.int 0, w1, w2]))] H := hW
  have hl : lv_has ls 5 [(0, .ref a0)] := hl
  refine lv_aload_n hx hb dX6_permute_0 rfl (lv_at hl 0 rfl) ?_
  refine zget hx hb ht inlX6 hown hK hW 0 rfl rfl 0 (by decide) zm_88 rfl dX6_permute_1 ?_
  refine lv_iconst (v := 2) hx hb dX6_permute_4 (by decide) ?_
  refine lv_isub hx hb dX6_permute_5 ?_
  refine ztop (w := .int (-2)) (congrArg Value.int (by decide)) ?_
  refine lv_istore_n (lv' := [(1, .int (-2)), (0, .ref a0)]) hx hb dX6_permute_6 rfl hl (by decide) rfl (fun ls hl => ?_)
  refine lv_iload_n hx hb dX6_permute_7 rfl (lv_at hl 0 rfl) ?_
  refine lv_if_lt (tgt := 34) hx hb dX6_permute_8 (by decide) (fun c1_ => ?_) (fun c1_ => absurd (by decide) c1_)
  refine lv_iload_n hx hb dX6_permute_34 rfl (lv_at hl 0 rfl) ?_
  refine lv_if_ge (tgt := 40) hx hb dX6_permute_35 (by decide) (fun c2_ => absurd c2_ (by decide)) (fun c2_ => ?_)
  refine lv_iconst (v := 0) hx hb dX6_permute_38 (by decide) ?_
  exact zret_z (v := 0) hx hb hr hlocks hS () rfl rfl hW (Nat.le_of_ble_eq_true rfl) (Nat.le_of_ble_eq_true rfl) dX6_permute_39
set_option maxHeartbeats 8000000 in
set_option maxRecDepth 100000 in
theorem zc_X1_seekBest_0 (l : Launch) (D : va_G) (y : Nat → ClassId) (a0 : Nat) (a1 : Nat) (w2 : Value) (w3 : Value) (a4 : Nat) (a5 : Nat) (w6 : Value) (w7 : Value) (w8 : Value) (w9 : Value) (w10 : Value) (w11 : Value) (a12 : Nat) (w13 : Value) (w14 : Value) (w15 : Value) (w16 : Value) (w17 : Value) (w18 : Value) (w19 : Value) (w20 : Value) (w21 : Value) (w22 : Value) (w23 : Value) (w24 : Value) (w25 : Value) (w26 : Value) : zM l D y yX1_seekBest (Cond.code yX1_seekBest cX1_seekBest 3 none :: zT) { frames := 3, cells := 0, slots := 0, locals := 64 } [.ref a0] [(a0, .inr (1, [.ref a1, w2, .int 20, w3, .ref a4, .ref a5, .int 0, w6, w7])), (a1, .inr (6, [w8, .int 0, w9, w10, .int 0, w11, .int 0, .int 0, .ref a12, w13, w14, w15])), (a4, .inr (5, [.int 0, w16, w17])), (a5, .inr (5, [.int 0, w18, w19])), (a12, .inr (2, [w20, .int 15, w21, w22, w23, w24, w25, w26]))] (zQv (S := Unit) D (fun _ => True) (fun _ => [(a0, .inr (1, [.ref a1, w2, .int 20, w3, .ref a4, .ref a5, .int 0, w6, w7])), (a1, .inr (6, [w8, .int 0, w9, w10, .int 0, w11, .int 0, .int 0, .ref a12, w13, w14, w15])), (a4, .inr (5, [.int 0, w16, w17])), (a5, .inr (5, [.int 0, w18, w19])), (a12, .inr (2, [w20, .int 15, w21, w22, w23, w24, w25, w26]))])) := by
  refine zent (cc := cX1_seekBest) (maxL := 3) (ret := none) (by decide) (Nat.le_of_ble_eq_true rfl) ?_
  intro p e s m below meth c A H locs ls hx hb hml hr ht hown hlocks hin hA hK hE hS hW hl
  have hown : s.vm.findClass RX1 = some m.cls := hown
  have hW : zPD D A [(a0, .inr (1, [.ref a1, w2, .int 20, w3, .ref a4, .ref a5, .int 0, w6, w7])), (a1, .inr (6, [w8, .int 0, w9, w10, .int 0, w11, .int 0, .int 0, .ref a12, w13, w14, w15])), (a4, .inr (5, [.int 0, w16, w17])), (a5, .inr (5, [.int 0, w18, w19])), (a12, .inr (2, [w20, .int 15, w21, w22, w23, w24, w25, w26]))] H := hW
  have hl : lv_has ls 3 [(0, .ref a0)] := hl
  refine lv_aload_n hx hb dX1_seekBest_0 rfl (lv_at hl 0 rfl) ?_
  refine zget hx hb ht inlX1 hown hK hW 0 rfl rfl 4 (by decide) zm_113 rfl dX1_seekBest_1 ?_
  refine zgo_i (wr := [(a0, .inr (1, [.ref a1, w2, .int 20, w3, .ref a4, .ref a5, .int 0, w6, w7])), (a1, .inr (6, [w8, .int 0, w9, w10, .int 0, w11, .int 0, .int 0, .ref a12, w13, w14, w15])), (a5, .inr (5, [.int 0, w18, w19])), (a12, .inr (2, [w20, .int 15, w21, w22, w23, w24, w25, w26]))]) (zrunV (As := []) (rest := []) ⟨hx, hb, hml, hown, ht⟩ (zc_X6_clear_0 l D y a4 w16 w17) (cwV 0 ht (zgV zm_878 zm_785 zm_786 zm_78 zm_787) rfl rfl rfl (by decide +kernel) ⟨(Nat.le_of_ble_eq_true rfl), (Nat.le_of_ble_eq_true rfl)⟩) hK hE hS hA hW [2] (by decide) rfl 0 rfl rfl rfl rfl hl.1 rfl (Nat.le_of_ble_eq_true rfl) dX1_seekBest_4 (Nat.le_of_ble_eq_true rfl) (Nat.le_of_ble_eq_true rfl)) hS hA hW [2] [0, 1, 3, 4] rfl rfl (by decide) (by decide) (fun r1_ u H locs hw hW hS => ?_)
  have hW : zPD D A [(a0, .inr (1, [.ref a1, w2, .int 20, w3, .ref a4, .ref a5, .int 0, w6, w7])), (a1, .inr (6, [w8, .int 0, w9, w10, .int 0, w11, .int 0, .int 0, .ref a12, w13, w14, w15])), (a5, .inr (5, [.int 0, w18, w19])), (a12, .inr (2, [w20, .int 15, w21, w22, w23, w24, w25, w26])), (a4, .inr (5, [.int 0, w16, w17]))] H := hW
  have hw : r1_ = 0 := hw
  subst hw
  refine lv_pop hx hb dX1_seekBest_7 rfl ?_
  refine lv_iconst (v := 0) hx hb dX1_seekBest_8 (by decide) ?_
  refine lv_istore_n (lv' := [(1, .int 0), (0, .ref a0)]) hx hb dX1_seekBest_9 rfl hl (by decide) rfl (fun ls hl => ?_)
  refine lv_iload_n hx hb dX1_seekBest_10 rfl (lv_at hl 0 rfl) ?_
  refine lv_aload_n hx hb dX1_seekBest_11 rfl (lv_at hl 1 rfl) ?_
  refine zget hx hb ht inlX1 hown hK hW 0 rfl rfl 0 (by decide) zm_119 rfl dX1_seekBest_12 ?_
  refine zget hx hb ht inlX7 hown hK hW 1 rfl rfl 1 (by decide) zm_284 rfl dX1_seekBest_15 ?_
  refine lv_icmp_ge (tgt := 52) hx hb dX1_seekBest_18 (by decide) (fun c2_ => ?_) (fun c2_ => absurd (by decide) c2_)
  refine lv_iconst (v := 0) hx hb dX1_seekBest_52 (by decide) ?_
  refine lv_istore_n (lv' := [(1, .int 0), (0, .ref a0)]) hx hb dX1_seekBest_53 rfl hl (by decide) rfl (fun ls hl => ?_)
  refine lv_iload_n hx hb dX1_seekBest_54 rfl (lv_at hl 0 rfl) ?_
  refine lv_bipush (v := 120) hx hb dX1_seekBest_55 (by decide) ?_
  refine lv_icmp_ge (tgt := 110) hx hb dX1_seekBest_57 (by decide) (fun c3_ => absurd c3_ (by decide)) (fun c3_ => ?_)
  refine lv_aload_n hx hb dX1_seekBest_60 rfl (lv_at hl 1 rfl) ?_
  refine zgo_i (wr := [(a5, .inr (5, [.int 0, w18, w19]))]) (zrunV (As := []) (rest := []) ⟨hx, hb, hml, hown, ht⟩ (zc_X1_costOfTried_0 l D y a0 a1 w2 w3 a4 (.ref a5) (.int 0) w6 w7 w8 w9 w10 w11 a12 w13 w14 w15 w16 w17 w20 w21 w22 w23 w24 w25 w26) (cwV 0 ht (zgV zm_880 zm_881 zm_882 zm_28 zm_883) rfl rfl rfl (by decide +kernel) ⟨(Nat.le_of_ble_eq_true rfl), (Nat.le_of_ble_eq_true rfl)⟩) hK hE hS hA hW [0, 1, 4, 3] (by decide) rfl 0 rfl rfl rfl rfl hl.1 rfl (Nat.le_of_ble_eq_true rfl) dX1_seekBest_61 (Nat.le_of_ble_eq_true rfl) (Nat.le_of_ble_eq_true rfl)) hS hA hW [0, 1, 4, 3] [2] rfl rfl (by decide) (by decide) (fun r4_ u H locs hw hW hS => ?_)
  have hW : zPD D A [(a5, .inr (5, [.int 0, w18, w19])), (a0, .inr (1, [.ref a1, w2, .int 20, w3, .ref a4, .ref a5, .int 0, w6, w7])), (a1, .inr (6, [w8, .int 0, w9, w10, .int 0, w11, .int 0, .int 0, .ref a12, w13, w14, w15])), (a4, .inr (5, [.int 0, w16, w17])), (a12, .inr (2, [w20, .int 15, w21, w22, w23, w24, w25, w26]))] H := hW
  have hw : r4_ = 0 := hw
  subst hw
  refine lv_istore_n (lv' := [(2, .int 0), (1, .int 0), (0, .ref a0)]) hx hb dX1_seekBest_64 rfl hl (by decide) rfl (fun ls hl => ?_)
  refine lv_iload_n hx hb dX1_seekBest_65 rfl (lv_at hl 1 rfl) ?_
  refine lv_if_eq (tgt := 77) hx hb dX1_seekBest_66 (by decide) (fun c5_ => ?_) (fun c5_ => absurd (by decide) c5_)
  refine lv_aload_n hx hb dX1_seekBest_77 rfl (lv_at hl 2 rfl) ?_
  refine lv_iload_n hx hb dX1_seekBest_78 rfl (lv_at hl 0 rfl) ?_
  refine zput (ws' := [(a5, .inr (5, [.int 0, w18, w19])), (a0, .inr (1, [.ref a1, w2, .int 20, w3, .ref a4, .ref a5, .int 0, w6, w7])), (a1, .inr (6, [w8, .int 0, w9, w10, .int 0, w11, .int 0, .int 0, .ref a12, w13, w14, w15])), (a4, .inr (5, [.int 0, w16, w17])), (a12, .inr (2, [w20, .int 15, w21, w22, w23, w24, w25, w26]))]) hx hb ht inlX1 tyX1 tyX1_ok nmX1 hown hK hS hW 1 rfl rfl 6 (by decide) zm_115 rfl rfl rfl (Nat.le_of_ble_eq_true rfl) rfl dX1_seekBest_79 (fun H locs hW hS => ?_)
  refine lv_aload_n hx hb dX1_seekBest_82 rfl (lv_at hl 2 rfl) ?_
  refine zget hx hb ht inlX1 hown hK hW 1 rfl rfl 5 (by decide) zm_114 rfl dX1_seekBest_83 ?_
  refine lv_aload_n hx hb dX1_seekBest_86 rfl (lv_at hl 2 rfl) ?_
  refine zget hx hb ht inlX1 hown hK hW 1 rfl rfl 4 (by decide) zm_113 rfl dX1_seekBest_87 ?_
  refine zgo_v (wr := [(a0, .inr (1, [.ref a1, w2, .int 20, w3, .ref a4, .ref a5, .int 0, w6, w7])), (a1, .inr (6, [w8, .int 0, w9, w10, .int 0, w11, .int 0, .int 0, .ref a12, w13, w14, w15])), (a12, .inr (2, [w20, .int 15, w21, w22, w23, w24, w25, w26]))]) (zrunV (As := [.ref a4]) (rest := []) ⟨hx, hb, hml, hown, ht⟩ (zc_X6_becomeAs_0 l D y a5 a4 w18 w19 w16 w17) (cwV 1 ht (zgV zm_885 zm_886 zm_887 zm_78 zm_888) rfl rfl rfl (by decide +kernel) ⟨(Nat.le_of_ble_eq_true rfl), (Nat.le_of_ble_eq_true rfl)⟩) hK hE hS hA hW [0, 3] (by decide) rfl 0 rfl rfl rfl rfl hl.1 rfl (Nat.le_of_ble_eq_true rfl) dX1_seekBest_90 (Nat.le_of_ble_eq_true rfl) (Nat.le_of_ble_eq_true rfl)) hS hA hW [0, 3] [1, 2, 4] rfl rfl (by decide) (by decide) (fun u H locs hw hW hS => ?_)
  have hW : zPD D A [(a0, .inr (1, [.ref a1, w2, .int 20, w3, .ref a4, .ref a5, .int 0, w6, w7])), (a1, .inr (6, [w8, .int 0, w9, w10, .int 0, w11, .int 0, .int 0, .ref a12, w13, w14, w15])), (a12, .inr (2, [w20, .int 15, w21, w22, w23, w24, w25, w26])), (a5, .inr (5, [.int 0, w18, w19])), (a4, .inr (5, [.int 0, w16, w17]))] H := hW
  refine lv_aload_n hx hb dX1_seekBest_93 rfl (lv_at hl 2 rfl) ?_
  refine zget hx hb ht inlX1 hown hK hW 0 rfl rfl 4 (by decide) zm_113 rfl dX1_seekBest_94 ?_
  refine zgo_i (wr := [(a0, .inr (1, [.ref a1, w2, .int 20, w3, .ref a4, .ref a5, .int 0, w6, w7])), (a1, .inr (6, [w8, .int 0, w9, w10, .int 0, w11, .int 0, .int 0, .ref a12, w13, w14, w15])), (a12, .inr (2, [w20, .int 15, w21, w22, w23, w24, w25, w26])), (a5, .inr (5, [.int 0, w18, w19]))]) (zrunV (As := []) (rest := []) ⟨hx, hb, hml, hown, ht⟩ (zc_X6_permute_0 l D y a4 w16 w17) (cwV 0 ht (zgV zm_891 zm_892 zm_893 zm_78 zm_894) rfl rfl rfl (by decide +kernel) ⟨(Nat.le_of_ble_eq_true rfl), (Nat.le_of_ble_eq_true rfl)⟩) hK hE hS hA hW [4] (by decide) rfl 0 rfl rfl rfl rfl hl.1 rfl (Nat.le_of_ble_eq_true rfl) dX1_seekBest_97 (Nat.le_of_ble_eq_true rfl) (Nat.le_of_ble_eq_true rfl)) hS hA hW [4] [0, 1, 2, 3] rfl rfl (by decide) (by decide) (fun r7_ u H locs hw hW hS => ?_)
  have hW : zPD D A [(a0, .inr (1, [.ref a1, w2, .int 20, w3, .ref a4, .ref a5, .int 0, w6, w7])), (a1, .inr (6, [w8, .int 0, w9, w10, .int 0, w11, .int 0, .int 0, .ref a12, w13, w14, w15])), (a12, .inr (2, [w20, .int 15, w21, w22, w23, w24, w25, w26])), (a5, .inr (5, [.int 0, w18, w19])), (a4, .inr (5, [.int 0, w16, w17]))] H := hW
  have hw : r7_ = 0 := hw
  subst hw
  refine lv_if_ne (tgt := 104) hx hb dX1_seekBest_100 (by decide) (fun c8_ => absurd (by decide) c8_) (fun c8_ => ?_)
  exact zret_v hx hb hr hlocks hS () trivial (hW.sub [0, 1, 4, 3, 2] (by decide) rfl) (Nat.le_of_ble_eq_true rfl) (Nat.le_of_ble_eq_true rfl) dX1_seekBest_103
set_option maxHeartbeats 8000000 in
set_option maxRecDepth 100000 in
theorem zc_X9_best_0 (l : Launch) (D : va_G) (y : Nat → ClassId) (a0 : Nat) (p1 : Int32) (w2 : Value) (w3 : Value) (w4 : Value) (a5 : Nat) (w6 : Value) (w7 : Value) (a8 : Nat) (w9 : Value) (w10 : Value) (w11 : Value) (w12 : Value) (a13 : Nat) (w14 : Value) (w15 : Value) (w16 : Value) (w17 : Value) (a18 : Nat) (a19 : Nat) (w20 : Value) (a21 : Nat) (w22 : Value) (w23 : Value) (w24 : Value) (w25 : Value) (w26 : Value) (w27 : Value) (w28 : Value) (w29 : Value) (w30 : Value) (w31 : Value) (w32 : Value) : zM l D y yX9_best (Cond.code yX9_best cX9_best 3 (some .int) :: zT) { frames := 4, cells := 0, slots := 0, locals := 86 } [.ref a0, .int p1] [(a0, .inr (8, [w2, w3, w4, .ref a5, w6, w7, .ref a8, w9, w10])), (a5, .inr (6, [w11, .int 0, .int 20, .int 0, .int 0, w12, .int 0, .int 0, .ref a13, w14, w15, w16])), (a8, .inr (1, [.ref a5, .int 0, .int 0, w17, .ref a18, .ref a19, .int 0, w20, .ref a21])), (a13, .inr (2, [w22, .int 15, w23, w24, w25, w26, w27, w28])), (a18, .inr (5, [.int 0, w29, w30])), (a19, .inr (5, [.int 0, w31, w32])), (a21, .inl (y 2, 4, .inl (fun _ => 0)))] (zQi (S := Unit) D (fun r_ _ => r_ = (if p1 < (-1) then (-1) else (if 4 < p1 then (-1) else (if p1 < 0 then 0 else (-5))))) (fun _ => [])) := by
  refine zent (cc := cX9_best) (maxL := 3) (ret := (some .int)) (by decide) (Nat.le_of_ble_eq_true rfl) ?_
  intro p e s m below meth c A H locs ls hx hb hml hr ht hown hlocks hin hA hK hE hS hW hl
  have hown : s.vm.findClass RX9 = some m.cls := hown
  have hW : zPD D A [(a0, .inr (8, [w2, w3, w4, .ref a5, w6, w7, .ref a8, w9, w10])), (a5, .inr (6, [w11, .int 0, .int 20, .int 0, .int 0, w12, .int 0, .int 0, .ref a13, w14, w15, w16])), (a8, .inr (1, [.ref a5, .int 0, .int 0, w17, .ref a18, .ref a19, .int 0, w20, .ref a21])), (a13, .inr (2, [w22, .int 15, w23, w24, w25, w26, w27, w28])), (a18, .inr (5, [.int 0, w29, w30])), (a19, .inr (5, [.int 0, w31, w32])), (a21, .inl (y 2, 4, .inl (fun _ => 0)))] H := hW
  have hl : lv_has ls 3 [(0, .ref a0), (1, .int p1)] := hl
  refine lv_iload_n hx hb dX9_best_0 rfl (lv_at hl 1 rfl) ?_
  refine lv_iconst (v := (-1)) hx hb dX9_best_1 (by decide) ?_
  refine lv_iconst (v := 4) hx hb dX9_best_2 (by decide) ?_
  refine zgo0_i (zrunS (As := [.int p1, .int (-1), .int 4]) (rest := []) ⟨hx, hb, hml, hown, ht⟩ (zc_X9_within_8 l D y p1) (va_cwS 3 ht (zgS zm_222 zm_223 zm_2 zm_224) rfl rfl rfl (by decide +kernel) ⟨(Nat.le_of_ble_eq_true rfl), (Nat.le_of_ble_eq_true rfl)⟩) hK hE hS hA hW [] (by decide) rfl rfl hl.1 rfl (Nat.le_of_ble_eq_true rfl) dX9_best_3 (Nat.le_of_ble_eq_true rfl) (Nat.le_of_ble_eq_true rfl)) hS hA hW (fun r1_ u H locs hw hW hS => ?_)
  have hw : r1_ = (if p1 < (-1) then 0 else (if 4 < p1 then 0 else 1)) := hw
  by_cases c2_ : p1 < (-1)
  · have b3_ : (-2147483648) ≤ Int32.toInt p1 ∧ Int32.toInt p1 ≤ (-2) := (by have u0 := zbnd p1; have u1 := (zi_lt _ _).mp c2_; have u2 : ((-1) : Int32).toInt = -1 := (by decide); omega)
    rw [if_pos c2_] at hw
    subst hw
    refine lv_if_ne (tgt := 11) hx hb dX9_best_6 (by decide) (fun c4_ => absurd (by decide) c4_) (fun c4_ => ?_)
    refine lv_iconst (v := (-1)) hx hb dX9_best_9 (by decide) ?_
    exact zret_i (v := (-1)) hx hb hr hlocks hS () (by show _ = _; rw [if_pos c2_]) (hW.sub [] (by decide) rfl) (Nat.le_of_ble_eq_true rfl) (Nat.le_of_ble_eq_true rfl) dX9_best_10
  · have b5_ : (-1) ≤ Int32.toInt p1 ∧ Int32.toInt p1 ≤ 2147483647 := (by have u0 := zbnd p1; have u1 := (not_congr (zi_lt _ _)).mp c2_; have u2 : ((-1) : Int32).toInt = -1 := (by decide); omega)
    rw [if_neg c2_] at hw
    by_cases c6_ : 4 < p1
    · have b7_ : 5 ≤ Int32.toInt p1 ∧ Int32.toInt p1 ≤ 2147483647 := (by have u0 := b5_; have u1 := (zi_lt _ _).mp c6_; have u2 : (4 : Int32).toInt = 4 := (by decide); omega)
      rw [if_pos c6_] at hw
      subst hw
      refine lv_if_ne (tgt := 11) hx hb dX9_best_6 (by decide) (fun c8_ => absurd (by decide) c8_) (fun c8_ => ?_)
      refine lv_iconst (v := (-1)) hx hb dX9_best_9 (by decide) ?_
      exact zret_i (v := (-1)) hx hb hr hlocks hS () (by show _ = _; rw [if_neg c2_, if_pos c6_]) (hW.sub [] (by decide) rfl) (Nat.le_of_ble_eq_true rfl) (Nat.le_of_ble_eq_true rfl) dX9_best_10
    · have b9_ : (-1) ≤ Int32.toInt p1 ∧ Int32.toInt p1 ≤ 4 := (by have u0 := b5_; have u1 := (not_congr (zi_lt _ _)).mp c6_; have u2 : (4 : Int32).toInt = 4 := (by decide); omega)
      rw [if_neg c6_] at hw
      subst hw
      refine lv_if_ne (tgt := 11) hx hb dX9_best_6 (by decide) (fun c10_ => ?_) (fun c10_ => absurd c10_ (by decide))
      refine lv_aload_n hx hb dX9_best_11 rfl (lv_at hl 0 rfl) ?_
      refine zget hx hb ht inlX9 hown hK hW 0 rfl rfl 3 (by decide) zm_23 rfl dX9_best_12 ?_
      refine zgo_i (wr := [(a0, .inr (8, [w2, w3, w4, .ref a5, w6, w7, .ref a8, w9, w10])), (a8, .inr (1, [.ref a5, .int 0, .int 0, w17, .ref a18, .ref a19, .int 0, w20, .ref a21])), (a13, .inr (2, [w22, .int 15, w23, w24, w25, w26, w27, w28])), (a18, .inr (5, [.int 0, w29, w30])), (a19, .inr (5, [.int 0, w31, w32])), (a21, .inl (y 2, 4, .inl (fun _ => 0)))]) (zrunV (As := []) (rest := []) ⟨hx, hb, hml, hown, ht⟩ (zc_X7_openBits_0 l D y a5 w11 (.int 20) (.int 0) (.int 0) w12 (.int 0) (.int 0) (.ref a13) w14 w15 w16) (cwV 0 ht (zgV zm_705 zm_706 zm_707 zm_22 zm_708) rfl rfl rfl (by decide +kernel) ⟨(Nat.le_of_ble_eq_true rfl), (Nat.le_of_ble_eq_true rfl)⟩) hK hE hS hA hW [1] (by decide) rfl 0 rfl rfl rfl rfl hl.1 rfl (Nat.le_of_ble_eq_true rfl) dX9_best_15 (Nat.le_of_ble_eq_true rfl) (Nat.le_of_ble_eq_true rfl)) hS hA hW [1] [0, 2, 3, 4, 5, 6] rfl rfl (by decide) (by decide) (fun r11_ u H locs hw hW hS => ?_)
      have hW : zPD D A [(a0, .inr (8, [w2, w3, w4, .ref a5, w6, w7, .ref a8, w9, w10])), (a8, .inr (1, [.ref a5, .int 0, .int 0, w17, .ref a18, .ref a19, .int 0, w20, .ref a21])), (a13, .inr (2, [w22, .int 15, w23, w24, w25, w26, w27, w28])), (a18, .inr (5, [.int 0, w29, w30])), (a19, .inr (5, [.int 0, w31, w32])), (a21, .inl (y 2, 4, .inl (fun _ => 0))), (a5, .inr (6, [w11, .int 0, .int 20, .int 0, .int 0, w12, .int 0, .int 0, .ref a13, w14, w15, w16]))] H := hW
      have hw : r11_ = 0 := hw
      subst hw
      refine zgo0_i (zrunS (As := [.int 0]) (rest := []) ⟨hx, hb, hml, hown, ht⟩ (zc_J6_bitCount_0f7a4_0 l D y) (va_cwS 1 ht (zgS zm_867 zm_868 zm_869 zm_870) rfl rfl rfl (by decide +kernel) ⟨(Nat.le_of_ble_eq_true rfl), (Nat.le_of_ble_eq_true rfl)⟩) hK hE hS hA hW [] (by decide) rfl rfl hl.1 rfl (Nat.le_of_ble_eq_true rfl) dX9_best_18 (Nat.le_of_ble_eq_true rfl) (Nat.le_of_ble_eq_true rfl)) hS hA hW (fun r12_ u H locs hw hW hS => ?_)
      have hw : r12_ = 0 := hw
      subst hw
      refine lv_istore_n (lv' := [(2, .int 0), (0, .ref a0), (1, .int p1)]) hx hb dX9_best_21 rfl hl (by decide) rfl (fun ls hl => ?_)
      refine lv_iload_n hx hb dX9_best_22 rfl (lv_at hl 0 rfl) ?_
      refine lv_iconst (v := 5) hx hb dX9_best_23 (by decide) ?_
      refine lv_icmp_le (tgt := 30) hx hb dX9_best_24 (by decide) (fun c13_ => ?_) (fun c13_ => absurd (by decide) c13_)
      refine lv_iload_n hx hb dX9_best_30 rfl (lv_at hl 2 rfl) ?_
      refine lv_iload_n hx hb dX9_best_31 rfl (lv_at hl 0 rfl) ?_
      refine lv_icmp_lt (tgt := 38) hx hb dX9_best_32 (by decide) (fun c14_ => ?_) (fun c14_ => ?_)
      · have b15_ : (-1) ≤ Int32.toInt p1 ∧ Int32.toInt p1 ≤ (-1) := (by have u0 := b9_; have u1 := (zi_lt _ _).mp c14_; have u2 : (0 : Int32).toInt = 0 := (by decide); omega)
        refine lv_aload_n hx hb dX9_best_38 rfl (lv_at hl 1 rfl) ?_
        refine zget hx hb ht inlX9 hown hK hW 0 rfl rfl 6 (by decide) zm_29 rfl dX9_best_39 ?_
        refine zgo_v (wr := [(a0, .inr (8, [w2, w3, w4, .ref a5, w6, w7, .ref a8, w9, w10])), (a13, .inr (2, [w22, .int 15, w23, w24, w25, w26, w27, w28])), (a18, .inr (5, [.int 0, w29, w30])), (a19, .inr (5, [.int 0, w31, w32]))]) (zrunV (As := []) (rest := []) ⟨hx, hb, hml, hown, ht⟩ (zc_X1_beginFromNow_0 l D y a8 a5 w17 (.ref a18) (.ref a19) (.int 0) w20 a21 w11 (.int 0) w12 (.int 0) (.int 0) (.ref a13) w14 w15 w16) (cwV 0 ht (zgV zm_274 zm_275 zm_276 zm_28 zm_277) rfl rfl rfl (by decide +kernel) ⟨(Nat.le_of_ble_eq_true rfl), (Nat.le_of_ble_eq_true rfl)⟩) hK hE hS hA hW [1, 6, 5] (by decide) rfl 0 rfl rfl rfl rfl hl.1 rfl (Nat.le_of_ble_eq_true rfl) dX9_best_42 (Nat.le_of_ble_eq_true rfl) (Nat.le_of_ble_eq_true rfl)) hS hA hW [1, 6, 5] [0, 2, 3, 4] rfl rfl (by decide) (by decide) (fun u H locs hw hW hS => ?_)
        have hW : zPD D A [(a0, .inr (8, [w2, w3, w4, .ref a5, w6, w7, .ref a8, w9, w10])), (a13, .inr (2, [w22, .int 15, w23, w24, w25, w26, w27, w28])), (a18, .inr (5, [.int 0, w29, w30])), (a19, .inr (5, [.int 0, w31, w32])), (a8, .inr (1, [.ref a5, .int 0, .int 20, w17, .ref a18, .ref a19, .int 0, w20, .ref a21])), (a5, .inr (6, [w11, .int 0, .int 20, .int 0, .int 0, w12, .int 0, .int 0, .ref a13, w14, w15, w16])), (a21, .inl (y 2, 4, .inl (upd (fun _ => 0) 0 1)))] H := hW
        refine lv_aload_n hx hb dX9_best_45 rfl (lv_at hl 1 rfl) ?_
        refine zget hx hb ht inlX9 hown hK hW 0 rfl rfl 6 (by decide) zm_29 rfl dX9_best_46 ?_
        refine zgo_v (wr := [(a0, .inr (8, [w2, w3, w4, .ref a5, w6, w7, .ref a8, w9, w10])), (a21, .inl (y 2, 4, .inl (upd (fun _ => 0) 0 1)))]) (zrunV (As := []) (rest := []) ⟨hx, hb, hml, hown, ht⟩ (zc_X1_seekBest_0 l D y a8 a5 (.int 0) w17 a18 a19 w20 (.ref a21) w11 (.int 20) (.int 0) w12 a13 w14 w15 w16 w29 w30 w31 w32 w22 w23 w24 w25 w26 w27 w28) (cwV 0 ht (zgV zm_874 zm_875 zm_876 zm_28 zm_877) rfl rfl rfl (by decide +kernel) ⟨(Nat.le_of_ble_eq_true rfl), (Nat.le_of_ble_eq_true rfl)⟩) hK hE hS hA hW [4, 5, 2, 3, 1] (by decide) rfl 0 rfl rfl rfl rfl hl.1 rfl (Nat.le_of_ble_eq_true rfl) dX9_best_49 (Nat.le_of_ble_eq_true rfl) (Nat.le_of_ble_eq_true rfl)) hS hA hW [4, 5, 2, 3, 1] [0, 6] rfl rfl (by decide) (by decide) (fun u H locs hw hW hS => ?_)
        have hW : zPD D A [(a0, .inr (8, [w2, w3, w4, .ref a5, w6, w7, .ref a8, w9, w10])), (a21, .inl (y 2, 4, .inl (upd (fun _ => 0) 0 1))), (a8, .inr (1, [.ref a5, .int 0, .int 20, w17, .ref a18, .ref a19, .int 0, w20, .ref a21])), (a5, .inr (6, [w11, .int 0, .int 20, .int 0, .int 0, w12, .int 0, .int 0, .ref a13, w14, w15, w16])), (a18, .inr (5, [.int 0, w29, w30])), (a19, .inr (5, [.int 0, w31, w32])), (a13, .inr (2, [w22, .int 15, w23, w24, w25, w26, w27, w28]))] H := hW
        refine lv_iload_n hx hb dX9_best_52 rfl (lv_at hl 2 rfl) ?_
        refine lv_iconst (v := (-1)) hx hb dX9_best_53 (by decide) ?_
        refine lv_icmp_ne (tgt := 67) hx hb dX9_best_54 (by decide) (fun c18_ => absurd (by have z0 := b15_; have e0 : ((-1) : Int32).toInt = -1 := (by decide); rw [zi_eq]; omega) c18_) (fun c18_ => ?_)
        refine lv_aload_n hx hb dX9_best_57 rfl (lv_at hl 1 rfl) ?_
        refine zget hx hb ht inlX9 hown hK hW 0 rfl rfl 6 (by decide) zm_29 rfl dX9_best_58 ?_
        refine zget hx hb ht inlX1 hown hK hW 2 rfl rfl 6 (by decide) zm_864 rfl dX9_best_61 ?_
        refine lv_goto (tgt := 79) hx hb dX9_best_64 (by decide) ?_
        exact zret_i (v := 0) hx hb hr hlocks hS () (by show _ = _; rw [if_neg c2_, if_neg c6_, if_pos c14_]) (hW.sub [] (by decide) rfl) (Nat.le_of_ble_eq_true rfl) (Nat.le_of_ble_eq_true rfl) dX9_best_79
      · have b19_ : 0 ≤ Int32.toInt p1 ∧ Int32.toInt p1 ≤ 4 := (by have u0 := b9_; have u1 := (not_congr (zi_lt _ _)).mp c14_; have u2 : (0 : Int32).toInt = 0 := (by decide); omega)
        refine lv_bipush (v := (-5)) hx hb dX9_best_35 (by decide) ?_
        exact zret_i (v := (-5)) hx hb hr hlocks hS () (by show _ = _; rw [if_neg c2_, if_neg c6_, if_neg c14_]) (hW.sub [] (by decide) rfl) (Nat.le_of_ble_eq_true rfl) (Nat.le_of_ble_eq_true rfl) dX9_best_37
set_option maxHeartbeats 8000000 in
set_option maxRecDepth 100000 in
theorem zc_X10_in_9 (l : Launch) (D : va_G) (y : Nat → ClassId) (a0 : Nat) (p1 : Int32) (w2 : Value) (w3 : Value) (w4 : Value) (w5 : Value) (w6 : Value) (w7 : Value) (w8 : Value) (w9 : Value) (w10 : Value) (w11 : Value) (w12 : Value) (w13 : Value) (w14 : Value) (w15 : Value) (w16 : Value) (w17 : Value) (w18 : Value) (w19 : Value) (w20 : Value) (w21 : Value) (w22 : Value) (w23 : Value) (w24 : Value) (w25 : Value) (w26 : Value) (w27 : Value) (w28 : Value) (w29 : Value) (w30 : Value) (w31 : Value) (w32 : Value) (w33 : Value) (w34 : Value) (w35 : Value) (w36 : Value) (w37 : Value) (w38 : Value) (w39 : Value) (w40 : Value) (w41 : Value) (w42 : Value) (w43 : Value) (w44 : Value) (w45 : Value) (w46 : Value) (w47 : Value) (w48 : Value) (w49 : Value) (w50 : Value) (w51 : Value) (w52 : Value) (w53 : Value) (w54 : Value) (w55 : Value) (w56 : Value) (w57 : Value) (w58 : Value) (w59 : Value) (w60 : Value) (w61 : Value) (w62 : Value) (w63 : Value) (w64 : Value) (w65 : Value) (w66 : Value) (w67 : Value) (w68 : Value) (w69 : Value) (w70 : Value) (w71 : Value) (w72 : Value) (w73 : Value) (w74 : Value) (w75 : Value) (w76 : Value) (w77 : Value) : zM l D y yX10_in (Cond.code yX10_in cX10_in 4 (some .boolean) :: zT) { frames := 0, cells := 0, slots := 0, locals := 0 } [.ref a0, .int p1, .int (-1), .int 4] [(a0, .inr (9, [w2, w3, w4, w5, w6, w7, w8, w9, w10, w11, w12, w13, w14, w15, w16, w17, w18, w19, w20, w21, w22, w23, w24, w25, w26, w27, w28, w29, w30, w31, w32, w33, w34, w35, w36, w37, w38, w39, w40, w41, w42, w43, w44, w45, w46, w47, w48, w49, w50, w51, w52, w53, w54, w55, w56, w57, w58, w59, w60, w61, w62, w63, w64, w65, w66, w67, w68, w69, w70, w71, w72, w73, w74, w75, w76, w77]))] (zQi (S := Unit) D (fun r_ _ => r_ = (if p1 < (-1) then 0 else (if 4 < p1 then 0 else 1))) (fun _ => [(a0, .inr (9, [w2, w3, w4, w5, w6, w7, w8, w9, w10, w11, w12, w13, w14, w15, w16, w17, w18, w19, w20, w21, w22, w23, w24, w25, w26, w27, w28, w29, w30, w31, w32, w33, w34, w35, w36, w37, w38, w39, w40, w41, w42, w43, w44, w45, w46, w47, w48, w49, w50, w51, w52, w53, w54, w55, w56, w57, w58, w59, w60, w61, w62, w63, w64, w65, w66, w67, w68, w69, w70, w71, w72, w73, w74, w75, w76, w77]))])) := by
  refine zent (cc := cX10_in) (maxL := 4) (ret := (some .boolean)) (by decide) (Nat.le_of_ble_eq_true rfl) ?_
  intro p e s m below meth c A H locs ls hx hb hml hr ht hown hlocks hin hA hK hE hS hW hl
  have hown : s.vm.findClass RX10 = some m.cls := hown
  have hW : zPD D A [(a0, .inr (9, [w2, w3, w4, w5, w6, w7, w8, w9, w10, w11, w12, w13, w14, w15, w16, w17, w18, w19, w20, w21, w22, w23, w24, w25, w26, w27, w28, w29, w30, w31, w32, w33, w34, w35, w36, w37, w38, w39, w40, w41, w42, w43, w44, w45, w46, w47, w48, w49, w50, w51, w52, w53, w54, w55, w56, w57, w58, w59, w60, w61, w62, w63, w64, w65, w66, w67, w68, w69, w70, w71, w72, w73, w74, w75, w76, w77]))] H := hW
  have hl : lv_has ls 4 [(0, .ref a0), (1, .int p1), (2, .int (-1)), (3, .int 4)] := hl
  refine lv_iload_n hx hb dX10_in_0 rfl (lv_at hl 1 rfl) ?_
  refine lv_iload_n hx hb dX10_in_1 rfl (lv_at hl 2 rfl) ?_
  refine lv_icmp_lt (tgt := 14) hx hb dX10_in_2 (by decide) (fun c1_ => ?_) (fun c1_ => ?_)
  · have b2_ : (-2147483648) ≤ Int32.toInt p1 ∧ Int32.toInt p1 ≤ (-2) := (by have u0 := zbnd p1; have u1 := (zi_lt _ _).mp c1_; have u2 : ((-1) : Int32).toInt = -1 := (by decide); omega)
    refine lv_iconst (v := 0) hx hb dX10_in_14 (by decide) ?_
    exact zret_z (v := 0) hx hb hr hlocks hS () rfl (by show _ = _; rw [if_pos c1_]) hW (Nat.le_of_ble_eq_true rfl) (Nat.le_of_ble_eq_true rfl) dX10_in_15
  · have b3_ : (-1) ≤ Int32.toInt p1 ∧ Int32.toInt p1 ≤ 2147483647 := (by have u0 := zbnd p1; have u1 := (not_congr (zi_lt _ _)).mp c1_; have u2 : ((-1) : Int32).toInt = -1 := (by decide); omega)
    refine lv_iload_n hx hb dX10_in_5 rfl (lv_at hl 1 rfl) ?_
    refine lv_iload_n hx hb dX10_in_6 rfl (lv_at hl 3 rfl) ?_
    refine lv_icmp_gt (tgt := 14) hx hb dX10_in_7 (by decide) (fun c4_ => ?_) (fun c4_ => ?_)
    · have b5_ : 5 ≤ Int32.toInt p1 ∧ Int32.toInt p1 ≤ 2147483647 := (by have u0 := b3_; have u1 := (zi_lt _ _).mp c4_; have u2 : (4 : Int32).toInt = 4 := (by decide); omega)
      refine lv_iconst (v := 0) hx hb dX10_in_14 (by decide) ?_
      exact zret_z (v := 0) hx hb hr hlocks hS () rfl (by show _ = _; rw [if_neg c1_, if_pos c4_]) hW (Nat.le_of_ble_eq_true rfl) (Nat.le_of_ble_eq_true rfl) dX10_in_15
    · have b6_ : (-1) ≤ Int32.toInt p1 ∧ Int32.toInt p1 ≤ 4 := (by have u0 := b3_; have u1 := (not_congr (zi_lt _ _)).mp c4_; have u2 : (4 : Int32).toInt = 4 := (by decide); omega)
      refine lv_iconst (v := 1) hx hb dX10_in_10 (by decide) ?_
      refine lv_goto (tgt := 15) hx hb dX10_in_11 (by decide) ?_
      exact zret_z (v := 1) hx hb hr hlocks hS () rfl (by show _ = _; rw [if_neg c1_, if_neg c4_]) hW (Nat.le_of_ble_eq_true rfl) (Nat.le_of_ble_eq_true rfl) dX10_in_15
set_option maxHeartbeats 8000000 in
set_option maxRecDepth 100000 in
theorem zc_X10_layOrder_0 (l : Launch) (D : va_G) (y : Nat → ClassId) (a0 : Nat) (w1 : Value) (w2 : Value) (w3 : Value) (w4 : Value) (w5 : Value) (w6 : Value) (w7 : Value) (w8 : Value) (w9 : Value) (w10 : Value) (w11 : Value) (w12 : Value) (w13 : Value) (w14 : Value) (w15 : Value) (w16 : Value) (w17 : Value) (w18 : Value) (w19 : Value) (w20 : Value) (w21 : Value) (w22 : Value) (w23 : Value) (w24 : Value) (w25 : Value) (w26 : Value) (w27 : Value) (w28 : Value) (w29 : Value) (w30 : Value) (w31 : Value) (w32 : Value) (w33 : Value) (w34 : Value) (w35 : Value) (w36 : Value) (w37 : Value) (w38 : Value) (w39 : Value) (w40 : Value) (w41 : Value) (w42 : Value) (w43 : Value) (w44 : Value) (w45 : Value) (w46 : Value) (w47 : Value) (w48 : Value) (w49 : Value) (w50 : Value) (w51 : Value) (w52 : Value) (w53 : Value) (w54 : Value) (w55 : Value) (w56 : Value) (w57 : Value) (w58 : Value) (w59 : Value) (w60 : Value) (w61 : Value) (w62 : Value) (w63 : Value) (w64 : Value) (w65 : Value) (w66 : Value) (w67 : Value) (w68 : Value) (w69 : Value) (w70 : Value) (w71 : Value) (w72 : Value) (w73 : Value) (w74 : Value) (w75 : Value) : zM l D y yX10_layOrder (Cond.code yX10_layOrder cX10_layOrder 9 (some .boolean) :: zT) { frames := 0, cells := 0, slots := 0, locals := 0 } [.ref a0, .int 0, .int 0] [(a0, .inr (9, [w1, w2, w3, w4, w5, w6, w7, w8, w9, w10, w11, w12, w13, w14, w15, w16, w17, w18, w19, w20, w21, w22, w23, w24, w25, w26, w27, w28, w29, w30, w31, w32, w33, w34, w35, .int 0, w36, w37, w38, w39, w40, w41, w42, w43, w44, w45, w46, w47, w48, w49, w50, w51, w52, w53, w54, w55, w56, w57, w58, w59, w60, w61, w62, w63, w64, w65, w66, w67, w68, w69, w70, w71, w72, w73, w74, w75]))] (zQi (S := Unit) D (fun r_ _ => r_ = 1) (fun _ => [(a0, .inr (9, [w1, w2, w3, w4, w5, w6, w7, w8, w9, w10, w11, w12, w13, w14, w15, w16, w17, w18, w19, w20, w21, w22, w23, w24, w25, w26, w27, w28, w29, w30, w31, w32, w33, w34, w35, .int 0, w36, w37, w38, w39, w40, w41, w42, w43, w44, w45, w46, w47, w48, w49, w50, w51, w52, w53, w54, w55, w56, w57, w58, w59, w60, w61, w62, w63, w64, w65, w66, w67, w68, w69, w70, w71, w72, w73, w74, w75]))])) := by
  refine zent (cc := cX10_layOrder) (maxL := 9) (ret := (some .boolean)) (by decide) (Nat.le_of_ble_eq_true rfl) ?_
  intro p e s m below meth c A H locs ls hx hb hml hr ht hown hlocks hin hA hK hE hS hW hl
  have hown : s.vm.findClass RX10 = some m.cls := hown
  have hW : zPD D A [(a0, .inr (9, [w1, w2, w3, w4, w5, w6, w7, w8, w9, w10, w11, w12, w13, w14, w15, w16, w17, w18, w19, w20, w21, w22, w23, w24, w25, w26, w27, w28, w29, w30, w31, w32, w33, w34, w35, .int 0, w36, w37, w38, w39, w40, w41, w42, w43, w44, w45, w46, w47, w48, w49, w50, w51, w52, w53, w54, w55, w56, w57, w58, w59, w60, w61, w62, w63, w64, w65, w66, w67, w68, w69, w70, w71, w72, w73, w74, w75]))] H := hW
  have hl : lv_has ls 9 [(0, .ref a0), (1, .int 0), (2, .int 0)] := hl
  refine lv_iconst (v := 1) hx hb dX10_layOrder_0 (by decide) ?_
  refine lv_istore_n (lv' := [(3, .int 1), (0, .ref a0), (1, .int 0), (2, .int 0)]) hx hb dX10_layOrder_1 rfl hl (by decide) rfl (fun ls hl => ?_)
  refine lv_iconst (v := 2) hx hb dX10_layOrder_2 (by decide) ?_
  refine lv_istore (lv' := [(4, .int 2), (3, .int 1), (0, .ref a0), (1, .int 0), (2, .int 0)]) hx hb dX10_layOrder_3 hl (by decide) rfl (fun ls hl => ?_)
  refine lv_iload hx hb dX10_layOrder_5 (lv_at hl 0 rfl) ?_
  refine lv_aload_n hx hb dX10_layOrder_7 rfl (lv_at hl 2 rfl) ?_
  refine zget hx hb ht inlX10 hown hK hW 0 rfl rfl 35 (by decide) zm_175 rfl dX10_layOrder_8 ?_
  refine lv_icmp_gt (tgt := 25) hx hb dX10_layOrder_11 (by decide) (fun c1_ => ?_) (fun c1_ => absurd (by decide) c1_)
  refine lv_iload_n hx hb dX10_layOrder_25 rfl (lv_at hl 4 rfl) ?_
  refine lv_iload_n hx hb dX10_layOrder_26 rfl (lv_at hl 1 rfl) ?_
  refine lv_icmp_lt (tgt := 32) hx hb dX10_layOrder_27 (by decide) (fun c2_ => ?_) (fun c2_ => absurd (by decide) c2_)
  refine lv_iload_n hx hb dX10_layOrder_32 rfl (lv_at hl 3 rfl) ?_
  refine lv_istore (lv' := [(4, .int 0), (3, .int 1), (0, .ref a0), (1, .int 0), (2, .int 0)]) hx hb dX10_layOrder_33 hl (by decide) rfl (fun ls hl => ?_)
  refine lv_iload_n hx hb dX10_layOrder_35 rfl (lv_at hl 4 rfl) ?_
  refine lv_istore (lv' := [(5, .int 0), (4, .int 0), (3, .int 1), (0, .ref a0), (1, .int 0), (2, .int 0)]) hx hb dX10_layOrder_36 hl (by decide) rfl (fun ls hl => ?_)
  refine lv_iconst (v := 0) hx hb dX10_layOrder_38 (by decide) ?_
  refine lv_istore (lv' := [(6, .int 0), (5, .int 0), (4, .int 0), (3, .int 1), (0, .ref a0), (1, .int 0), (2, .int 0)]) hx hb dX10_layOrder_39 hl (by decide) rfl (fun ls hl => ?_)
  refine lv_iload hx hb dX10_layOrder_41 (lv_at hl 0 rfl) ?_
  refine lv_aload_n hx hb dX10_layOrder_43 rfl (lv_at hl 4 rfl) ?_
  refine zget hx hb ht inlX10 hown hK hW 0 rfl rfl 35 (by decide) zm_175 rfl dX10_layOrder_44 ?_
  refine lv_icmp_ge (tgt := 144) hx hb dX10_layOrder_47 (by decide) (fun c3_ => ?_) (fun c3_ => absurd (by decide) c3_)
  refine lv_iconst (v := 1) hx hb dX10_layOrder_144 (by decide) ?_
  exact zret_z (v := 1) hx hb hr hlocks hS () rfl rfl hW (Nat.le_of_ble_eq_true rfl) (Nat.le_of_ble_eq_true rfl) dX10_layOrder_145
set_option maxHeartbeats 8000000 in
set_option maxRecDepth 100000 in
theorem zc_X10_layOrder_1 (l : Launch) (D : va_G) (y : Nat → ClassId) (a0 : Nat) (w1 : Value) (w2 : Value) (w3 : Value) (w4 : Value) (w5 : Value) (w6 : Value) (w7 : Value) (w8 : Value) (w9 : Value) (w10 : Value) (w11 : Value) (w12 : Value) (w13 : Value) (w14 : Value) (w15 : Value) (w16 : Value) (w17 : Value) (w18 : Value) (w19 : Value) (w20 : Value) (w21 : Value) (w22 : Value) (w23 : Value) (w24 : Value) (w25 : Value) (w26 : Value) (w27 : Value) (w28 : Value) (w29 : Value) (w30 : Value) (w31 : Value) (w32 : Value) (w33 : Value) (w34 : Value) (w35 : Value) (w36 : Value) (w37 : Value) (w38 : Value) (w39 : Value) (w40 : Value) (w41 : Value) (w42 : Value) (w43 : Value) (w44 : Value) (w45 : Value) (w46 : Value) (w47 : Value) (w48 : Value) (w49 : Value) (w50 : Value) (w51 : Value) (w52 : Value) (w53 : Value) (w54 : Value) (w55 : Value) (w56 : Value) (w57 : Value) (w58 : Value) (w59 : Value) (w60 : Value) (w61 : Value) (w62 : Value) (w63 : Value) (w64 : Value) (w65 : Value) (w66 : Value) (w67 : Value) (w68 : Value) (w69 : Value) (w70 : Value) (w71 : Value) (w72 : Value) (w73 : Value) (w74 : Value) (w75 : Value) : zM l D y yX10_layOrder (Cond.code yX10_layOrder cX10_layOrder 9 (some .boolean) :: zT) { frames := 0, cells := 0, slots := 0, locals := 0 } [.ref a0, .int 0, .int 1] [(a0, .inr (9, [w1, w2, w3, w4, w5, w6, w7, w8, w9, w10, w11, w12, w13, w14, w15, w16, w17, w18, w19, w20, w21, w22, w23, w24, w25, w26, w27, w28, w29, w30, w31, w32, w33, w34, w35, .int 0, w36, w37, w38, w39, w40, w41, w42, w43, w44, w45, w46, w47, w48, w49, w50, w51, w52, w53, w54, w55, w56, w57, w58, w59, w60, w61, w62, w63, w64, w65, w66, w67, w68, w69, w70, w71, w72, w73, w74, w75]))] (zQi (S := Unit) D (fun r_ _ => r_ = 0) (fun _ => [(a0, .inr (9, [w1, w2, w3, w4, w5, w6, w7, w8, w9, w10, w11, w12, w13, w14, w15, w16, w17, w18, w19, w20, w21, w22, w23, w24, w25, w26, w27, w28, w29, w30, w31, w32, w33, w34, w35, .int 0, w36, w37, w38, w39, w40, w41, w42, w43, w44, w45, w46, w47, w48, w49, w50, w51, w52, w53, w54, w55, w56, w57, w58, w59, w60, w61, w62, w63, w64, w65, w66, w67, w68, w69, w70, w71, w72, w73, w74, w75]))])) := by
  refine zent (cc := cX10_layOrder) (maxL := 9) (ret := (some .boolean)) (by decide) (Nat.le_of_ble_eq_true rfl) ?_
  intro p e s m below meth c A H locs ls hx hb hml hr ht hown hlocks hin hA hK hE hS hW hl
  have hown : s.vm.findClass RX10 = some m.cls := hown
  have hW : zPD D A [(a0, .inr (9, [w1, w2, w3, w4, w5, w6, w7, w8, w9, w10, w11, w12, w13, w14, w15, w16, w17, w18, w19, w20, w21, w22, w23, w24, w25, w26, w27, w28, w29, w30, w31, w32, w33, w34, w35, .int 0, w36, w37, w38, w39, w40, w41, w42, w43, w44, w45, w46, w47, w48, w49, w50, w51, w52, w53, w54, w55, w56, w57, w58, w59, w60, w61, w62, w63, w64, w65, w66, w67, w68, w69, w70, w71, w72, w73, w74, w75]))] H := hW
  have hl : lv_has ls 9 [(0, .ref a0), (1, .int 0), (2, .int 1)] := hl
  refine lv_iconst (v := 1) hx hb dX10_layOrder_0 (by decide) ?_
  refine lv_istore_n (lv' := [(3, .int 1), (0, .ref a0), (1, .int 0), (2, .int 1)]) hx hb dX10_layOrder_1 rfl hl (by decide) rfl (fun ls hl => ?_)
  refine lv_iconst (v := 2) hx hb dX10_layOrder_2 (by decide) ?_
  refine lv_istore (lv' := [(4, .int 2), (3, .int 1), (0, .ref a0), (1, .int 0), (2, .int 1)]) hx hb dX10_layOrder_3 hl (by decide) rfl (fun ls hl => ?_)
  refine lv_iload hx hb dX10_layOrder_5 (lv_at hl 0 rfl) ?_
  refine lv_aload_n hx hb dX10_layOrder_7 rfl (lv_at hl 2 rfl) ?_
  refine zget hx hb ht inlX10 hown hK hW 0 rfl rfl 35 (by decide) zm_175 rfl dX10_layOrder_8 ?_
  refine lv_icmp_gt (tgt := 25) hx hb dX10_layOrder_11 (by decide) (fun c1_ => ?_) (fun c1_ => absurd (by decide) c1_)
  refine lv_iload_n hx hb dX10_layOrder_25 rfl (lv_at hl 4 rfl) ?_
  refine lv_iload_n hx hb dX10_layOrder_26 rfl (lv_at hl 1 rfl) ?_
  refine lv_icmp_lt (tgt := 32) hx hb dX10_layOrder_27 (by decide) (fun c2_ => absurd c2_ (by decide)) (fun c2_ => ?_)
  refine lv_iconst (v := 0) hx hb dX10_layOrder_30 (by decide) ?_
  exact zret_z (v := 0) hx hb hr hlocks hS () rfl rfl hW (Nat.le_of_ble_eq_true rfl) (Nat.le_of_ble_eq_true rfl) dX10_layOrder_31
set_option maxHeartbeats 8000000 in
set_option maxRecDepth 100000 in
theorem zc_X10_best_0 (l : Launch) (D : va_G) (y : Nat → ClassId) (a0 : Nat) (p1 : Int32) (w2 : Value) (w3 : Value) (w4 : Value) (w5 : Value) (w6 : Value) (w7 : Value) (w8 : Value) (w9 : Value) (a10 : Nat) (w11 : Value) (w12 : Value) (w13 : Value) (w14 : Value) (w15 : Value) (w16 : Value) (w17 : Value) (w18 : Value) (w19 : Value) (w20 : Value) (w21 : Value) (w22 : Value) (w23 : Value) (w24 : Value) (w25 : Value) (w26 : Value) (w27 : Value) (w28 : Value) (a29 : Nat) (a30 : Nat) (w31 : Value) (w32 : Value) (a33 : Nat) (w34 : Value) (w35 : Value) (w36 : Value) (w37 : Value) (w38 : Value) (w39 : Value) (w40 : Value) (w41 : Value) (w42 : Value) (w43 : Value) (w44 : Value) (w45 : Value) (w46 : Value) (w47 : Value) (w48 : Value) (w49 : Value) (w50 : Value) (w51 : Value) (w52 : Value) (w53 : Value) (w54 : Value) (w55 : Value) (w56 : Value) (w57 : Value) (w58 : Value) (w59 : Value) (w60 : Value) (w61 : Value) (w62 : Value) (w63 : Value) (w64 : Value) (w65 : Value) (w66 : Value) (w67 : Value) (w68 : Value) (w69 : Value) : zM l D y yX10_best (Cond.code yX10_best cX10_best 7 (some .int) :: zT) { frames := 6, cells := 0, slots := 0, locals := 130 } [.ref a0, .int p1] [(a0, .inr (9, [.int 0, .int 0, w2, .int 20, w3, .int 0, .int 0, w4, w5, w6, w7, w8, w9, .ref a10, w11, .int (-1), w12, w13, w14, w15, w16, w17, w18, w19, w20, w21, w22, w23, w24, w25, w26, w27, .int 0, w28, .ref a29, .int 0, .ref a30, w31, w32, .ref a33, w34, w35, w36, w37, w38, w39, w40, w41, w42, w43, w44, w45, w46, w47, w48, w49, w50, w51, w52, w53, w54, w55, w56, w57, w58, w59, w60, w61, w62, w63, w64, w65, w66, w67, w68, w69])), (a10, .inl (y 2, 7, .inl (fun _ => 0))), (a29, .inl (y 0, 7, .inl (fun _ => 0))), (a30, .inl (y 0, 7, .inl (fun _ => 0))), (a33, .inl (y 0, 7, .inl (fun _ => 0)))] (zQi (S := Unit) D (fun r_ _ => r_ = (if p1 < (-1) then (-1) else (if 4 < p1 then (-1) else (if 0 ≤ p1 then (-5) else 0)))) (fun _ => [])) := by
  refine zent (cc := cX10_best) (maxL := 7) (ret := (some .int)) (by decide) (Nat.le_of_ble_eq_true rfl) ?_
  intro p e s m below meth c A H locs ls hx hb hml hr ht hown hlocks hin hA hK hE hS hW hl
  have hown : s.vm.findClass RX10 = some m.cls := hown
  have hW : zPD D A [(a0, .inr (9, [.int 0, .int 0, w2, .int 20, w3, .int 0, .int 0, w4, w5, w6, w7, w8, w9, .ref a10, w11, .int (-1), w12, w13, w14, w15, w16, w17, w18, w19, w20, w21, w22, w23, w24, w25, w26, w27, .int 0, w28, .ref a29, .int 0, .ref a30, w31, w32, .ref a33, w34, w35, w36, w37, w38, w39, w40, w41, w42, w43, w44, w45, w46, w47, w48, w49, w50, w51, w52, w53, w54, w55, w56, w57, w58, w59, w60, w61, w62, w63, w64, w65, w66, w67, w68, w69])), (a10, .inl (y 2, 7, .inl (fun _ => 0))), (a29, .inl (y 0, 7, .inl (fun _ => 0))), (a30, .inl (y 0, 7, .inl (fun _ => 0))), (a33, .inl (y 0, 7, .inl (fun _ => 0)))] H := hW
  have hl : lv_has ls 7 [(0, .ref a0), (1, .int p1)] := hl
  refine lv_aload_n hx hb dX10_best_0 rfl (lv_at hl 0 rfl) ?_
  refine lv_iload_n hx hb dX10_best_1 rfl (lv_at hl 1 rfl) ?_
  refine lv_iconst (v := (-1)) hx hb dX10_best_2 (by decide) ?_
  refine lv_iconst (v := 4) hx hb dX10_best_3 (by decide) ?_
  refine zgo_i (wr := [(a10, .inl (y 2, 7, .inl (fun _ => 0))), (a29, .inl (y 0, 7, .inl (fun _ => 0))), (a30, .inl (y 0, 7, .inl (fun _ => 0))), (a33, .inl (y 0, 7, .inl (fun _ => 0)))]) (zrunV (As := [.int p1, .int (-1), .int 4]) (rest := []) ⟨hx, hb, hml, hown, ht⟩ (zc_X10_in_9 l D y a0 p1 (.int 0) (.int 0) w2 (.int 20) w3 (.int 0) (.int 0) w4 w5 w6 w7 w8 w9 (.ref a10) w11 (.int (-1)) w12 w13 w14 w15 w16 w17 w18 w19 w20 w21 w22 w23 w24 w25 w26 w27 (.int 0) w28 (.ref a29) (.int 0) (.ref a30) w31 w32 (.ref a33) w34 w35 w36 w37 w38 w39 w40 w41 w42 w43 w44 w45 w46 w47 w48 w49 w50 w51 w52 w53 w54 w55 w56 w57 w58 w59 w60 w61 w62 w63 w64 w65 w66 w67 w68 w69) (cwV 3 ht (zgV zm_240 zm_241 zm_242 zm_5 zm_243) rfl rfl rfl (by decide +kernel) ⟨(Nat.le_of_ble_eq_true rfl), (Nat.le_of_ble_eq_true rfl)⟩) hK hE hS hA hW [0] (by decide) rfl 0 rfl rfl rfl rfl hl.1 rfl (Nat.le_of_ble_eq_true rfl) dX10_best_4 (Nat.le_of_ble_eq_true rfl) (Nat.le_of_ble_eq_true rfl)) hS hA hW [0] [1, 2, 3, 4] rfl rfl (by decide) (by decide) (fun r1_ u H locs hw hW hS => ?_)
  have hW : zPD D A [(a10, .inl (y 2, 7, .inl (fun _ => 0))), (a29, .inl (y 0, 7, .inl (fun _ => 0))), (a30, .inl (y 0, 7, .inl (fun _ => 0))), (a33, .inl (y 0, 7, .inl (fun _ => 0))), (a0, .inr (9, [.int 0, .int 0, w2, .int 20, w3, .int 0, .int 0, w4, w5, w6, w7, w8, w9, .ref a10, w11, .int (-1), w12, w13, w14, w15, w16, w17, w18, w19, w20, w21, w22, w23, w24, w25, w26, w27, .int 0, w28, .ref a29, .int 0, .ref a30, w31, w32, .ref a33, w34, w35, w36, w37, w38, w39, w40, w41, w42, w43, w44, w45, w46, w47, w48, w49, w50, w51, w52, w53, w54, w55, w56, w57, w58, w59, w60, w61, w62, w63, w64, w65, w66, w67, w68, w69]))] H := hW
  have hw : r1_ = (if p1 < (-1) then 0 else (if 4 < p1 then 0 else 1)) := hw
  by_cases c2_ : p1 < (-1)
  · have b3_ : (-2147483648) ≤ Int32.toInt p1 ∧ Int32.toInt p1 ≤ (-2) := (by have u0 := zbnd p1; have u1 := (zi_lt _ _).mp c2_; have u2 : ((-1) : Int32).toInt = -1 := (by decide); omega)
    rw [if_pos c2_] at hw
    subst hw
    refine lv_if_ne (tgt := 12) hx hb dX10_best_7 (by decide) (fun c4_ => absurd (by decide) c4_) (fun c4_ => ?_)
    refine lv_iconst (v := (-1)) hx hb dX10_best_10 (by decide) ?_
    exact zret_i (v := (-1)) hx hb hr hlocks hS () (by show _ = _; rw [if_pos c2_]) (hW.sub [] (by decide) rfl) (Nat.le_of_ble_eq_true rfl) (Nat.le_of_ble_eq_true rfl) dX10_best_11
  · have b5_ : (-1) ≤ Int32.toInt p1 ∧ Int32.toInt p1 ≤ 2147483647 := (by have u0 := zbnd p1; have u1 := (not_congr (zi_lt _ _)).mp c2_; have u2 : ((-1) : Int32).toInt = -1 := (by decide); omega)
    rw [if_neg c2_] at hw
    by_cases c6_ : 4 < p1
    · have b7_ : 5 ≤ Int32.toInt p1 ∧ Int32.toInt p1 ≤ 2147483647 := (by have u0 := b5_; have u1 := (zi_lt _ _).mp c6_; have u2 : (4 : Int32).toInt = 4 := (by decide); omega)
      rw [if_pos c6_] at hw
      subst hw
      refine lv_if_ne (tgt := 12) hx hb dX10_best_7 (by decide) (fun c8_ => absurd (by decide) c8_) (fun c8_ => ?_)
      refine lv_iconst (v := (-1)) hx hb dX10_best_10 (by decide) ?_
      exact zret_i (v := (-1)) hx hb hr hlocks hS () (by show _ = _; rw [if_neg c2_, if_pos c6_]) (hW.sub [] (by decide) rfl) (Nat.le_of_ble_eq_true rfl) (Nat.le_of_ble_eq_true rfl) dX10_best_11
    · have b9_ : (-1) ≤ Int32.toInt p1 ∧ Int32.toInt p1 ≤ 4 := (by have u0 := b5_; have u1 := (not_congr (zi_lt _ _)).mp c6_; have u2 : (4 : Int32).toInt = 4 := (by decide); omega)
      rw [if_neg c6_] at hw
      subst hw
      refine lv_if_ne (tgt := 12) hx hb dX10_best_7 (by decide) (fun c10_ => ?_) (fun c10_ => absurd c10_ (by decide))
      refine lv_aload_n hx hb dX10_best_12 rfl (lv_at hl 0 rfl) ?_
      refine zgo_i (wr := [(a10, .inl (y 2, 7, .inl (fun _ => 0))), (a29, .inl (y 0, 7, .inl (fun _ => 0))), (a30, .inl (y 0, 7, .inl (fun _ => 0))), (a33, .inl (y 0, 7, .inl (fun _ => 0)))]) (zrunV (As := []) (rest := []) ⟨hx, hb, hml, hown, ht⟩ (zc_X10_openSet_0 l D y a0 (.int 0) w2 (.int 20) w3 (.int 0) (.int 0) w4 w5 w6 w7 w8 w9 (.ref a10) w11 (.int (-1)) w12 w13 w14 w15 w16 w17 w18 w19 w20 w21 w22 w23 w24 w25 w26 w27 (.int 0) w28 (.ref a29) (.int 0) (.ref a30) w31 w32 (.ref a33) w34 w35 w36 w37 w38 w39 w40 w41 w42 w43 w44 w45 w46 w47 w48 w49 w50 w51 w52 w53 w54 w55 w56 w57 w58 w59 w60 w61 w62 w63 w64 w65 w66 w67 w68 w69) (cwV 0 ht (zgV zm_714 zm_715 zm_716 zm_5 zm_717) rfl rfl rfl (by decide +kernel) ⟨(Nat.le_of_ble_eq_true rfl), (Nat.le_of_ble_eq_true rfl)⟩) hK hE hS hA hW [4] (by decide) rfl 0 rfl rfl rfl rfl hl.1 rfl (Nat.le_of_ble_eq_true rfl) dX10_best_13 (Nat.le_of_ble_eq_true rfl) (Nat.le_of_ble_eq_true rfl)) hS hA hW [4] [0, 1, 2, 3] rfl rfl (by decide) (by decide) (fun r11_ u H locs hw hW hS => ?_)
      have hW : zPD D A [(a10, .inl (y 2, 7, .inl (fun _ => 0))), (a29, .inl (y 0, 7, .inl (fun _ => 0))), (a30, .inl (y 0, 7, .inl (fun _ => 0))), (a33, .inl (y 0, 7, .inl (fun _ => 0))), (a0, .inr (9, [.int 0, .int 0, w2, .int 20, w3, .int 0, .int 0, w4, w5, w6, w7, w8, w9, .ref a10, w11, .int (-1), w12, w13, w14, w15, w16, w17, w18, w19, w20, w21, w22, w23, w24, w25, w26, w27, .int 0, w28, .ref a29, .int 0, .ref a30, w31, w32, .ref a33, w34, w35, w36, w37, w38, w39, w40, w41, w42, w43, w44, w45, w46, w47, w48, w49, w50, w51, w52, w53, w54, w55, w56, w57, w58, w59, w60, w61, w62, w63, w64, w65, w66, w67, w68, w69]))] H := hW
      have hw : r11_ = 0 := hw
      subst hw
      refine lv_istore_n (lv' := [(2, .int 0), (0, .ref a0), (1, .int p1)]) hx hb dX10_best_16 rfl hl (by decide) rfl (fun ls hl => ?_)
      refine lv_aload_n hx hb dX10_best_17 rfl (lv_at hl 1 rfl) ?_
      refine lv_iconst (v := 0) hx hb dX10_best_18 (by decide) ?_
      refine zput (ws' := [(a10, .inl (y 2, 7, .inl (fun _ => 0))), (a29, .inl (y 0, 7, .inl (fun _ => 0))), (a30, .inl (y 0, 7, .inl (fun _ => 0))), (a33, .inl (y 0, 7, .inl (fun _ => 0))), (a0, .inr (9, [.int 0, .int 0, w2, .int 20, w3, .int 0, .int 0, w4, w5, w6, w7, w8, w9, .ref a10, w11, .int (-1), w12, w13, w14, w15, w16, w17, w18, w19, w20, w21, w22, w23, w24, w25, w26, w27, .int 0, w28, .ref a29, .int 0, .ref a30, w31, w32, .ref a33, w34, w35, w36, w37, w38, w39, w40, w41, w42, w43, w44, w45, w46, w47, w48, w49, w50, w51, w52, w53, w54, w55, w56, w57, w58, w59, w60, w61, w62, w63, w64, w65, w66, w67, w68, w69]))]) hx hb ht inlX10 tyX10 tyX10_ok nmX10 hown hK hS hW 4 rfl rfl 35 (by decide) zm_175 rfl rfl rfl (Nat.le_of_ble_eq_true rfl) rfl dX10_best_19 (fun H locs hW hS => ?_)
      refine lv_iconst (v := 0) hx hb dX10_best_22 (by decide) ?_
      refine lv_istore_n (lv' := [(3, .int 0), (2, .int 0), (0, .ref a0), (1, .int p1)]) hx hb dX10_best_23 rfl hl (by decide) rfl (fun ls hl => ?_)
      refine lv_iload_n hx hb dX10_best_24 rfl (lv_at hl 0 rfl) ?_
      refine lv_aload_n hx hb dX10_best_25 rfl (lv_at hl 2 rfl) ?_
      refine zget hx hb ht inlX10 hown hK hW 4 rfl rfl 0 (by decide) zm_140 rfl dX10_best_26 ?_
      refine lv_icmp_ge (tgt := 61) hx hb dX10_best_29 (by decide) (fun c12_ => ?_) (fun c12_ => absurd (by decide) c12_)
      refine lv_aload_n hx hb dX10_best_61 rfl (lv_at hl 2 rfl) ?_
      refine zget hx hb ht inlX10 hown hK hW 4 rfl rfl 35 (by decide) zm_175 rfl dX10_best_62 ?_
      refine lv_iconst (v := 5) hx hb dX10_best_65 (by decide) ?_
      refine lv_icmp_le (tgt := 72) hx hb dX10_best_66 (by decide) (fun c13_ => ?_) (fun c13_ => absurd (by decide) c13_)
      refine lv_aload_n hx hb dX10_best_72 rfl (lv_at hl 2 rfl) ?_
      refine zgo_v (wr := [(a10, .inl (y 2, 7, .inl (fun _ => 0))), (a29, .inl (y 0, 7, .inl (fun _ => 0))), (a30, .inl (y 0, 7, .inl (fun _ => 0))), (a33, .inl (y 0, 7, .inl (fun _ => 0)))]) (zrunV (As := []) (rest := []) ⟨hx, hb, hml, hown, ht⟩ (zc_X10_layRain_0 l D y a0 (.int 0) w2 (.int 20) w3 (.int 0) (.int 0) w4 w5 w6 w7 w8 w9 (.ref a10) w11 w12 w13 w14 w15 w16 w17 w18 w19 w20 w21 w22 w23 w24 w25 w26 w27 w28 (.ref a29) (.int 0) (.ref a30) w31 w32 (.ref a33) w34 w35 w36 w37 w38 w39 w40 w41 w42 w43 w44 w45 w46 w47 w48 w49 w50 w51 w52 w53 w54 w55 w56 w57 w58 w59 w60 w61 w62 w63 w64 w65 w66 w67 w68 w69) (cwV 0 ht (zgV zm_377 zm_378 zm_379 zm_5 zm_380) rfl rfl rfl (by decide +kernel) ⟨(Nat.le_of_ble_eq_true rfl), (Nat.le_of_ble_eq_true rfl)⟩) hK hE hS hA hW [4] (by decide) rfl 0 rfl rfl rfl rfl hl.1 rfl (Nat.le_of_ble_eq_true rfl) dX10_best_73 (Nat.le_of_ble_eq_true rfl) (Nat.le_of_ble_eq_true rfl)) hS hA hW [4] [0, 1, 2, 3] rfl rfl (by decide) (by decide) (fun u H locs hw hW hS => ?_)
      have hW : zPD D A [(a10, .inl (y 2, 7, .inl (fun _ => 0))), (a29, .inl (y 0, 7, .inl (fun _ => 0))), (a30, .inl (y 0, 7, .inl (fun _ => 0))), (a33, .inl (y 0, 7, .inl (fun _ => 0))), (a0, .inr (9, [.int 0, .int 0, w2, .int 20, w3, .int 0, .int 0, w4, w5, w6, w7, w8, w9, .ref a10, w11, .int (-1), w12, w13, w14, w15, w16, w17, w18, w19, w20, w21, w22, w23, w24, w25, w26, w27, .int 0, w28, .ref a29, .int 0, .ref a30, w31, w32, .ref a33, w34, w35, w36, w37, w38, w39, w40, w41, w42, w43, w44, w45, w46, w47, w48, w49, w50, w51, w52, w53, w54, w55, w56, w57, w58, w59, w60, w61, w62, w63, w64, w65, w66, w67, w68, w69]))] H := hW
      refine lv_iconst (v := (-1)) hx hb dX10_best_76 (by decide) ?_
      refine lv_istore_n (lv' := [(3, .int (-1)), (2, .int 0), (0, .ref a0), (1, .int p1)]) hx hb dX10_best_77 rfl hl (by decide) rfl (fun ls hl => ?_)
      refine lv_iconst (v := 0) hx hb dX10_best_78 (by decide) ?_
      refine lv_istore (lv' := [(4, .int 0), (3, .int (-1)), (2, .int 0), (0, .ref a0), (1, .int p1)]) hx hb dX10_best_79 hl (by decide) rfl (fun ls hl => ?_)
      refine lv_aload_n hx hb dX10_best_81 rfl (lv_at hl 3 rfl) ?_
      refine lv_iload_n hx hb dX10_best_82 rfl (lv_at hl 2 rfl) ?_
      refine lv_iload hx hb dX10_best_83 (lv_at hl 0 rfl) ?_
      refine zgo_i (wr := [(a10, .inl (y 2, 7, .inl (fun _ => 0))), (a29, .inl (y 0, 7, .inl (fun _ => 0))), (a30, .inl (y 0, 7, .inl (fun _ => 0))), (a33, .inl (y 0, 7, .inl (fun _ => 0)))]) (zrunV (As := [.int 0, .int 0]) (rest := []) ⟨hx, hb, hml, hown, ht⟩ (zc_X10_layOrder_0 l D y a0 (.int 0) (.int 0) w2 (.int 20) w3 (.int 0) (.int 0) w4 w5 w6 w7 w8 w9 (.ref a10) w11 (.int (-1)) w12 w13 w14 w15 w16 w17 w18 w19 w20 w21 w22 w23 w24 w25 w26 w27 (.int 0) w28 (.ref a29) (.ref a30) w31 w32 (.ref a33) w34 w35 w36 w37 w38 w39 w40 w41 w42 w43 w44 w45 w46 w47 w48 w49 w50 w51 w52 w53 w54 w55 w56 w57 w58 w59 w60 w61 w62 w63 w64 w65 w66 w67 w68 w69) (cwV 2 ht (zgV zm_907 zm_908 zm_909 zm_5 zm_910) rfl rfl rfl (by decide +kernel) ⟨(Nat.le_of_ble_eq_true rfl), (Nat.le_of_ble_eq_true rfl)⟩) hK hE hS hA hW [4] (by decide) rfl 0 rfl rfl rfl rfl hl.1 rfl (Nat.le_of_ble_eq_true rfl) dX10_best_85 (Nat.le_of_ble_eq_true rfl) (Nat.le_of_ble_eq_true rfl)) hS hA hW [4] [0, 1, 2, 3] rfl rfl (by decide) (by decide) (fun r15_ u H locs hw hW hS => ?_)
      have hW : zPD D A [(a10, .inl (y 2, 7, .inl (fun _ => 0))), (a29, .inl (y 0, 7, .inl (fun _ => 0))), (a30, .inl (y 0, 7, .inl (fun _ => 0))), (a33, .inl (y 0, 7, .inl (fun _ => 0))), (a0, .inr (9, [.int 0, .int 0, w2, .int 20, w3, .int 0, .int 0, w4, w5, w6, w7, w8, w9, .ref a10, w11, .int (-1), w12, w13, w14, w15, w16, w17, w18, w19, w20, w21, w22, w23, w24, w25, w26, w27, .int 0, w28, .ref a29, .int 0, .ref a30, w31, w32, .ref a33, w34, w35, w36, w37, w38, w39, w40, w41, w42, w43, w44, w45, w46, w47, w48, w49, w50, w51, w52, w53, w54, w55, w56, w57, w58, w59, w60, w61, w62, w63, w64, w65, w66, w67, w68, w69]))] H := hW
      have hw : r15_ = 1 := hw
      subst hw
      refine lv_if_eq (tgt := 150) hx hb dX10_best_88 (by decide) (fun c16_ => absurd c16_ (by decide)) (fun c16_ => ?_)
      refine lv_aload_n hx hb dX10_best_91 rfl (lv_at hl 3 rfl) ?_
      refine lv_iconst (v := 0) hx hb dX10_best_92 (by decide) ?_
      refine zgo_i (wr := [(a30, .inl (y 0, 7, .inl (fun _ => 0))), (a33, .inl (y 0, 7, .inl (fun _ => 0)))]) (zrunV (As := [.int 0]) (rest := []) ⟨hx, hb, hml, hown, ht⟩ (zc_X10_costOfPath_0 l D y a0 w2 w3 w4 w5 w6 w7 w8 w9 a10 w11 w12 w13 w14 w15 w16 w17 w18 w19 w20 w21 w22 w23 w24 w25 w26 w27 (.int 0) w28 a29 (.ref a30) w31 w32 (.ref a33) w34 w35 w36 w37 w38 w39 w40 w41 w42 w43 w44 w45 w46 w47 w48 w49 w50 w51 w52 w53 w54 w55 w56 w57 w58 w59 w60 w61 w62 w63 w64 w65 w66 w67 w68 w69) (cwV 1 ht (zgV zm_848 zm_849 zm_850 zm_5 zm_851) rfl rfl rfl (by decide +kernel) ⟨(Nat.le_of_ble_eq_true rfl), (Nat.le_of_ble_eq_true rfl)⟩) hK hE hS hA hW [4, 0, 1] (by decide) rfl 0 rfl rfl rfl rfl hl.1 rfl (Nat.le_of_ble_eq_true rfl) dX10_best_93 (Nat.le_of_ble_eq_true rfl) (Nat.le_of_ble_eq_true rfl)) hS hA hW [4, 0, 1] [2, 3] rfl rfl (by decide) (by decide) (fun r17_ u H locs hw hW hS => ?_)
      have hW : zPD D A [(a30, .inl (y 0, 7, .inl (fun _ => 0))), (a33, .inl (y 0, 7, .inl (fun _ => 0))), (a0, .inr (9, [.int 0, .int 0, w2, .int 20, w3, .int 0, .int 0, w4, w5, w6, w7, w8, w9, .ref a10, w11, .int (-1), w12, w13, w14, w15, w16, w17, w18, w19, w20, w21, w22, w23, w24, w25, w26, w27, .int 0, w28, .ref a29, .int 0, .ref a30, w31, w32, .ref a33, w34, w35, w36, w37, w38, w39, w40, w41, w42, w43, w44, w45, w46, w47, w48, w49, w50, w51, w52, w53, w54, w55, w56, w57, w58, w59, w60, w61, w62, w63, w64, w65, w66, w67, w68, w69])), (a10, .inl (y 2, 7, .inl (fun _ => 0))), (a29, .inl (y 0, 7, .inl (upd (upd (upd (upd (upd (upd (upd (fun _ => 0) 0 99999) 1 99999) 2 99999) 3 99999) 4 99999) 5 99999) 6 99999)))] H := hW
      have hw : r17_ = 0 := hw
      subst hw
      refine lv_istore (lv' := [(5, .int 0), (4, .int 0), (3, .int (-1)), (2, .int 0), (0, .ref a0), (1, .int p1)]) hx hb dX10_best_96 hl (by decide) rfl (fun ls hl => ?_)
      refine lv_iload_n hx hb dX10_best_98 rfl (lv_at hl 2 rfl) ?_
      refine lv_if_lt (tgt := 111) hx hb dX10_best_99 (by decide) (fun c18_ => ?_) (fun c18_ => absurd (by decide) c18_)
      refine lv_iload hx hb dX10_best_111 (lv_at hl 0 rfl) ?_
      refine lv_istore_n (lv' := [(3, .int 0), (5, .int 0), (4, .int 0), (2, .int 0), (0, .ref a0), (1, .int p1)]) hx hb dX10_best_113 rfl hl (by decide) rfl (fun ls hl => ?_)
      refine lv_iconst (v := 0) hx hb dX10_best_114 (by decide) ?_
      refine lv_istore (lv' := [(6, .int 0), (3, .int 0), (5, .int 0), (4, .int 0), (2, .int 0), (0, .ref a0), (1, .int p1)]) hx hb dX10_best_115 hl (by decide) rfl (fun ls hl => ?_)
      refine lv_iload hx hb dX10_best_117 (lv_at hl 0 rfl) ?_
      refine lv_bipush (v := 7) hx hb dX10_best_119 (by decide) ?_
      refine lv_icmp_ge (tgt := 144) hx hb dX10_best_121 (by decide) (fun c19_ => absurd c19_ (by decide)) (fun c19_ => ?_)
      refine lv_aload_n hx hb dX10_best_124 rfl (lv_at hl 5 rfl) ?_
      refine zget hx hb ht inlX10 hown hK hW 2 rfl rfl 39 (by decide) zm_179 rfl dX10_best_125 ?_
      refine lv_iload hx hb dX10_best_128 (lv_at hl 0 rfl) ?_
      refine lv_aload_n hx hb dX10_best_130 rfl (lv_at hl 5 rfl) ?_
      refine zget hx hb ht inlX10 hown hK hW 2 rfl rfl 36 (by decide) zm_176 rfl dX10_best_131 ?_
      refine lv_iload hx hb dX10_best_134 (lv_at hl 0 rfl) ?_
      refine ziald (v := 0) hx hb hK hW 0 rfl (by unfold vp_in; decide) rfl dX10_best_136 ?_
      refine ziast0 hx hb hK hS hW 1 rfl (by unfold vp_in; decide) (zupd0 _) dX10_best_137 (fun H locs hW hS => ?_)
      refine lv_iinc (k := 0) (v := 1) (lv' := [(6, .int 1), (3, .int 0), (5, .int 0), (4, .int 0), (2, .int 0), (0, .ref a0), (1, .int p1)]) hx hb dX10_best_138 hl rfl (by decide) (by decide) rfl (fun ls hl => ?_)
      refine lv_goto (tgt := 117) hx hb dX10_best_141 (by decide) ?_
      refine lv_iload hx hb dX10_best_117 (lv_at hl 0 rfl) ?_
      refine lv_bipush (v := 7) hx hb dX10_best_119 (by decide) ?_
      refine lv_icmp_ge (tgt := 144) hx hb dX10_best_121 (by decide) (fun c20_ => absurd c20_ (by decide)) (fun c20_ => ?_)
      refine lv_aload_n hx hb dX10_best_124 rfl (lv_at hl 5 rfl) ?_
      refine zget hx hb ht inlX10 hown hK hW 2 rfl rfl 39 (by decide) zm_179 rfl dX10_best_125 ?_
      refine lv_iload hx hb dX10_best_128 (lv_at hl 0 rfl) ?_
      refine lv_aload_n hx hb dX10_best_130 rfl (lv_at hl 5 rfl) ?_
      refine zget hx hb ht inlX10 hown hK hW 2 rfl rfl 36 (by decide) zm_176 rfl dX10_best_131 ?_
      refine lv_iload hx hb dX10_best_134 (lv_at hl 0 rfl) ?_
      refine ziald (v := 0) hx hb hK hW 0 rfl (by unfold vp_in; decide) rfl dX10_best_136 ?_
      refine ziast0 hx hb hK hS hW 1 rfl (by unfold vp_in; decide) (zupd0 _) dX10_best_137 (fun H locs hW hS => ?_)
      refine lv_iinc (k := 0) (v := 2) (lv' := [(6, .int 2), (3, .int 0), (5, .int 0), (4, .int 0), (2, .int 0), (0, .ref a0), (1, .int p1)]) hx hb dX10_best_138 hl rfl (by decide) (by decide) rfl (fun ls hl => ?_)
      refine lv_goto (tgt := 117) hx hb dX10_best_141 (by decide) ?_
      refine lv_iload hx hb dX10_best_117 (lv_at hl 0 rfl) ?_
      refine lv_bipush (v := 7) hx hb dX10_best_119 (by decide) ?_
      refine lv_icmp_ge (tgt := 144) hx hb dX10_best_121 (by decide) (fun c21_ => absurd c21_ (by decide)) (fun c21_ => ?_)
      refine lv_aload_n hx hb dX10_best_124 rfl (lv_at hl 5 rfl) ?_
      refine zget hx hb ht inlX10 hown hK hW 2 rfl rfl 39 (by decide) zm_179 rfl dX10_best_125 ?_
      refine lv_iload hx hb dX10_best_128 (lv_at hl 0 rfl) ?_
      refine lv_aload_n hx hb dX10_best_130 rfl (lv_at hl 5 rfl) ?_
      refine zget hx hb ht inlX10 hown hK hW 2 rfl rfl 36 (by decide) zm_176 rfl dX10_best_131 ?_
      refine lv_iload hx hb dX10_best_134 (lv_at hl 0 rfl) ?_
      refine ziald (v := 0) hx hb hK hW 0 rfl (by unfold vp_in; decide) rfl dX10_best_136 ?_
      refine ziast0 hx hb hK hS hW 1 rfl (by unfold vp_in; decide) (zupd0 _) dX10_best_137 (fun H locs hW hS => ?_)
      refine lv_iinc (k := 0) (v := 3) (lv' := [(6, .int 3), (3, .int 0), (5, .int 0), (4, .int 0), (2, .int 0), (0, .ref a0), (1, .int p1)]) hx hb dX10_best_138 hl rfl (by decide) (by decide) rfl (fun ls hl => ?_)
      refine lv_goto (tgt := 117) hx hb dX10_best_141 (by decide) ?_
      refine lv_iload hx hb dX10_best_117 (lv_at hl 0 rfl) ?_
      refine lv_bipush (v := 7) hx hb dX10_best_119 (by decide) ?_
      refine lv_icmp_ge (tgt := 144) hx hb dX10_best_121 (by decide) (fun c22_ => absurd c22_ (by decide)) (fun c22_ => ?_)
      refine lv_aload_n hx hb dX10_best_124 rfl (lv_at hl 5 rfl) ?_
      refine zget hx hb ht inlX10 hown hK hW 2 rfl rfl 39 (by decide) zm_179 rfl dX10_best_125 ?_
      refine lv_iload hx hb dX10_best_128 (lv_at hl 0 rfl) ?_
      refine lv_aload_n hx hb dX10_best_130 rfl (lv_at hl 5 rfl) ?_
      refine zget hx hb ht inlX10 hown hK hW 2 rfl rfl 36 (by decide) zm_176 rfl dX10_best_131 ?_
      refine lv_iload hx hb dX10_best_134 (lv_at hl 0 rfl) ?_
      refine ziald (v := 0) hx hb hK hW 0 rfl (by unfold vp_in; decide) rfl dX10_best_136 ?_
      refine ziast0 hx hb hK hS hW 1 rfl (by unfold vp_in; decide) (zupd0 _) dX10_best_137 (fun H locs hW hS => ?_)
      refine lv_iinc (k := 0) (v := 4) (lv' := [(6, .int 4), (3, .int 0), (5, .int 0), (4, .int 0), (2, .int 0), (0, .ref a0), (1, .int p1)]) hx hb dX10_best_138 hl rfl (by decide) (by decide) rfl (fun ls hl => ?_)
      refine lv_goto (tgt := 117) hx hb dX10_best_141 (by decide) ?_
      refine lv_iload hx hb dX10_best_117 (lv_at hl 0 rfl) ?_
      refine lv_bipush (v := 7) hx hb dX10_best_119 (by decide) ?_
      refine lv_icmp_ge (tgt := 144) hx hb dX10_best_121 (by decide) (fun c23_ => absurd c23_ (by decide)) (fun c23_ => ?_)
      refine lv_aload_n hx hb dX10_best_124 rfl (lv_at hl 5 rfl) ?_
      refine zget hx hb ht inlX10 hown hK hW 2 rfl rfl 39 (by decide) zm_179 rfl dX10_best_125 ?_
      refine lv_iload hx hb dX10_best_128 (lv_at hl 0 rfl) ?_
      refine lv_aload_n hx hb dX10_best_130 rfl (lv_at hl 5 rfl) ?_
      refine zget hx hb ht inlX10 hown hK hW 2 rfl rfl 36 (by decide) zm_176 rfl dX10_best_131 ?_
      refine lv_iload hx hb dX10_best_134 (lv_at hl 0 rfl) ?_
      refine ziald (v := 0) hx hb hK hW 0 rfl (by unfold vp_in; decide) rfl dX10_best_136 ?_
      refine ziast0 hx hb hK hS hW 1 rfl (by unfold vp_in; decide) (zupd0 _) dX10_best_137 (fun H locs hW hS => ?_)
      refine lv_iinc (k := 0) (v := 5) (lv' := [(6, .int 5), (3, .int 0), (5, .int 0), (4, .int 0), (2, .int 0), (0, .ref a0), (1, .int p1)]) hx hb dX10_best_138 hl rfl (by decide) (by decide) rfl (fun ls hl => ?_)
      refine lv_goto (tgt := 117) hx hb dX10_best_141 (by decide) ?_
      refine lv_iload hx hb dX10_best_117 (lv_at hl 0 rfl) ?_
      refine lv_bipush (v := 7) hx hb dX10_best_119 (by decide) ?_
      refine lv_icmp_ge (tgt := 144) hx hb dX10_best_121 (by decide) (fun c24_ => absurd c24_ (by decide)) (fun c24_ => ?_)
      refine lv_aload_n hx hb dX10_best_124 rfl (lv_at hl 5 rfl) ?_
      refine zget hx hb ht inlX10 hown hK hW 2 rfl rfl 39 (by decide) zm_179 rfl dX10_best_125 ?_
      refine lv_iload hx hb dX10_best_128 (lv_at hl 0 rfl) ?_
      refine lv_aload_n hx hb dX10_best_130 rfl (lv_at hl 5 rfl) ?_
      refine zget hx hb ht inlX10 hown hK hW 2 rfl rfl 36 (by decide) zm_176 rfl dX10_best_131 ?_
      refine lv_iload hx hb dX10_best_134 (lv_at hl 0 rfl) ?_
      refine ziald (v := 0) hx hb hK hW 0 rfl (by unfold vp_in; decide) rfl dX10_best_136 ?_
      refine ziast0 hx hb hK hS hW 1 rfl (by unfold vp_in; decide) (zupd0 _) dX10_best_137 (fun H locs hW hS => ?_)
      refine lv_iinc (k := 0) (v := 6) (lv' := [(6, .int 6), (3, .int 0), (5, .int 0), (4, .int 0), (2, .int 0), (0, .ref a0), (1, .int p1)]) hx hb dX10_best_138 hl rfl (by decide) (by decide) rfl (fun ls hl => ?_)
      refine lv_goto (tgt := 117) hx hb dX10_best_141 (by decide) ?_
      refine lv_iload hx hb dX10_best_117 (lv_at hl 0 rfl) ?_
      refine lv_bipush (v := 7) hx hb dX10_best_119 (by decide) ?_
      refine lv_icmp_ge (tgt := 144) hx hb dX10_best_121 (by decide) (fun c25_ => absurd c25_ (by decide)) (fun c25_ => ?_)
      refine lv_aload_n hx hb dX10_best_124 rfl (lv_at hl 5 rfl) ?_
      refine zget hx hb ht inlX10 hown hK hW 2 rfl rfl 39 (by decide) zm_179 rfl dX10_best_125 ?_
      refine lv_iload hx hb dX10_best_128 (lv_at hl 0 rfl) ?_
      refine lv_aload_n hx hb dX10_best_130 rfl (lv_at hl 5 rfl) ?_
      refine zget hx hb ht inlX10 hown hK hW 2 rfl rfl 36 (by decide) zm_176 rfl dX10_best_131 ?_
      refine lv_iload hx hb dX10_best_134 (lv_at hl 0 rfl) ?_
      refine ziald (v := 0) hx hb hK hW 0 rfl (by unfold vp_in; decide) rfl dX10_best_136 ?_
      refine ziast0 hx hb hK hS hW 1 rfl (by unfold vp_in; decide) (zupd0 _) dX10_best_137 (fun H locs hW hS => ?_)
      refine lv_iinc (k := 0) (v := 7) (lv' := [(6, .int 7), (3, .int 0), (5, .int 0), (4, .int 0), (2, .int 0), (0, .ref a0), (1, .int p1)]) hx hb dX10_best_138 hl rfl (by decide) (by decide) rfl (fun ls hl => ?_)
      refine lv_goto (tgt := 117) hx hb dX10_best_141 (by decide) ?_
      refine lv_iload hx hb dX10_best_117 (lv_at hl 0 rfl) ?_
      refine lv_bipush (v := 7) hx hb dX10_best_119 (by decide) ?_
      refine lv_icmp_ge (tgt := 144) hx hb dX10_best_121 (by decide) (fun c26_ => ?_) (fun c26_ => absurd (by decide) c26_)
      refine lv_iinc (k := 3) (v := 1) (lv' := [(4, .int 1), (6, .int 7), (3, .int 0), (5, .int 0), (2, .int 0), (0, .ref a0), (1, .int p1)]) hx hb dX10_best_144 hl rfl (by decide) (by decide) rfl (fun ls hl => ?_)
      refine lv_goto (tgt := 81) hx hb dX10_best_147 (by decide) ?_
      refine lv_aload_n hx hb dX10_best_81 rfl (lv_at hl 5 rfl) ?_
      refine lv_iload_n hx hb dX10_best_82 rfl (lv_at hl 4 rfl) ?_
      refine lv_iload hx hb dX10_best_83 (lv_at hl 0 rfl) ?_
      refine zgo_i (wr := [(a30, .inl (y 0, 7, .inl (fun _ => 0))), (a33, .inl (y 0, 7, .inl (fun _ => 0))), (a10, .inl (y 2, 7, .inl (fun _ => 0))), (a29, .inl (y 0, 7, .inl (upd (upd (upd (upd (upd (upd (upd (fun _ => 0) 0 99999) 1 99999) 2 99999) 3 99999) 4 99999) 5 99999) 6 99999)))]) (zrunV (As := [.int 0, .int 1]) (rest := []) ⟨hx, hb, hml, hown, ht⟩ (zc_X10_layOrder_1 l D y a0 (.int 0) (.int 0) w2 (.int 20) w3 (.int 0) (.int 0) w4 w5 w6 w7 w8 w9 (.ref a10) w11 (.int (-1)) w12 w13 w14 w15 w16 w17 w18 w19 w20 w21 w22 w23 w24 w25 w26 w27 (.int 0) w28 (.ref a29) (.ref a30) w31 w32 (.ref a33) w34 w35 w36 w37 w38 w39 w40 w41 w42 w43 w44 w45 w46 w47 w48 w49 w50 w51 w52 w53 w54 w55 w56 w57 w58 w59 w60 w61 w62 w63 w64 w65 w66 w67 w68 w69) (cwV 2 ht (zgV zm_907 zm_908 zm_909 zm_5 zm_910) rfl rfl rfl (by decide +kernel) ⟨(Nat.le_of_ble_eq_true rfl), (Nat.le_of_ble_eq_true rfl)⟩) hK hE hS hA hW [2] (by decide) rfl 0 rfl rfl rfl rfl hl.1 rfl (Nat.le_of_ble_eq_true rfl) dX10_best_85 (Nat.le_of_ble_eq_true rfl) (Nat.le_of_ble_eq_true rfl)) hS hA hW [2] [0, 1, 3, 4] rfl rfl (by decide) (by decide) (fun r27_ u H locs hw hW hS => ?_)
      have hW : zPD D A [(a30, .inl (y 0, 7, .inl (fun _ => 0))), (a33, .inl (y 0, 7, .inl (fun _ => 0))), (a10, .inl (y 2, 7, .inl (fun _ => 0))), (a29, .inl (y 0, 7, .inl (upd (upd (upd (upd (upd (upd (upd (fun _ => 0) 0 99999) 1 99999) 2 99999) 3 99999) 4 99999) 5 99999) 6 99999))), (a0, .inr (9, [.int 0, .int 0, w2, .int 20, w3, .int 0, .int 0, w4, w5, w6, w7, w8, w9, .ref a10, w11, .int (-1), w12, w13, w14, w15, w16, w17, w18, w19, w20, w21, w22, w23, w24, w25, w26, w27, .int 0, w28, .ref a29, .int 0, .ref a30, w31, w32, .ref a33, w34, w35, w36, w37, w38, w39, w40, w41, w42, w43, w44, w45, w46, w47, w48, w49, w50, w51, w52, w53, w54, w55, w56, w57, w58, w59, w60, w61, w62, w63, w64, w65, w66, w67, w68, w69]))] H := hW
      have hw : r27_ = 0 := hw
      subst hw
      refine lv_if_eq (tgt := 150) hx hb dX10_best_88 (by decide) (fun c28_ => ?_) (fun c28_ => absurd (by decide) c28_)
      refine lv_iload_n hx hb dX10_best_150 rfl (lv_at hl 6 rfl) ?_
      refine lv_if_ge (tgt := 158) hx hb dX10_best_151 (by decide) (fun c29_ => ?_) (fun c29_ => ?_)
      · have b30_ : 0 ≤ Int32.toInt p1 ∧ Int32.toInt p1 ≤ 4 := (by have u0 := b9_; have u1 := (zi_le _ _).mp c29_; have u2 : (0 : Int32).toInt = 0 := (by decide); omega)
        refine lv_iload_n hx hb dX10_best_158 rfl (lv_at hl 6 rfl) ?_
        refine lv_aload_n hx hb dX10_best_159 rfl (lv_at hl 5 rfl) ?_
        refine zget hx hb ht inlX10 hown hK hW 4 rfl rfl 35 (by decide) zm_175 rfl dX10_best_160 ?_
        refine lv_icmp_ge (tgt := 175) hx hb dX10_best_163 (by decide) (fun c31_ => ?_) (fun c31_ => absurd c29_ c31_)
        refine lv_bipush (v := (-5)) hx hb dX10_best_175 (by decide) ?_
        exact zret_i (v := (-5)) hx hb hr hlocks hS () (by show _ = _; rw [if_neg c2_, if_neg c6_, if_pos c29_]) (hW.sub [] (by decide) rfl) (Nat.le_of_ble_eq_true rfl) (Nat.le_of_ble_eq_true rfl) dX10_best_177
      · have b32_ : (-1) ≤ Int32.toInt p1 ∧ Int32.toInt p1 ≤ (-1) := (by have u0 := b9_; have u1 := (not_congr (zi_le _ _)).mp c29_; have u2 : (0 : Int32).toInt = 0 := (by decide); omega)
        refine lv_iload_n hx hb dX10_best_154 rfl (lv_at hl 2 rfl) ?_
        refine lv_goto (tgt := 177) hx hb dX10_best_155 (by decide) ?_
        exact zret_i (v := 0) hx hb hr hlocks hS () (by show _ = _; rw [if_neg c2_, if_neg c6_, if_neg c29_]) (hW.sub [] (by decide) rfl) (Nat.le_of_ble_eq_true rfl) (Nat.le_of_ble_eq_true rfl) dX10_best_177
set_option maxHeartbeats 8000000 in
set_option maxRecDepth 100000 in
theorem zc_X9_next_0 (l : Launch) (D : va_G) (y : Nat → ClassId) (a0 : Nat) (w1 : Value) (w2 : Value) (w3 : Value) (a4 : Nat) (w5 : Value) (w6 : Value) (a7 : Nat) (w8 : Value) (w9 : Value) (w10 : Value) (w11 : Value) (w12 : Value) (w13 : Value) (w14 : Value) (w15 : Value) (w16 : Value) (w17 : Value) (w18 : Value) (w19 : Value) (w20 : Value) (w21 : Value) (w22 : Value) (w23 : Value) (a24 : Nat) : zM l D y yX9_next (Cond.code yX9_next cX9_next 5 (some .int) :: zT) { frames := 2, cells := 0, slots := 0, locals := 42 } [.ref a0] [(a0, .inr (8, [w1, w2, w3, .ref a4, w5, w6, .ref a7, w8, w9])), (a4, .inr (6, [w10, .int 0, .int 20, .int 0, w11, w12, w13, w14, w15, w16, w17, w18])), (a7, .inr (1, [.ref a4, .int 0, .int 0, w19, w20, w21, w22, w23, .ref a24])), (a24, .inl (y 2, 4, .inl (fun _ => 0)))] (zQi (S := Unit) D (fun r_ _ => r_ = (-5)) (fun _ => [])) := by
  refine zent (cc := cX9_next) (maxL := 5) (ret := (some .int)) (by decide) (Nat.le_of_ble_eq_true rfl) ?_
  intro p e s m below meth c A H locs ls hx hb hml hr ht hown hlocks hin hA hK hE hS hW hl
  have hown : s.vm.findClass RX9 = some m.cls := hown
  have hW : zPD D A [(a0, .inr (8, [w1, w2, w3, .ref a4, w5, w6, .ref a7, w8, w9])), (a4, .inr (6, [w10, .int 0, .int 20, .int 0, w11, w12, w13, w14, w15, w16, w17, w18])), (a7, .inr (1, [.ref a4, .int 0, .int 0, w19, w20, w21, w22, w23, .ref a24])), (a24, .inl (y 2, 4, .inl (fun _ => 0)))] H := hW
  have hl : lv_has ls 5 [(0, .ref a0)] := hl
  refine lv_aload_n hx hb dX9_next_0 rfl (lv_at hl 0 rfl) ?_
  refine zget hx hb ht inlX9 hown hK hW 0 rfl rfl 6 (by decide) zm_29 rfl dX9_next_1 ?_
  refine zgo_v (wr := [(a0, .inr (8, [w1, w2, w3, .ref a4, w5, w6, .ref a7, w8, w9]))]) (zrunV (As := []) (rest := []) ⟨hx, hb, hml, hown, ht⟩ (zc_X1_beginFromNow_0 l D y a7 a4 w19 w20 w21 w22 w23 a24 w10 w11 w12 w13 w14 w15 w16 w17 w18) (cwV 0 ht (zgV zm_274 zm_275 zm_276 zm_28 zm_277) rfl rfl rfl (by decide +kernel) ⟨(Nat.le_of_ble_eq_true rfl), (Nat.le_of_ble_eq_true rfl)⟩) hK hE hS hA hW [2, 1, 3] (by decide) rfl 0 rfl rfl rfl rfl hl.1 rfl (Nat.le_of_ble_eq_true rfl) dX9_next_4 (Nat.le_of_ble_eq_true rfl) (Nat.le_of_ble_eq_true rfl)) hS hA hW [2, 1, 3] [0] rfl rfl (by decide) (by decide) (fun u H locs hw hW hS => ?_)
  have hW : zPD D A [(a0, .inr (8, [w1, w2, w3, .ref a4, w5, w6, .ref a7, w8, w9])), (a7, .inr (1, [.ref a4, .int 0, .int 20, w19, w20, w21, w22, w23, .ref a24])), (a4, .inr (6, [w10, .int 0, .int 20, .int 0, w11, w12, w13, w14, w15, w16, w17, w18])), (a24, .inl (y 2, 4, .inl (upd (fun _ => 0) 0 1)))] H := hW
  refine lv_bipush (v := (-5)) hx hb dX9_next_7 (by decide) ?_
  refine lv_istore_n (lv' := [(1, .int (-5)), (0, .ref a0)]) hx hb dX9_next_9 rfl hl (by decide) rfl (fun ls hl => ?_)
  refine lv_iconst (v := 0) hx hb dX9_next_10 (by decide) ?_
  refine lv_istore_n (lv' := [(2, .int 0), (1, .int (-5)), (0, .ref a0)]) hx hb dX9_next_11 rfl hl (by decide) rfl (fun ls hl => ?_)
  refine lv_iconst (v := 0) hx hb dX9_next_12 (by decide) ?_
  refine lv_istore_n (lv' := [(3, .int 0), (2, .int 0), (1, .int (-5)), (0, .ref a0)]) hx hb dX9_next_13 rfl hl (by decide) rfl (fun ls hl => ?_)
  refine lv_iload_n hx hb dX9_next_14 rfl (lv_at hl 0 rfl) ?_
  refine lv_aload_n hx hb dX9_next_15 rfl (lv_at hl 3 rfl) ?_
  refine zget hx hb ht inlX9 hown hK hW 0 rfl rfl 3 (by decide) zm_23 rfl dX9_next_16 ?_
  refine zget hx hb ht inlX7 hown hK hW 2 rfl rfl 1 (by decide) zm_220 rfl dX9_next_19 ?_
  refine lv_icmp_ge (tgt := 76) hx hb dX9_next_22 (by decide) (fun c2_ => ?_) (fun c2_ => absurd (by decide) c2_)
  refine lv_iload_n hx hb dX9_next_76 rfl (lv_at hl 2 rfl) ?_
  exact zret_i (v := (-5)) hx hb hr hlocks hS () rfl (hW.sub [] (by decide) rfl) (Nat.le_of_ble_eq_true rfl) (Nat.le_of_ble_eq_true rfl) dX9_next_77
set_option maxHeartbeats 8000000 in
set_option maxRecDepth 100000 in
theorem zc_X10_next_0 (l : Launch) (D : va_G) (y : Nat → ClassId) (a0 : Nat) (w1 : Value) (w2 : Value) (w3 : Value) (w4 : Value) (w5 : Value) (w6 : Value) (w7 : Value) (w8 : Value) (w9 : Value) (w10 : Value) (w11 : Value) (w12 : Value) (w13 : Value) (w14 : Value) (w15 : Value) (w16 : Value) (w17 : Value) (w18 : Value) (w19 : Value) (w20 : Value) (w21 : Value) (w22 : Value) (w23 : Value) (w24 : Value) (w25 : Value) (w26 : Value) (w27 : Value) (w28 : Value) (w29 : Value) (w30 : Value) (w31 : Value) (w32 : Value) (w33 : Value) (w34 : Value) (w35 : Value) (w36 : Value) (w37 : Value) (w38 : Value) (w39 : Value) (w40 : Value) (w41 : Value) (w42 : Value) (w43 : Value) (w44 : Value) (w45 : Value) (w46 : Value) (w47 : Value) (w48 : Value) (w49 : Value) (w50 : Value) (w51 : Value) (w52 : Value) (w53 : Value) (w54 : Value) (w55 : Value) (w56 : Value) (w57 : Value) (w58 : Value) (w59 : Value) (w60 : Value) (w61 : Value) (w62 : Value) (w63 : Value) (w64 : Value) (w65 : Value) (w66 : Value) (w67 : Value) (w68 : Value) (w69 : Value) (w70 : Value) (w71 : Value) (w72 : Value) (w73 : Value) : zM l D y yX10_next (Cond.code yX10_next cX10_next 5 (some .int) :: zT) { frames := 4, cells := 0, slots := 0, locals := 86 } [.ref a0] [(a0, .inr (9, [.int 0, w1, w2, w3, w4, w5, w6, w7, w8, w9, w10, w11, w12, w13, w14, .int (-1), w15, w16, w17, w18, w19, w20, w21, w22, w23, w24, w25, w26, w27, w28, w29, w30, .int 0, w31, w32, w33, w34, w35, w36, w37, w38, w39, w40, w41, w42, w43, w44, w45, w46, w47, w48, w49, w50, w51, w52, w53, w54, w55, w56, w57, w58, w59, w60, w61, w62, w63, w64, w65, w66, w67, w68, w69, w70, w71, w72, w73]))] (zQi (S := Unit) D (fun r_ _ => r_ = (-5)) (fun _ => [])) := by
  refine zent (cc := cX10_next) (maxL := 5) (ret := (some .int)) (by decide) (Nat.le_of_ble_eq_true rfl) ?_
  intro p e s m below meth c A H locs ls hx hb hml hr ht hown hlocks hin hA hK hE hS hW hl
  have hown : s.vm.findClass RX10 = some m.cls := hown
  have hW : zPD D A [(a0, .inr (9, [.int 0, w1, w2, w3, w4, w5, w6, w7, w8, w9, w10, w11, w12, w13, w14, .int (-1), w15, w16, w17, w18, w19, w20, w21, w22, w23, w24, w25, w26, w27, w28, w29, w30, .int 0, w31, w32, w33, w34, w35, w36, w37, w38, w39, w40, w41, w42, w43, w44, w45, w46, w47, w48, w49, w50, w51, w52, w53, w54, w55, w56, w57, w58, w59, w60, w61, w62, w63, w64, w65, w66, w67, w68, w69, w70, w71, w72, w73]))] H := hW
  have hl : lv_has ls 5 [(0, .ref a0)] := hl
  refine lv_aload_n hx hb dX10_next_0 rfl (lv_at hl 0 rfl) ?_
  refine zgo_v (wr := []) (zrunV (As := []) (rest := []) ⟨hx, hb, hml, hown, ht⟩ (zc_X10_layRain_0 l D y a0 w1 w2 w3 w4 w5 w6 w7 w8 w9 w10 w11 w12 w13 w14 w15 w16 w17 w18 w19 w20 w21 w22 w23 w24 w25 w26 w27 w28 w29 w30 w31 w32 w33 w34 w35 w36 w37 w38 w39 w40 w41 w42 w43 w44 w45 w46 w47 w48 w49 w50 w51 w52 w53 w54 w55 w56 w57 w58 w59 w60 w61 w62 w63 w64 w65 w66 w67 w68 w69 w70 w71 w72 w73) (cwV 0 ht (zgV zm_377 zm_378 zm_379 zm_5 zm_380) rfl rfl rfl (by decide +kernel) ⟨(Nat.le_of_ble_eq_true rfl), (Nat.le_of_ble_eq_true rfl)⟩) hK hE hS hA hW [0] (by decide) rfl 0 rfl rfl rfl rfl hl.1 rfl (Nat.le_of_ble_eq_true rfl) dX10_next_1 (Nat.le_of_ble_eq_true rfl) (Nat.le_of_ble_eq_true rfl)) hS hA hW [0] [] rfl rfl (by decide) (by decide) (fun u H locs hw hW hS => ?_)
  have hW : zPD D A [(a0, .inr (9, [.int 0, w1, w2, w3, w4, w5, w6, w7, w8, w9, w10, w11, w12, w13, w14, .int (-1), w15, w16, w17, w18, w19, w20, w21, w22, w23, w24, w25, w26, w27, w28, w29, w30, .int 0, w31, w32, w33, w34, w35, w36, w37, w38, w39, w40, w41, w42, w43, w44, w45, w46, w47, w48, w49, w50, w51, w52, w53, w54, w55, w56, w57, w58, w59, w60, w61, w62, w63, w64, w65, w66, w67, w68, w69, w70, w71, w72, w73]))] H := hW
  refine lv_bipush (v := (-5)) hx hb dX10_next_4 (by decide) ?_
  refine lv_istore_n (lv' := [(1, .int (-5)), (0, .ref a0)]) hx hb dX10_next_6 rfl hl (by decide) rfl (fun ls hl => ?_)
  refine lv_iconst (v := 0) hx hb dX10_next_7 (by decide) ?_
  refine lv_istore_n (lv' := [(2, .int 0), (1, .int (-5)), (0, .ref a0)]) hx hb dX10_next_8 rfl hl (by decide) rfl (fun ls hl => ?_)
  refine lv_iconst (v := 0) hx hb dX10_next_9 (by decide) ?_
  refine lv_istore_n (lv' := [(3, .int 0), (2, .int 0), (1, .int (-5)), (0, .ref a0)]) hx hb dX10_next_10 rfl hl (by decide) rfl (fun ls hl => ?_)
  refine lv_iload_n hx hb dX10_next_11 rfl (lv_at hl 0 rfl) ?_
  refine lv_aload_n hx hb dX10_next_12 rfl (lv_at hl 3 rfl) ?_
  refine zget hx hb ht inlX10 hown hK hW 0 rfl rfl 0 (by decide) zm_140 rfl dX10_next_13 ?_
  refine lv_icmp_ge (tgt := 74) hx hb dX10_next_16 (by decide) (fun c2_ => ?_) (fun c2_ => absurd (by decide) c2_)
  refine lv_iload_n hx hb dX10_next_74 rfl (lv_at hl 2 rfl) ?_
  exact zret_i (v := (-5)) hx hb hr hlocks hS () rfl (hW.sub [] (by decide) rfl) (Nat.le_of_ble_eq_true rfl) (Nat.le_of_ble_eq_true rfl) dX10_next_75

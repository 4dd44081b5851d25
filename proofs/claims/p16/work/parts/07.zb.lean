theorem dX0_init_0 : decode cX0_init 0 = .ok (.aload_n 0, 1) := by decide +kernel
theorem dX0_init_1 : decode cX0_init 1 = .ok (.invokespecial 1, 3) := by decide +kernel
theorem dX0_init_12 : decode cX0_init 12 = .ok (.aload_n 0, 1) := by decide +kernel
theorem dX0_init_13 : decode cX0_init 13 = .ok (.iconst 0, 1) := by decide +kernel
theorem dX0_init_14 : decode cX0_init 14 = .ok (.putfield 13, 3) := by decide +kernel
theorem dX0_init_17 : decode cX0_init 17 = .ok (.aload_n 0, 1) := by decide +kernel
theorem dX0_init_18 : decode cX0_init 18 = .ok (.iconst 0, 1) := by decide +kernel
theorem dX0_init_19 : decode cX0_init 19 = .ok (.putfield 17, 3) := by decide +kernel
theorem dX0_init_22 : decode cX0_init 22 = .ok (.aload_n 0, 1) := by decide +kernel
theorem dX0_init_23 : decode cX0_init 23 = .ok (.iconst 0, 1) := by decide +kernel
theorem dX0_init_24 : decode cX0_init 24 = .ok (.putfield 20, 3) := by decide +kernel
theorem dX0_init_27 : decode cX0_init 27 = .ok (.aload_n 0, 1) := by decide +kernel
theorem dX0_init_28 : decode cX0_init 28 = .ok (.iconst 0, 1) := by decide +kernel
theorem dX0_init_29 : decode cX0_init 29 = .ok (.putfield 23, 3) := by decide +kernel
theorem dX0_init_32 : decode cX0_init 32 = .ok (.return_, 1) := by decide +kernel
theorem dX0_init_4 : decode cX0_init 4 = .ok (.aload_n 0, 1) := by decide +kernel
theorem dX0_init_5 : decode cX0_init 5 = .ok (.bipush 20, 2) := by decide +kernel
theorem dX0_init_7 : decode cX0_init 7 = .ok (.newarray .int, 2) := by decide +kernel
theorem dX0_init_9 : decode cX0_init 9 = .ok (.putfield 9, 3) := by decide +kernel
theorem dX1_init_0 : decode cX1_init 0 = .ok (.aload_n 0, 1) := by decide +kernel
theorem dX1_init_1 : decode cX1_init 1 = .ok (.invokespecial 3, 3) := by decide +kernel
theorem dX1_init_10 : decode cX1_init 10 = .ok (.iconst 0, 1) := by decide +kernel
theorem dX1_init_11 : decode cX1_init 11 = .ok (.putfield 15, 3) := by decide +kernel
theorem dX1_init_14 : decode cX1_init 14 = .ok (.aload_n 0, 1) := by decide +kernel
theorem dX1_init_15 : decode cX1_init 15 = .ok (.bipush 7, 2) := by decide +kernel
theorem dX1_init_17 : decode cX1_init 17 = .ok (.newarray .int, 2) := by decide +kernel
theorem dX1_init_19 : decode cX1_init 19 = .ok (.putfield 18, 3) := by decide +kernel
theorem dX1_init_22 : decode cX1_init 22 = .ok (.aload_n 0, 1) := by decide +kernel
theorem dX1_init_23 : decode cX1_init 23 = .ok (.new 22, 3) := by decide +kernel
theorem dX1_init_26 : decode cX1_init 26 = .ok (.dup, 1) := by decide +kernel
theorem dX1_init_27 : decode cX1_init 27 = .ok (.bipush 7, 2) := by decide +kernel
theorem dX1_init_29 : decode cX1_init 29 = .ok (.invokespecial 24, 3) := by decide +kernel
theorem dX1_init_32 : decode cX1_init 32 = .ok (.putfield 27, 3) := by decide +kernel
theorem dX1_init_35 : decode cX1_init 35 = .ok (.aload_n 0, 1) := by decide +kernel
theorem dX1_init_36 : decode cX1_init 36 = .ok (.new 22, 3) := by decide +kernel
theorem dX1_init_39 : decode cX1_init 39 = .ok (.dup, 1) := by decide +kernel
theorem dX1_init_4 : decode cX1_init 4 = .ok (.aload_n 0, 1) := by decide +kernel
theorem dX1_init_40 : decode cX1_init 40 = .ok (.bipush 7, 2) := by decide +kernel
theorem dX1_init_42 : decode cX1_init 42 = .ok (.invokespecial 24, 3) := by decide +kernel
theorem dX1_init_45 : decode cX1_init 45 = .ok (.putfield 31, 3) := by decide +kernel
theorem dX1_init_48 : decode cX1_init 48 = .ok (.aload_n 0, 1) := by decide +kernel
theorem dX1_init_49 : decode cX1_init 49 = .ok (.iconst 0, 1) := by decide +kernel
theorem dX1_init_5 : decode cX1_init 5 = .ok (.iconst 0, 1) := by decide +kernel
theorem dX1_init_50 : decode cX1_init 50 = .ok (.putfield 34, 3) := by decide +kernel
theorem dX1_init_53 : decode cX1_init 53 = .ok (.aload_n 0, 1) := by decide +kernel
theorem dX1_init_54 : decode cX1_init 54 = .ok (.sipush 2800, 3) := by decide +kernel
theorem dX1_init_57 : decode cX1_init 57 = .ok (.newarray .int, 2) := by decide +kernel
theorem dX1_init_59 : decode cX1_init 59 = .ok (.putfield 37, 3) := by decide +kernel
theorem dX1_init_6 : decode cX1_init 6 = .ok (.putfield 9, 3) := by decide +kernel
theorem dX1_init_62 : decode cX1_init 62 = .ok (.aload_n 0, 1) := by decide +kernel
theorem dX1_init_63 : decode cX1_init 63 = .ok (.iconst 4, 1) := by decide +kernel
theorem dX1_init_64 : decode cX1_init 64 = .ok (.newarray .boolean, 2) := by decide +kernel
theorem dX1_init_66 : decode cX1_init 66 = .ok (.putfield 40, 3) := by decide +kernel
theorem dX1_init_69 : decode cX1_init 69 = .ok (.aload_n 0, 1) := by decide +kernel
theorem dX1_init_70 : decode cX1_init 70 = .ok (.aload_n 1, 1) := by decide +kernel
theorem dX1_init_71 : decode cX1_init 71 = .ok (.putfield 44, 3) := by decide +kernel
theorem dX1_init_74 : decode cX1_init 74 = .ok (.return_, 1) := by decide +kernel
theorem dX1_init_9 : decode cX1_init 9 = .ok (.aload_n 0, 1) := by decide +kernel
theorem dX2_init_0 : decode cX2_init 0 = .ok (.aload_n 0, 1) := by decide +kernel
theorem dX2_init_1 : decode cX2_init 1 = .ok (.invokespecial 1, 3) := by decide +kernel
theorem dX2_init_10 : decode cX2_init 10 = .ok (.bipush 15, 2) := by decide +kernel
theorem dX2_init_12 : decode cX2_init 12 = .ok (.putfield 13, 3) := by decide +kernel
theorem dX2_init_15 : decode cX2_init 15 = .ok (.aload_n 0, 1) := by decide +kernel
theorem dX2_init_16 : decode cX2_init 16 = .ok (.iconst 0, 1) := by decide +kernel
theorem dX2_init_17 : decode cX2_init 17 = .ok (.putfield 16, 3) := by decide +kernel
theorem dX2_init_20 : decode cX2_init 20 = .ok (.aload_n 0, 1) := by decide +kernel
theorem dX2_init_21 : decode cX2_init 21 = .ok (.bipush 10, 2) := by decide +kernel
theorem dX2_init_23 : decode cX2_init 23 = .ok (.newarray .int, 2) := by decide +kernel
theorem dX2_init_25 : decode cX2_init 25 = .ok (.putfield 19, 3) := by decide +kernel
theorem dX2_init_28 : decode cX2_init 28 = .ok (.aload_n 0, 1) := by decide +kernel
theorem dX2_init_29 : decode cX2_init 29 = .ok (.bipush 10, 2) := by decide +kernel
theorem dX2_init_31 : decode cX2_init 31 = .ok (.newarray .int, 2) := by decide +kernel
theorem dX2_init_33 : decode cX2_init 33 = .ok (.putfield 23, 3) := by decide +kernel
theorem dX2_init_36 : decode cX2_init 36 = .ok (.aload_n 0, 1) := by decide +kernel
theorem dX2_init_37 : decode cX2_init 37 = .ok (.iconst 0, 1) := by decide +kernel
theorem dX2_init_38 : decode cX2_init 38 = .ok (.putfield 26, 3) := by decide +kernel
theorem dX2_init_4 : decode cX2_init 4 = .ok (.aload_n 0, 1) := by decide +kernel
theorem dX2_init_41 : decode cX2_init 41 = .ok (.aload_n 0, 1) := by decide +kernel
theorem dX2_init_42 : decode cX2_init 42 = .ok (.bipush 100, 2) := by decide +kernel
theorem dX2_init_44 : decode cX2_init 44 = .ok (.newarray .int, 2) := by decide +kernel
theorem dX2_init_46 : decode cX2_init 46 = .ok (.putfield 31, 3) := by decide +kernel
theorem dX2_init_49 : decode cX2_init 49 = .ok (.aload_n 0, 1) := by decide +kernel
theorem dX2_init_5 : decode cX2_init 5 = .ok (.iconst 2, 1) := by decide +kernel
theorem dX2_init_50 : decode cX2_init 50 = .ok (.bipush 6, 2) := by decide +kernel
theorem dX2_init_52 : decode cX2_init 52 = .ok (.newarray .int, 2) := by decide +kernel
theorem dX2_init_54 : decode cX2_init 54 = .ok (.putfield 34, 3) := by decide +kernel
theorem dX2_init_57 : decode cX2_init 57 = .ok (.return_, 1) := by decide +kernel
theorem dX2_init_6 : decode cX2_init 6 = .ok (.putfield 7, 3) := by decide +kernel
theorem dX2_init_9 : decode cX2_init 9 = .ok (.aload_n 0, 1) := by decide +kernel
theorem dX4_init_0 : decode cX4_init 0 = .ok (.aload_n 0, 1) := by decide +kernel
theorem dX4_init_1 : decode cX4_init 1 = .ok (.invokespecial 1, 3) := by decide +kernel
theorem dX4_init_10 : decode cX4_init 10 = .ok (.iconst 0, 1) := by decide +kernel
theorem dX4_init_11 : decode cX4_init 11 = .ok (.putfield 13, 3) := by decide +kernel
theorem dX4_init_14 : decode cX4_init 14 = .ok (.aload_n 0, 1) := by decide +kernel
theorem dX4_init_15 : decode cX4_init 15 = .ok (.iconst 0, 1) := by decide +kernel
theorem dX4_init_16 : decode cX4_init 16 = .ok (.putfield 16, 3) := by decide +kernel
theorem dX4_init_19 : decode cX4_init 19 = .ok (.aload_n 0, 1) := by decide +kernel
theorem dX4_init_20 : decode cX4_init 20 = .ok (.iconst 0, 1) := by decide +kernel
theorem dX4_init_21 : decode cX4_init 21 = .ok (.putfield 19, 3) := by decide +kernel
theorem dX4_init_24 : decode cX4_init 24 = .ok (.aload_n 0, 1) := by decide +kernel
theorem dX4_init_25 : decode cX4_init 25 = .ok (.iconst 1, 1) := by decide +kernel
theorem dX4_init_26 : decode cX4_init 26 = .ok (.putfield 22, 3) := by decide +kernel
theorem dX4_init_29 : decode cX4_init 29 = .ok (.aload_n 0, 1) := by decide +kernel
theorem dX4_init_30 : decode cX4_init 30 = .ok (.iconst 0, 1) := by decide +kernel
theorem dX4_init_31 : decode cX4_init 31 = .ok (.putfield 25, 3) := by decide +kernel
theorem dX4_init_34 : decode cX4_init 34 = .ok (.aload_n 0, 1) := by decide +kernel
theorem dX4_init_35 : decode cX4_init 35 = .ok (.iconst 4, 1) := by decide +kernel
theorem dX4_init_36 : decode cX4_init 36 = .ok (.newarray .int, 2) := by decide +kernel
theorem dX4_init_38 : decode cX4_init 38 = .ok (.putfield 29, 3) := by decide +kernel
theorem dX4_init_4 : decode cX4_init 4 = .ok (.aload_n 0, 1) := by decide +kernel
theorem dX4_init_41 : decode cX4_init 41 = .ok (.return_, 1) := by decide +kernel
theorem dX4_init_5 : decode cX4_init 5 = .ok (.iconst 0, 1) := by decide +kernel
theorem dX4_init_6 : decode cX4_init 6 = .ok (.putfield 7, 3) := by decide +kernel
theorem dX4_init_9 : decode cX4_init 9 = .ok (.aload_n 0, 1) := by decide +kernel
theorem dX5_init_0 : decode cX5_init 0 = .ok (.aload_n 0, 1) := by decide +kernel
theorem dX5_init_1 : decode cX5_init 1 = .ok (.invokespecial 1, 3) := by decide +kernel
theorem dX5_init_12 : decode cX5_init 12 = .ok (.aload_n 0, 1) := by decide +kernel
theorem dX5_init_13 : decode cX5_init 13 = .ok (.iconst 0, 1) := by decide +kernel
theorem dX5_init_14 : decode cX5_init 14 = .ok (.putfield 13, 3) := by decide +kernel
theorem dX5_init_17 : decode cX5_init 17 = .ok (.aload_n 0, 1) := by decide +kernel
theorem dX5_init_18 : decode cX5_init 18 = .ok (.iconst 0, 1) := by decide +kernel
theorem dX5_init_19 : decode cX5_init 19 = .ok (.putfield 17, 3) := by decide +kernel
theorem dX5_init_22 : decode cX5_init 22 = .ok (.aload_n 0, 1) := by decide +kernel
theorem dX5_init_23 : decode cX5_init 23 = .ok (.iconst (-1), 1) := by decide +kernel
theorem dX5_init_24 : decode cX5_init 24 = .ok (.putfield 20, 3) := by decide +kernel
theorem dX5_init_27 : decode cX5_init 27 = .ok (.aload_n 0, 1) := by decide +kernel
theorem dX5_init_28 : decode cX5_init 28 = .ok (.new 23, 3) := by decide +kernel
theorem dX5_init_31 : decode cX5_init 31 = .ok (.dup, 1) := by decide +kernel
theorem dX5_init_32 : decode cX5_init 32 = .ok (.invokespecial 25, 3) := by decide +kernel
theorem dX5_init_35 : decode cX5_init 35 = .ok (.putfield 26, 3) := by decide +kernel
theorem dX5_init_38 : decode cX5_init 38 = .ok (.return_, 1) := by decide +kernel
theorem dX5_init_4 : decode cX5_init 4 = .ok (.aload_n 0, 1) := by decide +kernel
theorem dX5_init_5 : decode cX5_init 5 = .ok (.bipush 100, 2) := by decide +kernel
theorem dX5_init_7 : decode cX5_init 7 = .ok (.newarray .int, 2) := by decide +kernel
theorem dX5_init_9 : decode cX5_init 9 = .ok (.putfield 9, 3) := by decide +kernel
theorem dX6_init_0 : decode cX6_init 0 = .ok (.aload_n 0, 1) := by decide +kernel
theorem dX6_init_1 : decode cX6_init 1 = .ok (.invokespecial 1, 3) := by decide +kernel
theorem dX6_init_10 : decode cX6_init 10 = .ok (.iconst 0, 1) := by decide +kernel
theorem dX6_init_11 : decode cX6_init 11 = .ok (.invokestatic 13, 3) := by decide +kernel
theorem dX6_init_14 : decode cX6_init 14 = .ok (.istore_n 2, 1) := by decide +kernel
theorem dX6_init_15 : decode cX6_init 15 = .ok (.aload_n 0, 1) := by decide +kernel
theorem dX6_init_16 : decode cX6_init 16 = .ok (.iload_n 2, 1) := by decide +kernel
theorem dX6_init_17 : decode cX6_init 17 = .ok (.newarray .int, 2) := by decide +kernel
theorem dX6_init_19 : decode cX6_init 19 = .ok (.putfield 19, 3) := by decide +kernel
theorem dX6_init_22 : decode cX6_init 22 = .ok (.aload_n 0, 1) := by decide +kernel
theorem dX6_init_23 : decode cX6_init 23 = .ok (.iload_n 2, 1) := by decide +kernel
theorem dX6_init_24 : decode cX6_init 24 = .ok (.newarray .int, 2) := by decide +kernel
theorem dX6_init_26 : decode cX6_init 26 = .ok (.putfield 23, 3) := by decide +kernel
theorem dX6_init_29 : decode cX6_init 29 = .ok (.return_, 1) := by decide +kernel
theorem dX6_init_4 : decode cX6_init 4 = .ok (.aload_n 0, 1) := by decide +kernel
theorem dX6_init_5 : decode cX6_init 5 = .ok (.iconst 0, 1) := by decide +kernel
theorem dX6_init_6 : decode cX6_init 6 = .ok (.putfield 7, 3) := by decide +kernel
theorem dX6_init_9 : decode cX6_init 9 = .ok (.iload_n 1, 1) := by decide +kernel
theorem dX7_init_0 : decode cX7_init 0 = .ok (.aload_n 0, 1) := by decide +kernel
theorem dX7_init_1 : decode cX7_init 1 = .ok (.invokespecial 3, 3) := by decide +kernel
theorem dX7_init_10 : decode cX7_init 10 = .ok (.putfield 11, 3) := by decide +kernel
theorem dX7_init_100 : decode cX7_init 100 = .ok (.istore_n 1, 1) := by decide +kernel
theorem dX7_init_101 : decode cX7_init 101 = .ok (.iload_n 1, 1) := by decide +kernel
theorem dX7_init_102 : decode cX7_init 102 = .ok (.bipush 7, 2) := by decide +kernel
theorem dX7_init_104 : decode cX7_init 104 = .ok (.if_icmp .ge 22, 3) := by decide +kernel
theorem dX7_init_107 : decode cX7_init 107 = .ok (.aload_n 0, 1) := by decide +kernel
theorem dX7_init_108 : decode cX7_init 108 = .ok (.getfield 11, 3) := by decide +kernel
theorem dX7_init_111 : decode cX7_init 111 = .ok (.iload_n 1, 1) := by decide +kernel
theorem dX7_init_112 : decode cX7_init 112 = .ok (.new 9, 3) := by decide +kernel
theorem dX7_init_115 : decode cX7_init 115 = .ok (.dup, 1) := by decide +kernel
theorem dX7_init_116 : decode cX7_init 116 = .ok (.invokespecial 61, 3) := by decide +kernel
theorem dX7_init_119 : decode cX7_init 119 = .ok (.aastore, 1) := by decide +kernel
theorem dX7_init_120 : decode cX7_init 120 = .ok (.iinc 1 1, 3) := by decide +kernel
theorem dX7_init_123 : decode cX7_init 123 = .ok (.goto (-22), 3) := by decide +kernel
theorem dX7_init_126 : decode cX7_init 126 = .ok (.return_, 1) := by decide +kernel
theorem dX7_init_13 : decode cX7_init 13 = .ok (.aload_n 0, 1) := by decide +kernel
theorem dX7_init_14 : decode cX7_init 14 = .ok (.iconst 0, 1) := by decide +kernel
theorem dX7_init_15 : decode cX7_init 15 = .ok (.putfield 17, 3) := by decide +kernel
theorem dX7_init_18 : decode cX7_init 18 = .ok (.aload_n 0, 1) := by decide +kernel
theorem dX7_init_19 : decode cX7_init 19 = .ok (.bipush 20, 2) := by decide +kernel
theorem dX7_init_21 : decode cX7_init 21 = .ok (.putfield 21, 3) := by decide +kernel
theorem dX7_init_24 : decode cX7_init 24 = .ok (.aload_n 0, 1) := by decide +kernel
theorem dX7_init_25 : decode cX7_init 25 = .ok (.iconst 0, 1) := by decide +kernel
theorem dX7_init_26 : decode cX7_init 26 = .ok (.putfield 24, 3) := by decide +kernel
theorem dX7_init_29 : decode cX7_init 29 = .ok (.aload_n 0, 1) := by decide +kernel
theorem dX7_init_30 : decode cX7_init 30 = .ok (.iconst 0, 1) := by decide +kernel
theorem dX7_init_31 : decode cX7_init 31 = .ok (.putfield 27, 3) := by decide +kernel
theorem dX7_init_34 : decode cX7_init 34 = .ok (.aload_n 0, 1) := by decide +kernel
theorem dX7_init_35 : decode cX7_init 35 = .ok (.iconst 0, 1) := by decide +kernel
theorem dX7_init_36 : decode cX7_init 36 = .ok (.putfield 30, 3) := by decide +kernel
theorem dX7_init_39 : decode cX7_init 39 = .ok (.aload_n 0, 1) := by decide +kernel
theorem dX7_init_4 : decode cX7_init 4 = .ok (.aload_n 0, 1) := by decide +kernel
theorem dX7_init_40 : decode cX7_init 40 = .ok (.iconst 0, 1) := by decide +kernel
theorem dX7_init_41 : decode cX7_init 41 = .ok (.putfield 33, 3) := by decide +kernel
theorem dX7_init_44 : decode cX7_init 44 = .ok (.aload_n 0, 1) := by decide +kernel
theorem dX7_init_45 : decode cX7_init 45 = .ok (.iconst 0, 1) := by decide +kernel
theorem dX7_init_46 : decode cX7_init 46 = .ok (.putfield 36, 3) := by decide +kernel
theorem dX7_init_49 : decode cX7_init 49 = .ok (.aload_n 0, 1) := by decide +kernel
theorem dX7_init_5 : decode cX7_init 5 = .ok (.bipush 7, 2) := by decide +kernel
theorem dX7_init_50 : decode cX7_init 50 = .ok (.new 39, 3) := by decide +kernel
theorem dX7_init_53 : decode cX7_init 53 = .ok (.dup, 1) := by decide +kernel
theorem dX7_init_54 : decode cX7_init 54 = .ok (.invokespecial 41, 3) := by decide +kernel
theorem dX7_init_57 : decode cX7_init 57 = .ok (.putfield 42, 3) := by decide +kernel
theorem dX7_init_60 : decode cX7_init 60 = .ok (.aload_n 0, 1) := by decide +kernel
theorem dX7_init_61 : decode cX7_init 61 = .ok (.new 46, 3) := by decide +kernel
theorem dX7_init_64 : decode cX7_init 64 = .ok (.dup, 1) := by decide +kernel
theorem dX7_init_65 : decode cX7_init 65 = .ok (.bipush 7, 2) := by decide +kernel
theorem dX7_init_67 : decode cX7_init 67 = .ok (.invokespecial 48, 3) := by decide +kernel
theorem dX7_init_7 : decode cX7_init 7 = .ok (.anewarray 9, 3) := by decide +kernel
theorem dX7_init_70 : decode cX7_init 70 = .ok (.putfield 51, 3) := by decide +kernel
theorem dX7_init_73 : decode cX7_init 73 = .ok (.aload_n 0, 1) := by decide +kernel
theorem dX7_init_74 : decode cX7_init 74 = .ok (.new 46, 3) := by decide +kernel
theorem dX7_init_77 : decode cX7_init 77 = .ok (.dup, 1) := by decide +kernel
theorem dX7_init_78 : decode cX7_init 78 = .ok (.bipush 6, 2) := by decide +kernel
theorem dX7_init_80 : decode cX7_init 80 = .ok (.invokespecial 48, 3) := by decide +kernel
theorem dX7_init_83 : decode cX7_init 83 = .ok (.putfield 55, 3) := by decide +kernel
theorem dX7_init_86 : decode cX7_init 86 = .ok (.aload_n 0, 1) := by decide +kernel
theorem dX7_init_87 : decode cX7_init 87 = .ok (.new 46, 3) := by decide +kernel
theorem dX7_init_90 : decode cX7_init 90 = .ok (.dup, 1) := by decide +kernel
theorem dX7_init_91 : decode cX7_init 91 = .ok (.bipush 8, 2) := by decide +kernel
theorem dX7_init_93 : decode cX7_init 93 = .ok (.invokespecial 48, 3) := by decide +kernel
theorem dX7_init_96 : decode cX7_init 96 = .ok (.putfield 58, 3) := by decide +kernel
theorem dX7_init_99 : decode cX7_init 99 = .ok (.iconst 0, 1) := by decide +kernel
theorem dX8_init_0 : decode cX8_init 0 = .ok (.aload_n 0, 1) := by decide +kernel
theorem dX8_init_1 : decode cX8_init 1 = .ok (.invokespecial 1, 3) := by decide +kernel
theorem dX8_init_10 : decode cX8_init 10 = .ok (.iconst 0, 1) := by decide +kernel
theorem dX8_init_11 : decode cX8_init 11 = .ok (.putfield 13, 3) := by decide +kernel
theorem dX8_init_14 : decode cX8_init 14 = .ok (.aload_n 0, 1) := by decide +kernel
theorem dX8_init_15 : decode cX8_init 15 = .ok (.bipush 60, 2) := by decide +kernel
theorem dX8_init_17 : decode cX8_init 17 = .ok (.newarray .long, 2) := by decide +kernel
theorem dX8_init_19 : decode cX8_init 19 = .ok (.putfield 16, 3) := by decide +kernel
theorem dX8_init_22 : decode cX8_init 22 = .ok (.return_, 1) := by decide +kernel
theorem dX8_init_4 : decode cX8_init 4 = .ok (.aload_n 0, 1) := by decide +kernel
theorem dX8_init_5 : decode cX8_init 5 = .ok (.iconst (-1), 1) := by decide +kernel
theorem dX8_init_6 : decode cX8_init 6 = .ok (.putfield 9, 3) := by decide +kernel
theorem dX8_init_9 : decode cX8_init 9 = .ok (.aload_n 0, 1) := by decide +kernel
set_option maxHeartbeats 8000000 in
set_option maxRecDepth 100000 in
theorem zc_X2_init_0 (l : Launch) (D : va_G) (y : Nat → ClassId) (a0 : Nat) : zM l D y yX2_init (Cond.code yX2_init cX2_init 1 none :: zT) { frames := 1, cells := 4, slots := 126, locals := 20 } [.ref a0] [(a0, .inr (2, [.int 0, .int 0, .int 0, .null, .null, .int 0, .null, .null]))] (zQv (S := Nat × Nat × Nat × Nat) D (fun z_ => match z_ with | (q1_, q2_, q3_, q4_) => True) (fun z_ => match z_ with | (q1_, q2_, q3_, q4_) => [(a0, .inr (2, [.int 2, .int 15, .int 0, .ref q1_, .ref q2_, .int 0, .ref q3_, .ref q4_])), (q1_, .inl (y 0, 10, .inl (fun _ => 0))), (q2_, .inl (y 0, 10, .inl (fun _ => 0))), (q3_, .inl (y 0, 100, .inl (fun _ => 0))), (q4_, .inl (y 0, 6, .inl (fun _ => 0)))])) := by
  refine zent (cc := cX2_init) (maxL := 1) (ret := none) (by decide) (Nat.le_of_ble_eq_true rfl) ?_
  intro p e s m below meth c A H locs ls hx hb hml hr ht hown hlocks hin hA hK hE hS hW hl
  have hown : s.vm.findClass RX2 = some m.cls := hown
  have hW : zPD D A [(a0, .inr (2, [.int 0, .int 0, .int 0, .null, .null, .int 0, .null, .null]))] H := hW
  have hl : lv_has ls 1 [(0, .ref a0)] := hl
  refine lv_aload_n hx hb dX2_init_0 rfl (lv_at hl 0 rfl) ?_
  refine W.objInit hx hb hown (ht _ zm_52) (ht _ zm_11) (ht _ zm_12) rfl (by rw [hml]; exact hl.1) rfl dX2_init_1 (Nat.le_of_ble_eq_true rfl) (Nat.le_of_ble_eq_true rfl) ?_
  refine W.eq (g2 := F0 m 4 ls []) rfl ?_
  refine lv_aload_n hx hb dX2_init_4 rfl (lv_at hl 0 rfl) ?_
  refine lv_iconst (v := 2) hx hb dX2_init_5 (by decide) ?_
  refine zput (ws' := [(a0, .inr (2, [.int 2, .int 0, .int 0, .null, .null, .int 0, .null, .null]))]) hx hb ht inlX2 tyX2 tyX2_ok nmX2 hown hK hS hW 0 rfl rfl 0 (by decide) zm_53 rfl rfl rfl (Nat.le_of_ble_eq_true rfl) rfl dX2_init_6 (fun H locs hW hS => ?_)
  refine lv_aload_n hx hb dX2_init_9 rfl (lv_at hl 0 rfl) ?_
  refine lv_bipush (v := 15) hx hb dX2_init_10 (by decide) ?_
  refine zput (ws' := [(a0, .inr (2, [.int 2, .int 15, .int 0, .null, .null, .int 0, .null, .null]))]) hx hb ht inlX2 tyX2 tyX2_ok nmX2 hown hK hS hW 0 rfl rfl 1 (by decide) zm_54 rfl rfl rfl (Nat.le_of_ble_eq_true rfl) rfl dX2_init_12 (fun H locs hW hS => ?_)
  refine lv_aload_n hx hb dX2_init_15 rfl (lv_at hl 0 rfl) ?_
  refine lv_iconst (v := 0) hx hb dX2_init_16 (by decide) ?_
  refine zput (ws' := [(a0, .inr (2, [.int 2, .int 15, .int 0, .null, .null, .int 0, .null, .null]))]) hx hb ht inlX2 tyX2 tyX2_ok nmX2 hown hK hS hW 0 rfl rfl 2 (by decide) zm_55 rfl rfl rfl (Nat.le_of_ble_eq_true rfl) rfl dX2_init_17 (fun H locs hW hS => ?_)
  refine lv_aload_n hx hb dX2_init_20 rfl (lv_at hl 0 rfl) ?_
  refine lv_bipush (v := 10) hx hb dX2_init_21 (by decide) ?_
  refine znewa (atype := .int) hx hb ht zm_43 0 rfl hK hS hW hA (10, .inl (fun _ => 0)) (fun _ => rfl) (by decide) rfl (Nat.le_of_ble_eq_true rfl) (Nat.le_of_ble_eq_true rfl) (Nat.le_of_ble_eq_true rfl) dX2_init_23 (fun q1_ H hW hS => ?_)
  have hW : zPD D A [(a0, .inr (2, [.int 2, .int 15, .int 0, .null, .null, .int 0, .null, .null])), (q1_, .inl (y 0, 10, .inl (fun _ => 0)))] H := hW
  refine zputF (ws' := [(a0, .inr (2, [.int 2, .int 15, .int 0, .ref q1_, .null, .int 0, .null, .null])), (q1_, .inl (y 0, 10, .inl (fun _ => 0)))]) hx hb ht inlX2 tyX2 tyX2_ok nmX2 hown hK hS hW 0 rfl rfl 3 (by decide) zm_56 rfl hin rfl rfl rfl (Nat.le_of_ble_eq_true rfl) rfl dX2_init_25 (fun H locs hW hS => ?_)
  refine lv_aload_n hx hb dX2_init_28 rfl (lv_at hl 0 rfl) ?_
  refine lv_bipush (v := 10) hx hb dX2_init_29 (by decide) ?_
  refine znewa (atype := .int) hx hb ht zm_43 0 rfl hK hS hW hA (10, .inl (fun _ => 0)) (fun _ => rfl) (by decide) rfl (Nat.le_of_ble_eq_true rfl) (Nat.le_of_ble_eq_true rfl) (Nat.le_of_ble_eq_true rfl) dX2_init_31 (fun q2_ H hW hS => ?_)
  have hW : zPD D A [(a0, .inr (2, [.int 2, .int 15, .int 0, .ref q1_, .null, .int 0, .null, .null])), (q1_, .inl (y 0, 10, .inl (fun _ => 0))), (q2_, .inl (y 0, 10, .inl (fun _ => 0)))] H := hW
  refine zputF (ws' := [(a0, .inr (2, [.int 2, .int 15, .int 0, .ref q1_, .ref q2_, .int 0, .null, .null])), (q1_, .inl (y 0, 10, .inl (fun _ => 0))), (q2_, .inl (y 0, 10, .inl (fun _ => 0)))]) hx hb ht inlX2 tyX2 tyX2_ok nmX2 hown hK hS hW 0 rfl rfl 4 (by decide) zm_57 rfl hin rfl rfl rfl (Nat.le_of_ble_eq_true rfl) rfl dX2_init_33 (fun H locs hW hS => ?_)
  refine lv_aload_n hx hb dX2_init_36 rfl (lv_at hl 0 rfl) ?_
  refine lv_iconst (v := 0) hx hb dX2_init_37 (by decide) ?_
  refine zput (ws' := [(a0, .inr (2, [.int 2, .int 15, .int 0, .ref q1_, .ref q2_, .int 0, .null, .null])), (q1_, .inl (y 0, 10, .inl (fun _ => 0))), (q2_, .inl (y 0, 10, .inl (fun _ => 0)))]) hx hb ht inlX2 tyX2 tyX2_ok nmX2 hown hK hS hW 0 rfl rfl 5 (by decide) zm_58 rfl rfl rfl (Nat.le_of_ble_eq_true rfl) rfl dX2_init_38 (fun H locs hW hS => ?_)
  refine lv_aload_n hx hb dX2_init_41 rfl (lv_at hl 0 rfl) ?_
  refine lv_bipush (v := 100) hx hb dX2_init_42 (by decide) ?_
  refine znewa (atype := .int) hx hb ht zm_43 0 rfl hK hS hW hA (100, .inl (fun _ => 0)) (fun _ => rfl) (by decide) rfl (Nat.le_of_ble_eq_true rfl) (Nat.le_of_ble_eq_true rfl) (Nat.le_of_ble_eq_true rfl) dX2_init_44 (fun q3_ H hW hS => ?_)
  have hW : zPD D A [(a0, .inr (2, [.int 2, .int 15, .int 0, .ref q1_, .ref q2_, .int 0, .null, .null])), (q1_, .inl (y 0, 10, .inl (fun _ => 0))), (q2_, .inl (y 0, 10, .inl (fun _ => 0))), (q3_, .inl (y 0, 100, .inl (fun _ => 0)))] H := hW
  refine zputF (ws' := [(a0, .inr (2, [.int 2, .int 15, .int 0, .ref q1_, .ref q2_, .int 0, .ref q3_, .null])), (q1_, .inl (y 0, 10, .inl (fun _ => 0))), (q2_, .inl (y 0, 10, .inl (fun _ => 0))), (q3_, .inl (y 0, 100, .inl (fun _ => 0)))]) hx hb ht inlX2 tyX2 tyX2_ok nmX2 hown hK hS hW 0 rfl rfl 6 (by decide) zm_59 rfl hin rfl rfl rfl (Nat.le_of_ble_eq_true rfl) rfl dX2_init_46 (fun H locs hW hS => ?_)
  refine lv_aload_n hx hb dX2_init_49 rfl (lv_at hl 0 rfl) ?_
  refine lv_bipush (v := 6) hx hb dX2_init_50 (by decide) ?_
  refine znewa (atype := .int) hx hb ht zm_43 0 rfl hK hS hW hA (6, .inl (fun _ => 0)) (fun _ => rfl) (by decide) rfl (Nat.le_of_ble_eq_true rfl) (Nat.le_of_ble_eq_true rfl) (Nat.le_of_ble_eq_true rfl) dX2_init_52 (fun q4_ H hW hS => ?_)
  have hW : zPD D A [(a0, .inr (2, [.int 2, .int 15, .int 0, .ref q1_, .ref q2_, .int 0, .ref q3_, .null])), (q1_, .inl (y 0, 10, .inl (fun _ => 0))), (q2_, .inl (y 0, 10, .inl (fun _ => 0))), (q3_, .inl (y 0, 100, .inl (fun _ => 0))), (q4_, .inl (y 0, 6, .inl (fun _ => 0)))] H := hW
  refine zputF (ws' := [(a0, .inr (2, [.int 2, .int 15, .int 0, .ref q1_, .ref q2_, .int 0, .ref q3_, .ref q4_])), (q1_, .inl (y 0, 10, .inl (fun _ => 0))), (q2_, .inl (y 0, 10, .inl (fun _ => 0))), (q3_, .inl (y 0, 100, .inl (fun _ => 0))), (q4_, .inl (y 0, 6, .inl (fun _ => 0)))]) hx hb ht inlX2 tyX2 tyX2_ok nmX2 hown hK hS hW 0 rfl rfl 7 (by decide) zm_60 rfl hin rfl rfl rfl (Nat.le_of_ble_eq_true rfl) rfl dX2_init_54 (fun H locs hW hS => ?_)
  exact zret_v hx hb hr hlocks hS (q1_, q2_, q3_, q4_) trivial hW (Nat.le_of_ble_eq_true rfl) (Nat.le_of_ble_eq_true rfl) dX2_init_57
set_option maxHeartbeats 8000000 in
set_option maxRecDepth 100000 in
theorem zc_X5_init_0 (l : Launch) (D : va_G) (y : Nat → ClassId) (a0 : Nat) : zM l D y yX5_init (Cond.code yX5_init cX5_init 1 none :: zT) { frames := 2, cells := 6, slots := 234, locals := 40 } [.ref a0] [(a0, .inr (4, [.null, .int 0, .int 0, .int 0, .null]))] (zQv (S := Nat × Nat × Nat × Nat × Nat × Nat) D (fun z_ => match z_ with | (q1_, q2_, q3_, q4_, q5_, q6_) => True) (fun z_ => match z_ with | (q1_, q2_, q3_, q4_, q5_, q6_) => [(a0, .inr (4, [.ref q1_, .int 0, .int 0, .int (-1), .ref q2_])), (q1_, .inl (y 0, 100, .inl (fun _ => 0))), (q2_, .inr (2, [.int 2, .int 15, .int 0, .ref q3_, .ref q4_, .int 0, .ref q5_, .ref q6_])), (q3_, .inl (y 0, 10, .inl (fun _ => 0))), (q4_, .inl (y 0, 10, .inl (fun _ => 0))), (q5_, .inl (y 0, 100, .inl (fun _ => 0))), (q6_, .inl (y 0, 6, .inl (fun _ => 0)))])) := by
  refine zent (cc := cX5_init) (maxL := 1) (ret := none) (by decide) (Nat.le_of_ble_eq_true rfl) ?_
  intro p e s m below meth c A H locs ls hx hb hml hr ht hown hlocks hin hA hK hE hS hW hl
  have hown : s.vm.findClass RX5 = some m.cls := hown
  have hW : zPD D A [(a0, .inr (4, [.null, .int 0, .int 0, .int 0, .null]))] H := hW
  have hl : lv_has ls 1 [(0, .ref a0)] := hl
  refine lv_aload_n hx hb dX5_init_0 rfl (lv_at hl 0 rfl) ?_
  refine W.objInit hx hb hown (ht _ zm_42) (ht _ zm_11) (ht _ zm_12) rfl (by rw [hml]; exact hl.1) rfl dX5_init_1 (Nat.le_of_ble_eq_true rfl) (Nat.le_of_ble_eq_true rfl) ?_
  refine W.eq (g2 := F0 m 4 ls []) rfl ?_
  refine lv_aload_n hx hb dX5_init_4 rfl (lv_at hl 0 rfl) ?_
  refine lv_bipush (v := 100) hx hb dX5_init_5 (by decide) ?_
  refine znewa (atype := .int) hx hb ht zm_43 0 rfl hK hS hW hA (100, .inl (fun _ => 0)) (fun _ => rfl) (by decide) rfl (Nat.le_of_ble_eq_true rfl) (Nat.le_of_ble_eq_true rfl) (Nat.le_of_ble_eq_true rfl) dX5_init_7 (fun q1_ H hW hS => ?_)
  have hW : zPD D A [(a0, .inr (4, [.null, .int 0, .int 0, .int 0, .null])), (q1_, .inl (y 0, 100, .inl (fun _ => 0)))] H := hW
  refine zputF (ws' := [(a0, .inr (4, [.ref q1_, .int 0, .int 0, .int 0, .null])), (q1_, .inl (y 0, 100, .inl (fun _ => 0)))]) hx hb ht inlX5 tyX5 tyX5_ok nmX5 hown hK hS hW 0 rfl rfl 0 (by decide) zm_44 rfl hin rfl rfl rfl (Nat.le_of_ble_eq_true rfl) rfl dX5_init_9 (fun H locs hW hS => ?_)
  refine lv_aload_n hx hb dX5_init_12 rfl (lv_at hl 0 rfl) ?_
  refine lv_iconst (v := 0) hx hb dX5_init_13 (by decide) ?_
  refine zput (ws' := [(a0, .inr (4, [.ref q1_, .int 0, .int 0, .int 0, .null])), (q1_, .inl (y 0, 100, .inl (fun _ => 0)))]) hx hb ht inlX5 tyX5 tyX5_ok nmX5 hown hK hS hW 0 rfl rfl 1 (by decide) zm_45 rfl rfl rfl (Nat.le_of_ble_eq_true rfl) rfl dX5_init_14 (fun H locs hW hS => ?_)
  refine lv_aload_n hx hb dX5_init_17 rfl (lv_at hl 0 rfl) ?_
  refine lv_iconst (v := 0) hx hb dX5_init_18 (by decide) ?_
  refine zput (ws' := [(a0, .inr (4, [.ref q1_, .int 0, .int 0, .int 0, .null])), (q1_, .inl (y 0, 100, .inl (fun _ => 0)))]) hx hb ht inlX5 tyX5 tyX5_ok nmX5 hown hK hS hW 0 rfl rfl 2 (by decide) zm_46 rfl rfl rfl (Nat.le_of_ble_eq_true rfl) rfl dX5_init_19 (fun H locs hW hS => ?_)
  refine lv_aload_n hx hb dX5_init_22 rfl (lv_at hl 0 rfl) ?_
  refine lv_iconst (v := (-1)) hx hb dX5_init_23 (by decide) ?_
  refine zput (ws' := [(a0, .inr (4, [.ref q1_, .int 0, .int 0, .int (-1), .null])), (q1_, .inl (y 0, 100, .inl (fun _ => 0)))]) hx hb ht inlX5 tyX5 tyX5_ok nmX5 hown hK hS hW 0 rfl rfl 3 (by decide) zm_47 rfl rfl rfl (Nat.le_of_ble_eq_true rfl) rfl dX5_init_24 (fun H locs hW hS => ?_)
  refine lv_aload_n hx hb dX5_init_27 rfl (lv_at hl 0 rfl) ?_
  refine znew (ci := 2) (fs := [.int 0, .int 0, .int 0, .null, .null, .int 0, .null, .null]) hx hb ht inlX2 tyX2 tyX2_ok hown zm_48 zm_36 zm_37 hK hS hW hA rfl zn_X2 (Nat.le_of_ble_eq_true rfl) (Nat.le_of_ble_eq_true rfl) dX5_init_28 (fun q2_ H hW hS => ?_)
  have hW : zPD D A [(a0, .inr (4, [.ref q1_, .int 0, .int 0, .int (-1), .null])), (q1_, .inl (y 0, 100, .inl (fun _ => 0))), (q2_, .inr (2, [.int 0, .int 0, .int 0, .null, .null, .int 0, .null, .null]))] H := hW
  refine lv_dup hx hb dX5_init_31 rfl ?_
  refine zgo_v (wr := [(a0, .inr (4, [.ref q1_, .int 0, .int 0, .int (-1), .null])), (q1_, .inl (y 0, 100, .inl (fun _ => 0)))]) (zrunIN (As := []) (rest := [.ref q2_, .ref a0]) ⟨hx, hb, hml, hown, ht⟩ (zc_X2_init_0 l D y q2_) ⟨va_cnB 0 ht (zgI zm_51) rfl rfl rfl (zN_1 hK) (ht _ zm_37) (by decide +kernel) ⟨(Nat.le_of_ble_eq_true rfl), (Nat.le_of_ble_eq_true rfl)⟩, rfl, ht _ zm_50⟩ hK hE hS hA hW [2] (by decide) rfl rfl hl.1 rfl (Nat.le_of_ble_eq_true rfl) dX5_init_32 (Nat.le_of_ble_eq_true rfl) (Nat.le_of_ble_eq_true rfl)) hS hA hW [2] [0, 1] rfl rfl (by decide) (by decide) (fun u H locs hw hW hS => ?_)
  obtain ⟨q3_, q4_, q5_, q6_⟩ := u
  have hW : zPD D A [(a0, .inr (4, [.ref q1_, .int 0, .int 0, .int (-1), .null])), (q1_, .inl (y 0, 100, .inl (fun _ => 0))), (q2_, .inr (2, [.int 2, .int 15, .int 0, .ref q3_, .ref q4_, .int 0, .ref q5_, .ref q6_])), (q3_, .inl (y 0, 10, .inl (fun _ => 0))), (q4_, .inl (y 0, 10, .inl (fun _ => 0))), (q5_, .inl (y 0, 100, .inl (fun _ => 0))), (q6_, .inl (y 0, 6, .inl (fun _ => 0)))] H := hW
  refine zput (ws' := [(a0, .inr (4, [.ref q1_, .int 0, .int 0, .int (-1), .ref q2_])), (q1_, .inl (y 0, 100, .inl (fun _ => 0))), (q2_, .inr (2, [.int 2, .int 15, .int 0, .ref q3_, .ref q4_, .int 0, .ref q5_, .ref q6_])), (q3_, .inl (y 0, 10, .inl (fun _ => 0))), (q4_, .inl (y 0, 10, .inl (fun _ => 0))), (q5_, .inl (y 0, 100, .inl (fun _ => 0))), (q6_, .inl (y 0, 6, .inl (fun _ => 0)))]) hx hb ht inlX5 tyX5 tyX5_ok nmX5 hown hK hS hW 0 rfl rfl 4 (by decide) zm_49 rfl rfl rfl (Nat.le_of_ble_eq_true rfl) rfl dX5_init_35 (fun H locs hW hS => ?_)
  exact zret_v hx hb hr hlocks hS (q1_, q2_, q3_, q4_, q5_, q6_) trivial hW (Nat.le_of_ble_eq_true rfl) (Nat.le_of_ble_eq_true rfl) dX5_init_38
set_option maxHeartbeats 8000000 in
set_option maxRecDepth 100000 in
theorem zc_X6_init_0 (l : Launch) (D : va_G) (y : Nat → ClassId) (a0 : Nat) : zM l D y yX6_init (Cond.code yX6_init cX6_init 3 none :: zT) { frames := 1, cells := 2, slots := 14, locals := 21 } [.ref a0, .int 7] [(a0, .inr (5, [.int 0, .null, .null]))] (zQv (S := Nat × Nat) D (fun z_ => match z_ with | (q1_, q2_) => True) (fun z_ => match z_ with | (q1_, q2_) => [(a0, .inr (5, [.int 0, .ref q1_, .ref q2_])), (q1_, .inl (y 0, 7, .inl (fun _ => 0))), (q2_, .inl (y 0, 7, .inl (fun _ => 0)))])) := by
  refine zent (cc := cX6_init) (maxL := 3) (ret := none) (by decide) (Nat.le_of_ble_eq_true rfl) ?_
  intro p e s m below meth c A H locs ls hx hb hml hr ht hown hlocks hin hA hK hE hS hW hl
  have hown : s.vm.findClass RX6 = some m.cls := hown
  have hW : zPD D A [(a0, .inr (5, [.int 0, .null, .null]))] H := hW
  have hl : lv_has ls 3 [(0, .ref a0), (1, .int 7)] := hl
  refine lv_aload_n hx hb dX6_init_0 rfl (lv_at hl 0 rfl) ?_
  refine W.objInit hx hb hown (ht _ zm_87) (ht _ zm_11) (ht _ zm_12) rfl (by rw [hml]; exact hl.1) rfl dX6_init_1 (Nat.le_of_ble_eq_true rfl) (Nat.le_of_ble_eq_true rfl) ?_
  refine W.eq (g2 := F0 m 4 ls []) rfl ?_
  refine lv_aload_n hx hb dX6_init_4 rfl (lv_at hl 0 rfl) ?_
  refine lv_iconst (v := 0) hx hb dX6_init_5 (by decide) ?_
  refine zput (ws' := [(a0, .inr (5, [.int 0, .null, .null]))]) hx hb ht inlX6 tyX6 tyX6_ok nmX6 hown hK hS hW 0 rfl rfl 0 (by decide) zm_88 rfl rfl rfl (Nat.le_of_ble_eq_true rfl) rfl dX6_init_6 (fun H locs hW hS => ?_)
  refine lv_iload_n hx hb dX6_init_9 rfl (lv_at hl 1 rfl) ?_
  refine lv_iconst (v := 0) hx hb dX6_init_10 (by decide) ?_
  refine va_mmax hx hb (by rw [hml]; exact hl.1.symm) hown (ht _ zm_89) (ht _ zm_90) (ht _ zm_91) (ht _ zm_92) (Nat.le_of_ble_eq_true rfl) (Nat.le_of_ble_eq_true rfl) (Nat.le_of_ble_eq_true rfl) (Nat.le_of_ble_eq_true rfl) dX6_init_11 ?_
  refine ztop (w := .int 7) (congrArg Value.int (by decide)) ?_
  refine lv_istore_n (lv' := [(2, .int 7), (0, .ref a0), (1, .int 7)]) hx hb dX6_init_14 rfl hl (by decide) rfl (fun ls hl => ?_)
  refine lv_aload_n hx hb dX6_init_15 rfl (lv_at hl 1 rfl) ?_
  refine lv_iload_n hx hb dX6_init_16 rfl (lv_at hl 0 rfl) ?_
  refine znewa (atype := .int) hx hb ht zm_43 0 rfl hK hS hW hA (7, .inl (fun _ => 0)) (fun _ => rfl) (by decide) rfl (Nat.le_of_ble_eq_true rfl) (Nat.le_of_ble_eq_true rfl) (Nat.le_of_ble_eq_true rfl) dX6_init_17 (fun q1_ H hW hS => ?_)
  have hW : zPD D A [(a0, .inr (5, [.int 0, .null, .null])), (q1_, .inl (y 0, 7, .inl (fun _ => 0)))] H := hW
  refine zputF (ws' := [(a0, .inr (5, [.int 0, .ref q1_, .null])), (q1_, .inl (y 0, 7, .inl (fun _ => 0)))]) hx hb ht inlX6 tyX6 tyX6_ok nmX6 hown hK hS hW 0 rfl rfl 1 (by decide) zm_93 rfl hin rfl rfl rfl (Nat.le_of_ble_eq_true rfl) rfl dX6_init_19 (fun H locs hW hS => ?_)
  refine lv_aload_n hx hb dX6_init_22 rfl (lv_at hl 1 rfl) ?_
  refine lv_iload_n hx hb dX6_init_23 rfl (lv_at hl 0 rfl) ?_
  refine znewa (atype := .int) hx hb ht zm_43 0 rfl hK hS hW hA (7, .inl (fun _ => 0)) (fun _ => rfl) (by decide) rfl (Nat.le_of_ble_eq_true rfl) (Nat.le_of_ble_eq_true rfl) (Nat.le_of_ble_eq_true rfl) dX6_init_24 (fun q2_ H hW hS => ?_)
  have hW : zPD D A [(a0, .inr (5, [.int 0, .ref q1_, .null])), (q1_, .inl (y 0, 7, .inl (fun _ => 0))), (q2_, .inl (y 0, 7, .inl (fun _ => 0)))] H := hW
  refine zputF (ws' := [(a0, .inr (5, [.int 0, .ref q1_, .ref q2_])), (q1_, .inl (y 0, 7, .inl (fun _ => 0))), (q2_, .inl (y 0, 7, .inl (fun _ => 0)))]) hx hb ht inlX6 tyX6 tyX6_ok nmX6 hown hK hS hW 0 rfl rfl 2 (by decide) zm_94 rfl hin rfl rfl rfl (Nat.le_of_ble_eq_true rfl) rfl dX6_init_26 (fun H locs hW hS => ?_)
  exact zret_v hx hb hr hlocks hS (q1_, q2_) trivial hW (Nat.le_of_ble_eq_true rfl) (Nat.le_of_ble_eq_true rfl) dX6_init_29
set_option maxHeartbeats 8000000 in
set_option maxRecDepth 100000 in
theorem zc_X6_init_1 (l : Launch) (D : va_G) (y : Nat → ClassId) (a0 : Nat) : zM l D y yX6_init (Cond.code yX6_init cX6_init 3 none :: zT) { frames := 1, cells := 2, slots := 12, locals := 21 } [.ref a0, .int 6] [(a0, .inr (5, [.int 0, .null, .null]))] (zQv (S := Nat × Nat) D (fun z_ => match z_ with | (q1_, q2_) => True) (fun z_ => match z_ with | (q1_, q2_) => [(a0, .inr (5, [.int 0, .ref q1_, .ref q2_])), (q1_, .inl (y 0, 6, .inl (fun _ => 0))), (q2_, .inl (y 0, 6, .inl (fun _ => 0)))])) := by
  refine zent (cc := cX6_init) (maxL := 3) (ret := none) (by decide) (Nat.le_of_ble_eq_true rfl) ?_
  intro p e s m below meth c A H locs ls hx hb hml hr ht hown hlocks hin hA hK hE hS hW hl
  have hown : s.vm.findClass RX6 = some m.cls := hown
  have hW : zPD D A [(a0, .inr (5, [.int 0, .null, .null]))] H := hW
  have hl : lv_has ls 3 [(0, .ref a0), (1, .int 6)] := hl
  refine lv_aload_n hx hb dX6_init_0 rfl (lv_at hl 0 rfl) ?_
  refine W.objInit hx hb hown (ht _ zm_87) (ht _ zm_11) (ht _ zm_12) rfl (by rw [hml]; exact hl.1) rfl dX6_init_1 (Nat.le_of_ble_eq_true rfl) (Nat.le_of_ble_eq_true rfl) ?_
  refine W.eq (g2 := F0 m 4 ls []) rfl ?_
  refine lv_aload_n hx hb dX6_init_4 rfl (lv_at hl 0 rfl) ?_
  refine lv_iconst (v := 0) hx hb dX6_init_5 (by decide) ?_
  refine zput (ws' := [(a0, .inr (5, [.int 0, .null, .null]))]) hx hb ht inlX6 tyX6 tyX6_ok nmX6 hown hK hS hW 0 rfl rfl 0 (by decide) zm_88 rfl rfl rfl (Nat.le_of_ble_eq_true rfl) rfl dX6_init_6 (fun H locs hW hS => ?_)
  refine lv_iload_n hx hb dX6_init_9 rfl (lv_at hl 1 rfl) ?_
  refine lv_iconst (v := 0) hx hb dX6_init_10 (by decide) ?_
  refine va_mmax hx hb (by rw [hml]; exact hl.1.symm) hown (ht _ zm_89) (ht _ zm_90) (ht _ zm_91) (ht _ zm_92) (Nat.le_of_ble_eq_true rfl) (Nat.le_of_ble_eq_true rfl) (Nat.le_of_ble_eq_true rfl) (Nat.le_of_ble_eq_true rfl) dX6_init_11 ?_
  refine ztop (w := .int 6) (congrArg Value.int (by decide)) ?_
  refine lv_istore_n (lv' := [(2, .int 6), (0, .ref a0), (1, .int 6)]) hx hb dX6_init_14 rfl hl (by decide) rfl (fun ls hl => ?_)
  refine lv_aload_n hx hb dX6_init_15 rfl (lv_at hl 1 rfl) ?_
  refine lv_iload_n hx hb dX6_init_16 rfl (lv_at hl 0 rfl) ?_
  refine znewa (atype := .int) hx hb ht zm_43 0 rfl hK hS hW hA (6, .inl (fun _ => 0)) (fun _ => rfl) (by decide) rfl (Nat.le_of_ble_eq_true rfl) (Nat.le_of_ble_eq_true rfl) (Nat.le_of_ble_eq_true rfl) dX6_init_17 (fun q1_ H hW hS => ?_)
  have hW : zPD D A [(a0, .inr (5, [.int 0, .null, .null])), (q1_, .inl (y 0, 6, .inl (fun _ => 0)))] H := hW
  refine zputF (ws' := [(a0, .inr (5, [.int 0, .ref q1_, .null])), (q1_, .inl (y 0, 6, .inl (fun _ => 0)))]) hx hb ht inlX6 tyX6 tyX6_ok nmX6 hown hK hS hW 0 rfl rfl 1 (by decide) zm_93 rfl hin rfl rfl rfl (Nat.le_of_ble_eq_true rfl) rfl dX6_init_19 (fun H locs hW hS => ?_)
  refine lv_aload_n hx hb dX6_init_22 rfl (lv_at hl 1 rfl) ?_
  refine lv_iload_n hx hb dX6_init_23 rfl (lv_at hl 0 rfl) ?_
  refine znewa (atype := .int) hx hb ht zm_43 0 rfl hK hS hW hA (6, .inl (fun _ => 0)) (fun _ => rfl) (by decide) rfl (Nat.le_of_ble_eq_true rfl) (Nat.le_of_ble_eq_true rfl) (Nat.le_of_ble_eq_true rfl) dX6_init_24 (fun q2_ H hW hS => ?_)
  have hW : zPD D A [(a0, .inr (5, [.int 0, .ref q1_, .null])), (q1_, .inl (y 0, 6, .inl (fun _ => 0))), (q2_, .inl (y 0, 6, .inl (fun _ => 0)))] H := hW
  refine zputF (ws' := [(a0, .inr (5, [.int 0, .ref q1_, .ref q2_])), (q1_, .inl (y 0, 6, .inl (fun _ => 0))), (q2_, .inl (y 0, 6, .inl (fun _ => 0)))]) hx hb ht inlX6 tyX6 tyX6_ok nmX6 hown hK hS hW 0 rfl rfl 2 (by decide) zm_94 rfl hin rfl rfl rfl (Nat.le_of_ble_eq_true rfl) rfl dX6_init_26 (fun H locs hW hS => ?_)
  exact zret_v hx hb hr hlocks hS (q1_, q2_) trivial hW (Nat.le_of_ble_eq_true rfl) (Nat.le_of_ble_eq_true rfl) dX6_init_29
set_option maxHeartbeats 8000000 in
set_option maxRecDepth 100000 in
theorem zc_X6_init_2 (l : Launch) (D : va_G) (y : Nat → ClassId) (a0 : Nat) : zM l D y yX6_init (Cond.code yX6_init cX6_init 3 none :: zT) { frames := 1, cells := 2, slots := 16, locals := 21 } [.ref a0, .int 8] [(a0, .inr (5, [.int 0, .null, .null]))] (zQv (S := Nat × Nat) D (fun z_ => match z_ with | (q1_, q2_) => True) (fun z_ => match z_ with | (q1_, q2_) => [(a0, .inr (5, [.int 0, .ref q1_, .ref q2_])), (q1_, .inl (y 0, 8, .inl (fun _ => 0))), (q2_, .inl (y 0, 8, .inl (fun _ => 0)))])) := by
  refine zent (cc := cX6_init) (maxL := 3) (ret := none) (by decide) (Nat.le_of_ble_eq_true rfl) ?_
  intro p e s m below meth c A H locs ls hx hb hml hr ht hown hlocks hin hA hK hE hS hW hl
  have hown : s.vm.findClass RX6 = some m.cls := hown
  have hW : zPD D A [(a0, .inr (5, [.int 0, .null, .null]))] H := hW
  have hl : lv_has ls 3 [(0, .ref a0), (1, .int 8)] := hl
  refine lv_aload_n hx hb dX6_init_0 rfl (lv_at hl 0 rfl) ?_
  refine W.objInit hx hb hown (ht _ zm_87) (ht _ zm_11) (ht _ zm_12) rfl (by rw [hml]; exact hl.1) rfl dX6_init_1 (Nat.le_of_ble_eq_true rfl) (Nat.le_of_ble_eq_true rfl) ?_
  refine W.eq (g2 := F0 m 4 ls []) rfl ?_
  refine lv_aload_n hx hb dX6_init_4 rfl (lv_at hl 0 rfl) ?_
  refine lv_iconst (v := 0) hx hb dX6_init_5 (by decide) ?_
  refine zput (ws' := [(a0, .inr (5, [.int 0, .null, .null]))]) hx hb ht inlX6 tyX6 tyX6_ok nmX6 hown hK hS hW 0 rfl rfl 0 (by decide) zm_88 rfl rfl rfl (Nat.le_of_ble_eq_true rfl) rfl dX6_init_6 (fun H locs hW hS => ?_)
  refine lv_iload_n hx hb dX6_init_9 rfl (lv_at hl 1 rfl) ?_
  refine lv_iconst (v := 0) hx hb dX6_init_10 (by decide) ?_
  refine va_mmax hx hb (by rw [hml]; exact hl.1.symm) hown (ht _ zm_89) (ht _ zm_90) (ht _ zm_91) (ht _ zm_92) (Nat.le_of_ble_eq_true rfl) (Nat.le_of_ble_eq_true rfl) (Nat.le_of_ble_eq_true rfl) (Nat.le_of_ble_eq_true rfl) dX6_init_11 ?_
  refine ztop (w := .int 8) (congrArg Value.int (by decide)) ?_
  refine lv_istore_n (lv' := [(2, .int 8), (0, .ref a0), (1, .int 8)]) hx hb dX6_init_14 rfl hl (by decide) rfl (fun ls hl => ?_)
  refine lv_aload_n hx hb dX6_init_15 rfl (lv_at hl 1 rfl) ?_
  refine lv_iload_n hx hb dX6_init_16 rfl (lv_at hl 0 rfl) ?_
  refine znewa (atype := .int) hx hb ht zm_43 0 rfl hK hS hW hA (8, .inl (fun _ => 0)) (fun _ => rfl) (by decide) rfl (Nat.le_of_ble_eq_true rfl) (Nat.le_of_ble_eq_true rfl) (Nat.le_of_ble_eq_true rfl) dX6_init_17 (fun q1_ H hW hS => ?_)
  have hW : zPD D A [(a0, .inr (5, [.int 0, .null, .null])), (q1_, .inl (y 0, 8, .inl (fun _ => 0)))] H := hW
  refine zputF (ws' := [(a0, .inr (5, [.int 0, .ref q1_, .null])), (q1_, .inl (y 0, 8, .inl (fun _ => 0)))]) hx hb ht inlX6 tyX6 tyX6_ok nmX6 hown hK hS hW 0 rfl rfl 1 (by decide) zm_93 rfl hin rfl rfl rfl (Nat.le_of_ble_eq_true rfl) rfl dX6_init_19 (fun H locs hW hS => ?_)
  refine lv_aload_n hx hb dX6_init_22 rfl (lv_at hl 1 rfl) ?_
  refine lv_iload_n hx hb dX6_init_23 rfl (lv_at hl 0 rfl) ?_
  refine znewa (atype := .int) hx hb ht zm_43 0 rfl hK hS hW hA (8, .inl (fun _ => 0)) (fun _ => rfl) (by decide) rfl (Nat.le_of_ble_eq_true rfl) (Nat.le_of_ble_eq_true rfl) (Nat.le_of_ble_eq_true rfl) dX6_init_24 (fun q2_ H hW hS => ?_)
  have hW : zPD D A [(a0, .inr (5, [.int 0, .ref q1_, .null])), (q1_, .inl (y 0, 8, .inl (fun _ => 0))), (q2_, .inl (y 0, 8, .inl (fun _ => 0)))] H := hW
  refine zputF (ws' := [(a0, .inr (5, [.int 0, .ref q1_, .ref q2_])), (q1_, .inl (y 0, 8, .inl (fun _ => 0))), (q2_, .inl (y 0, 8, .inl (fun _ => 0)))]) hx hb ht inlX6 tyX6 tyX6_ok nmX6 hown hK hS hW 0 rfl rfl 2 (by decide) zm_94 rfl hin rfl rfl rfl (Nat.le_of_ble_eq_true rfl) rfl dX6_init_26 (fun H locs hW hS => ?_)
  exact zret_v hx hb hr hlocks hS (q1_, q2_) trivial hW (Nat.le_of_ble_eq_true rfl) (Nat.le_of_ble_eq_true rfl) dX6_init_29
set_option maxHeartbeats 8000000 in
set_option maxRecDepth 100000 in
theorem zc_X4_init_0 (l : Launch) (D : va_G) (y : Nat → ClassId) (a0 : Nat) : zM l D y yX4_init (Cond.code yX4_init cX4_init 1 none :: zT) { frames := 1, cells := 1, slots := 4, locals := 20 } [.ref a0] [(a0, .inr (3, [.int 0, .int 0, .int 0, .int 0, .int 0, .int 0, .null]))] (zQv (S := Nat) D (fun q1_ => True) (fun q1_ => [(a0, .inr (3, [.int 0, .int 0, .int 0, .int 0, .int 1, .int 0, .ref q1_])), (q1_, .inl (y 0, 4, .inl (fun _ => 0)))])) := by
  refine zent (cc := cX4_init) (maxL := 1) (ret := none) (by decide) (Nat.le_of_ble_eq_true rfl) ?_
  intro p e s m below meth c A H locs ls hx hb hml hr ht hown hlocks hin hA hK hE hS hW hl
  have hown : s.vm.findClass RX4 = some m.cls := hown
  have hW : zPD D A [(a0, .inr (3, [.int 0, .int 0, .int 0, .int 0, .int 0, .int 0, .null]))] H := hW
  have hl : lv_has ls 1 [(0, .ref a0)] := hl
  refine lv_aload_n hx hb dX4_init_0 rfl (lv_at hl 0 rfl) ?_
  refine W.objInit hx hb hown (ht _ zm_97) (ht _ zm_11) (ht _ zm_12) rfl (by rw [hml]; exact hl.1) rfl dX4_init_1 (Nat.le_of_ble_eq_true rfl) (Nat.le_of_ble_eq_true rfl) ?_
  refine W.eq (g2 := F0 m 4 ls []) rfl ?_
  refine lv_aload_n hx hb dX4_init_4 rfl (lv_at hl 0 rfl) ?_
  refine lv_iconst (v := 0) hx hb dX4_init_5 (by decide) ?_
  refine zput (ws' := [(a0, .inr (3, [.int 0, .int 0, .int 0, .int 0, .int 0, .int 0, .null]))]) hx hb ht inlX4 tyX4 tyX4_ok nmX4 hown hK hS hW 0 rfl rfl 0 (by decide) zm_98 rfl rfl rfl (Nat.le_of_ble_eq_true rfl) rfl dX4_init_6 (fun H locs hW hS => ?_)
  refine lv_aload_n hx hb dX4_init_9 rfl (lv_at hl 0 rfl) ?_
  refine lv_iconst (v := 0) hx hb dX4_init_10 (by decide) ?_
  refine zput (ws' := [(a0, .inr (3, [.int 0, .int 0, .int 0, .int 0, .int 0, .int 0, .null]))]) hx hb ht inlX4 tyX4 tyX4_ok nmX4 hown hK hS hW 0 rfl rfl 1 (by decide) zm_99 rfl rfl rfl (Nat.le_of_ble_eq_true rfl) rfl dX4_init_11 (fun H locs hW hS => ?_)
  refine lv_aload_n hx hb dX4_init_14 rfl (lv_at hl 0 rfl) ?_
  refine lv_iconst (v := 0) hx hb dX4_init_15 (by decide) ?_
  refine zput (ws' := [(a0, .inr (3, [.int 0, .int 0, .int 0, .int 0, .int 0, .int 0, .null]))]) hx hb ht inlX4 tyX4 tyX4_ok nmX4 hown hK hS hW 0 rfl rfl 2 (by decide) zm_100 rfl rfl rfl (Nat.le_of_ble_eq_true rfl) rfl dX4_init_16 (fun H locs hW hS => ?_)
  refine lv_aload_n hx hb dX4_init_19 rfl (lv_at hl 0 rfl) ?_
  refine lv_iconst (v := 0) hx hb dX4_init_20 (by decide) ?_
  refine zput (ws' := [(a0, .inr (3, [.int 0, .int 0, .int 0, .int 0, .int 0, .int 0, .null]))]) hx hb ht inlX4 tyX4 tyX4_ok nmX4 hown hK hS hW 0 rfl rfl 3 (by decide) zm_101 rfl rfl rfl (Nat.le_of_ble_eq_true rfl) rfl dX4_init_21 (fun H locs hW hS => ?_)
  refine lv_aload_n hx hb dX4_init_24 rfl (lv_at hl 0 rfl) ?_
  refine lv_iconst (v := 1) hx hb dX4_init_25 (by decide) ?_
  refine zput (ws' := [(a0, .inr (3, [.int 0, .int 0, .int 0, .int 0, .int 1, .int 0, .null]))]) hx hb ht inlX4 tyX4 tyX4_ok nmX4 hown hK hS hW 0 rfl rfl 4 (by decide) zm_102 rfl rfl rfl (Nat.le_of_ble_eq_true rfl) rfl dX4_init_26 (fun H locs hW hS => ?_)
  refine lv_aload_n hx hb dX4_init_29 rfl (lv_at hl 0 rfl) ?_
  refine lv_iconst (v := 0) hx hb dX4_init_30 (by decide) ?_
  refine zput (ws' := [(a0, .inr (3, [.int 0, .int 0, .int 0, .int 0, .int 1, .int 0, .null]))]) hx hb ht inlX4 tyX4 tyX4_ok nmX4 hown hK hS hW 0 rfl rfl 5 (by decide) zm_103 rfl rfl rfl (Nat.le_of_ble_eq_true rfl) rfl dX4_init_31 (fun H locs hW hS => ?_)
  refine lv_aload_n hx hb dX4_init_34 rfl (lv_at hl 0 rfl) ?_
  refine lv_iconst (v := 4) hx hb dX4_init_35 (by decide) ?_
  refine znewa (atype := .int) hx hb ht zm_43 0 rfl hK hS hW hA (4, .inl (fun _ => 0)) (fun _ => rfl) (by decide) rfl (Nat.le_of_ble_eq_true rfl) (Nat.le_of_ble_eq_true rfl) (Nat.le_of_ble_eq_true rfl) dX4_init_36 (fun q1_ H hW hS => ?_)
  have hW : zPD D A [(a0, .inr (3, [.int 0, .int 0, .int 0, .int 0, .int 1, .int 0, .null])), (q1_, .inl (y 0, 4, .inl (fun _ => 0)))] H := hW
  refine zputF (ws' := [(a0, .inr (3, [.int 0, .int 0, .int 0, .int 0, .int 1, .int 0, .ref q1_])), (q1_, .inl (y 0, 4, .inl (fun _ => 0)))]) hx hb ht inlX4 tyX4 tyX4_ok nmX4 hown hK hS hW 0 rfl rfl 6 (by decide) zm_104 rfl hin rfl rfl rfl (Nat.le_of_ble_eq_true rfl) rfl dX4_init_38 (fun H locs hW hS => ?_)
  exact zret_v hx hb hr hlocks hS q1_ trivial hW (Nat.le_of_ble_eq_true rfl) (Nat.le_of_ble_eq_true rfl) dX4_init_41
set_option maxHeartbeats 8000000 in
set_option maxRecDepth 100000 in
theorem zc_X7_init_0 (l : Launch) (D : va_G) (y : Nat → ClassId) (a0 : Nat) : zM l D y yX7_init (Cond.code yX7_init cX7_init 2 none :: zT) { frames := 2, cells := 29, slots := 269, locals := 43 } [.ref a0] [(a0, .inr (6, [.null, .int 0, .int 0, .int 0, .int 0, .int 0, .int 0, .int 0, .null, .null, .null, .null]))] (zQv (S := Nat → Nat) D (fun z_ => True) (fun z_ => [(a0, .inr (6, [.ref (z_ 0), .int 0, .int 20, .int 0, .int 0, .int 0, .int 0, .int 0, .ref (z_ 1), .ref (z_ 2), .ref (z_ 3), .ref (z_ 4)])), ((z_ 0), .inl (y 4, 7, .inr (.inr (.inr (.inr (va_up (va_up (va_up (va_up (va_up (va_up (va_up (fun _ => none) 0 (some (z_ 5))) 1 (some (z_ 6))) 2 (some (z_ 7))) 3 (some (z_ 8))) 4 (some (z_ 9))) 5 (some (z_ 10))) 6 (some (z_ 11)))))))), ((z_ 11), .inr (3, [.int 0, .int 0, .int 0, .int 0, .int 1, .int 0, .ref (z_ 12)])), ((z_ 12), .inl (y 0, 4, .inl (fun _ => 0))), ((z_ 10), .inr (3, [.int 0, .int 0, .int 0, .int 0, .int 1, .int 0, .ref (z_ 13)])), ((z_ 13), .inl (y 0, 4, .inl (fun _ => 0))), ((z_ 9), .inr (3, [.int 0, .int 0, .int 0, .int 0, .int 1, .int 0, .ref (z_ 14)])), ((z_ 14), .inl (y 0, 4, .inl (fun _ => 0))), ((z_ 8), .inr (3, [.int 0, .int 0, .int 0, .int 0, .int 1, .int 0, .ref (z_ 15)])), ((z_ 15), .inl (y 0, 4, .inl (fun _ => 0))), ((z_ 7), .inr (3, [.int 0, .int 0, .int 0, .int 0, .int 1, .int 0, .ref (z_ 16)])), ((z_ 16), .inl (y 0, 4, .inl (fun _ => 0))), ((z_ 6), .inr (3, [.int 0, .int 0, .int 0, .int 0, .int 1, .int 0, .ref (z_ 17)])), ((z_ 17), .inl (y 0, 4, .inl (fun _ => 0))), ((z_ 5), .inr (3, [.int 0, .int 0, .int 0, .int 0, .int 1, .int 0, .ref (z_ 18)])), ((z_ 18), .inl (y 0, 4, .inl (fun _ => 0))), ((z_ 4), .inr (5, [.int 0, .ref (z_ 19), .ref (z_ 20)])), ((z_ 19), .inl (y 0, 8, .inl (fun _ => 0))), ((z_ 20), .inl (y 0, 8, .inl (fun _ => 0))), ((z_ 3), .inr (5, [.int 0, .ref (z_ 21), .ref (z_ 22)])), ((z_ 21), .inl (y 0, 6, .inl (fun _ => 0))), ((z_ 22), .inl (y 0, 6, .inl (fun _ => 0))), ((z_ 2), .inr (5, [.int 0, .ref (z_ 23), .ref (z_ 24)])), ((z_ 23), .inl (y 0, 7, .inl (fun _ => 0))), ((z_ 24), .inl (y 0, 7, .inl (fun _ => 0))), ((z_ 1), .inr (2, [.int 2, .int 15, .int 0, .ref (z_ 25), .ref (z_ 26), .int 0, .ref (z_ 27), .ref (z_ 28)])), ((z_ 25), .inl (y 0, 10, .inl (fun _ => 0))), ((z_ 26), .inl (y 0, 10, .inl (fun _ => 0))), ((z_ 27), .inl (y 0, 100, .inl (fun _ => 0))), ((z_ 28), .inl (y 0, 6, .inl (fun _ => 0)))])) := by
  refine zent (cc := cX7_init) (maxL := 2) (ret := none) (by decide) (Nat.le_of_ble_eq_true rfl) ?_
  intro p e s m below meth c A H locs ls hx hb hml hr ht hown hlocks hin hA hK hE hS hW hl
  have hown : s.vm.findClass RX7 = some m.cls := hown
  have hW : zPD D A [(a0, .inr (6, [.null, .int 0, .int 0, .int 0, .int 0, .int 0, .int 0, .int 0, .null, .null, .null, .null]))] H := hW
  have hl : lv_has ls 2 [(0, .ref a0)] := hl
  have hW : zPD D A ([(a0, .inr (6, [.null, .int 0, .int 0, .int 0, .int 0, .int 0, .int 0, .int 0, .null, .null, .null, .null]))] ++ ([] : va_W)) H := hW
  refine lv_aload_n hx hb dX7_init_0 rfl (lv_at hl 0 rfl) ?_
  refine W.objInit hx hb hown (ht _ zm_64) (ht _ zm_11) (ht _ zm_12) rfl (by rw [hml]; exact hl.1) rfl dX7_init_1 (Nat.le_of_ble_eq_true rfl) (Nat.le_of_ble_eq_true rfl) ?_
  refine W.eq (g2 := F0 m 4 ls []) rfl ?_
  refine lv_aload_n hx hb dX7_init_4 rfl (lv_at hl 0 rfl) ?_
  refine lv_bipush (v := 7) hx hb dX7_init_5 (by decide) ?_
  refine znewq hx hb ht hown zm_65 hK.2.2.1 4 rfl hK hS hW hA (by decide) rfl (Nat.le_of_ble_eq_true rfl) (Nat.le_of_ble_eq_true rfl) (Nat.le_of_ble_eq_true rfl) dX7_init_7 (fun q1_ H hW hS => ?_)
  have hW : zPD D A ([(a0, .inr (6, [.null, .int 0, .int 0, .int 0, .int 0, .int 0, .int 0, .int 0, .null, .null, .null, .null])), (q1_, .inl (y 4, 7, .inr (.inr (.inr (.inr (fun _ => none))))))] ++ ([] : va_W)) H := hW.rt
  refine zputF (ws' := ([(a0, .inr (6, [.ref q1_, .int 0, .int 0, .int 0, .int 0, .int 0, .int 0, .int 0, .null, .null, .null, .null])), (q1_, .inl (y 4, 7, .inr (.inr (.inr (.inr (fun _ => none))))))] ++ ([] : va_W))) hx hb ht inlX7 tyX7 tyX7_ok nmX7 hown hK hS hW 0 rfl rfl 0 (by decide) zm_66 rfl hin rfl rfl rfl (Nat.le_of_ble_eq_true rfl) rfl dX7_init_10 (fun H locs hW hS => ?_)
  refine lv_aload_n hx hb dX7_init_13 rfl (lv_at hl 0 rfl) ?_
  refine lv_iconst (v := 0) hx hb dX7_init_14 (by decide) ?_
  refine zput (ws' := ([(a0, .inr (6, [.ref q1_, .int 0, .int 0, .int 0, .int 0, .int 0, .int 0, .int 0, .null, .null, .null, .null])), (q1_, .inl (y 4, 7, .inr (.inr (.inr (.inr (fun _ => none))))))] ++ ([] : va_W))) hx hb ht inlX7 tyX7 tyX7_ok nmX7 hown hK hS hW 0 rfl rfl 1 (by decide) zm_67 rfl rfl rfl (Nat.le_of_ble_eq_true rfl) rfl dX7_init_15 (fun H locs hW hS => ?_)
  refine lv_aload_n hx hb dX7_init_18 rfl (lv_at hl 0 rfl) ?_
  refine lv_bipush (v := 20) hx hb dX7_init_19 (by decide) ?_
  refine zput (ws' := ([(a0, .inr (6, [.ref q1_, .int 0, .int 20, .int 0, .int 0, .int 0, .int 0, .int 0, .null, .null, .null, .null])), (q1_, .inl (y 4, 7, .inr (.inr (.inr (.inr (fun _ => none))))))] ++ ([] : va_W))) hx hb ht inlX7 tyX7 tyX7_ok nmX7 hown hK hS hW 0 rfl rfl 2 (by decide) zm_68 rfl rfl rfl (Nat.le_of_ble_eq_true rfl) rfl dX7_init_21 (fun H locs hW hS => ?_)
  refine lv_aload_n hx hb dX7_init_24 rfl (lv_at hl 0 rfl) ?_
  refine lv_iconst (v := 0) hx hb dX7_init_25 (by decide) ?_
  refine zput (ws' := ([(a0, .inr (6, [.ref q1_, .int 0, .int 20, .int 0, .int 0, .int 0, .int 0, .int 0, .null, .null, .null, .null])), (q1_, .inl (y 4, 7, .inr (.inr (.inr (.inr (fun _ => none))))))] ++ ([] : va_W))) hx hb ht inlX7 tyX7 tyX7_ok nmX7 hown hK hS hW 0 rfl rfl 3 (by decide) zm_69 rfl rfl rfl (Nat.le_of_ble_eq_true rfl) rfl dX7_init_26 (fun H locs hW hS => ?_)
  refine lv_aload_n hx hb dX7_init_29 rfl (lv_at hl 0 rfl) ?_
  refine lv_iconst (v := 0) hx hb dX7_init_30 (by decide) ?_
  refine zput (ws' := ([(a0, .inr (6, [.ref q1_, .int 0, .int 20, .int 0, .int 0, .int 0, .int 0, .int 0, .null, .null, .null, .null])), (q1_, .inl (y 4, 7, .inr (.inr (.inr (.inr (fun _ => none))))))] ++ ([] : va_W))) hx hb ht inlX7 tyX7 tyX7_ok nmX7 hown hK hS hW 0 rfl rfl 4 (by decide) zm_70 rfl rfl rfl (Nat.le_of_ble_eq_true rfl) rfl dX7_init_31 (fun H locs hW hS => ?_)
  refine lv_aload_n hx hb dX7_init_34 rfl (lv_at hl 0 rfl) ?_
  refine lv_iconst (v := 0) hx hb dX7_init_35 (by decide) ?_
  refine zput (ws' := ([(a0, .inr (6, [.ref q1_, .int 0, .int 20, .int 0, .int 0, .int 0, .int 0, .int 0, .null, .null, .null, .null])), (q1_, .inl (y 4, 7, .inr (.inr (.inr (.inr (fun _ => none))))))] ++ ([] : va_W))) hx hb ht inlX7 tyX7 tyX7_ok nmX7 hown hK hS hW 0 rfl rfl 5 (by decide) zm_71 rfl rfl rfl (Nat.le_of_ble_eq_true rfl) rfl dX7_init_36 (fun H locs hW hS => ?_)
  refine lv_aload_n hx hb dX7_init_39 rfl (lv_at hl 0 rfl) ?_
  refine lv_iconst (v := 0) hx hb dX7_init_40 (by decide) ?_
  refine zput (ws' := ([(a0, .inr (6, [.ref q1_, .int 0, .int 20, .int 0, .int 0, .int 0, .int 0, .int 0, .null, .null, .null, .null])), (q1_, .inl (y 4, 7, .inr (.inr (.inr (.inr (fun _ => none))))))] ++ ([] : va_W))) hx hb ht inlX7 tyX7 tyX7_ok nmX7 hown hK hS hW 0 rfl rfl 6 (by decide) zm_72 rfl rfl rfl (Nat.le_of_ble_eq_true rfl) rfl dX7_init_41 (fun H locs hW hS => ?_)
  refine lv_aload_n hx hb dX7_init_44 rfl (lv_at hl 0 rfl) ?_
  refine lv_iconst (v := 0) hx hb dX7_init_45 (by decide) ?_
  refine zput (ws' := ([(a0, .inr (6, [.ref q1_, .int 0, .int 20, .int 0, .int 0, .int 0, .int 0, .int 0, .null, .null, .null, .null])), (q1_, .inl (y 4, 7, .inr (.inr (.inr (.inr (fun _ => none))))))] ++ ([] : va_W))) hx hb ht inlX7 tyX7 tyX7_ok nmX7 hown hK hS hW 0 rfl rfl 7 (by decide) zm_73 rfl rfl rfl (Nat.le_of_ble_eq_true rfl) rfl dX7_init_46 (fun H locs hW hS => ?_)
  refine lv_aload_n hx hb dX7_init_49 rfl (lv_at hl 0 rfl) ?_
  refine znew (ci := 2) (fs := [.int 0, .int 0, .int 0, .null, .null, .int 0, .null, .null]) hx hb ht inlX2 tyX2 tyX2_ok hown zm_74 zm_36 zm_37 hK hS hW hA rfl zn_X2 (Nat.le_of_ble_eq_true rfl) (Nat.le_of_ble_eq_true rfl) dX7_init_50 (fun q2_ H hW hS => ?_)
  have hW : zPD D A ([(a0, .inr (6, [.ref q1_, .int 0, .int 20, .int 0, .int 0, .int 0, .int 0, .int 0, .null, .null, .null, .null])), (q1_, .inl (y 4, 7, .inr (.inr (.inr (.inr (fun _ => none)))))), (q2_, .inr (2, [.int 0, .int 0, .int 0, .null, .null, .int 0, .null, .null]))] ++ ([] : va_W)) H := hW.rt
  refine lv_dup hx hb dX7_init_53 rfl ?_
  refine zgo_vT (wr := [(a0, .inr (6, [.ref q1_, .int 0, .int 20, .int 0, .int 0, .int 0, .int 0, .int 0, .null, .null, .null, .null])), (q1_, .inl (y 4, 7, .inr (.inr (.inr (.inr (fun _ => none))))))]) (zrunIN (As := []) (rest := [.ref q2_, .ref a0]) ⟨hx, hb, hml, hown, ht⟩ (zc_X2_init_0 l D y q2_) ⟨va_cnB 0 ht (zgI zm_51) rfl rfl rfl (zN_2 hK) (ht _ zm_37) (by decide +kernel) ⟨(Nat.le_of_ble_eq_true rfl), (Nat.le_of_ble_eq_true rfl)⟩, rfl, ht _ zm_50⟩ hK hE hS hA hW [2] (by decide) rfl rfl hl.1 rfl (Nat.le_of_ble_eq_true rfl) dX7_init_54 (Nat.le_of_ble_eq_true rfl) (Nat.le_of_ble_eq_true rfl)) hS hA hW [2] [0, 1] rfl rfl (by decide) (by decide) rfl rfl (fun u H locs hw hW hS => ?_)
  obtain ⟨q3_, q4_, q5_, q6_⟩ := u
  have hW : zPD D A ([(a0, .inr (6, [.ref q1_, .int 0, .int 20, .int 0, .int 0, .int 0, .int 0, .int 0, .null, .null, .null, .null])), (q1_, .inl (y 4, 7, .inr (.inr (.inr (.inr (fun _ => none)))))), (q2_, .inr (2, [.int 2, .int 15, .int 0, .ref q3_, .ref q4_, .int 0, .ref q5_, .ref q6_])), (q3_, .inl (y 0, 10, .inl (fun _ => 0))), (q4_, .inl (y 0, 10, .inl (fun _ => 0))), (q5_, .inl (y 0, 100, .inl (fun _ => 0))), (q6_, .inl (y 0, 6, .inl (fun _ => 0)))] ++ ([] : va_W)) H := hW.rt
  refine zput (ws' := ([(a0, .inr (6, [.ref q1_, .int 0, .int 20, .int 0, .int 0, .int 0, .int 0, .int 0, .ref q2_, .null, .null, .null])), (q1_, .inl (y 4, 7, .inr (.inr (.inr (.inr (fun _ => none)))))), (q2_, .inr (2, [.int 2, .int 15, .int 0, .ref q3_, .ref q4_, .int 0, .ref q5_, .ref q6_])), (q3_, .inl (y 0, 10, .inl (fun _ => 0))), (q4_, .inl (y 0, 10, .inl (fun _ => 0))), (q5_, .inl (y 0, 100, .inl (fun _ => 0))), (q6_, .inl (y 0, 6, .inl (fun _ => 0)))] ++ ([] : va_W))) hx hb ht inlX7 tyX7 tyX7_ok nmX7 hown hK hS hW 0 rfl rfl 8 (by decide) zm_75 rfl rfl rfl (Nat.le_of_ble_eq_true rfl) rfl dX7_init_57 (fun H locs hW hS => ?_)
  obtain ⟨T1_, hT1_⟩ : ∃ t : va_W, t = [(q2_, .inr (2, [.int 2, .int 15, .int 0, .ref q3_, .ref q4_, .int 0, .ref q5_, .ref q6_])), (q3_, .inl (y 0, 10, .inl (fun _ => 0))), (q4_, .inl (y 0, 10, .inl (fun _ => 0))), (q5_, .inl (y 0, 100, .inl (fun _ => 0))), (q6_, .inl (y 0, 6, .inl (fun _ => 0)))] ++ ([] : va_W) := ⟨_, rfl⟩
  have hW : zPD D A ([(a0, .inr (6, [.ref q1_, .int 0, .int 20, .int 0, .int 0, .int 0, .int 0, .int 0, .ref q2_, .null, .null, .null])), (q1_, .inl (y 4, 7, .inr (.inr (.inr (.inr (fun _ => none))))))] ++ T1_) H := by rw [hT1_]; exact (hW.ts [0, 1, 2, 3, 4, 5, 6] (by decide) rfl rfl : zPD D A (([(a0, .inr (6, [.ref q1_, .int 0, .int 20, .int 0, .int 0, .int 0, .int 0, .int 0, .ref q2_, .null, .null, .null])), (q1_, .inl (y 4, 7, .inr (.inr (.inr (.inr (fun _ => none))))))] ++ [(q2_, .inr (2, [.int 2, .int 15, .int 0, .ref q3_, .ref q4_, .int 0, .ref q5_, .ref q6_])), (q3_, .inl (y 0, 10, .inl (fun _ => 0))), (q4_, .inl (y 0, 10, .inl (fun _ => 0))), (q5_, .inl (y 0, 100, .inl (fun _ => 0))), (q6_, .inl (y 0, 6, .inl (fun _ => 0)))]) ++ ([] : va_W)) H)
  refine lv_aload_n hx hb dX7_init_60 rfl (lv_at hl 0 rfl) ?_
  refine znew (ci := 5) (fs := [.int 0, .null, .null]) hx hb ht inlX6 tyX6 tyX6_ok hown zm_76 zm_77 zm_78 hK hS hW hA rfl zn_X6 (Nat.le_of_ble_eq_true rfl) (Nat.le_of_ble_eq_true rfl) dX7_init_61 (fun q8_ H hW hS => ?_)
  have hW : zPD D A ([(a0, .inr (6, [.ref q1_, .int 0, .int 20, .int 0, .int 0, .int 0, .int 0, .int 0, .ref q2_, .null, .null, .null])), (q1_, .inl (y 4, 7, .inr (.inr (.inr (.inr (fun _ => none)))))), (q8_, .inr (5, [.int 0, .null, .null]))] ++ T1_) H := hW.rt
  refine lv_dup hx hb dX7_init_64 rfl ?_
  refine lv_bipush (v := 7) hx hb dX7_init_65 (by decide) ?_
  refine zgo_vT (wr := [(a0, .inr (6, [.ref q1_, .int 0, .int 20, .int 0, .int 0, .int 0, .int 0, .int 0, .ref q2_, .null, .null, .null])), (q1_, .inl (y 4, 7, .inr (.inr (.inr (.inr (fun _ => none))))))]) (zrunI (As := [.int 7]) (rest := [.ref q8_, .ref a0]) ⟨hx, hb, hml, hown, ht⟩ (zc_X6_init_0 l D y q8_) (cwI 1 ht (zgI zm_86) rfl rfl rfl (ht _ zm_78) (ht _ zm_84) (ht _ zm_85) rfl (by decide +kernel) ⟨(Nat.le_of_ble_eq_true rfl), (Nat.le_of_ble_eq_true rfl)⟩) hK hE hS hA hW [2] (by decide) rfl rfl hl.1 rfl (Nat.le_of_ble_eq_true rfl) dX7_init_67 (Nat.le_of_ble_eq_true rfl) (Nat.le_of_ble_eq_true rfl)) hS hA hW [2] [0, 1] rfl rfl (by decide) (by decide) rfl rfl (fun u H locs hw hW hS => ?_)
  obtain ⟨q9_, q10_⟩ := u
  have hW : zPD D A ([(a0, .inr (6, [.ref q1_, .int 0, .int 20, .int 0, .int 0, .int 0, .int 0, .int 0, .ref q2_, .null, .null, .null])), (q1_, .inl (y 4, 7, .inr (.inr (.inr (.inr (fun _ => none)))))), (q8_, .inr (5, [.int 0, .ref q9_, .ref q10_])), (q9_, .inl (y 0, 7, .inl (fun _ => 0))), (q10_, .inl (y 0, 7, .inl (fun _ => 0)))] ++ T1_) H := hW.rt
  refine zputF (ws' := ([(a0, .inr (6, [.ref q1_, .int 0, .int 20, .int 0, .int 0, .int 0, .int 0, .int 0, .ref q2_, .ref q8_, .null, .null])), (q1_, .inl (y 4, 7, .inr (.inr (.inr (.inr (fun _ => none)))))), (q8_, .inr (5, [.int 0, .ref q9_, .ref q10_])), (q9_, .inl (y 0, 7, .inl (fun _ => 0))), (q10_, .inl (y 0, 7, .inl (fun _ => 0)))] ++ T1_)) hx hb ht inlX7 tyX7 tyX7_ok nmX7 hown hK hS hW 0 rfl rfl 9 (by decide) zm_79 rfl hin rfl rfl rfl (Nat.le_of_ble_eq_true rfl) rfl dX7_init_70 (fun H locs hW hS => ?_)
  obtain ⟨T2_, hT2_⟩ : ∃ t : va_W, t = [(q8_, .inr (5, [.int 0, .ref q9_, .ref q10_])), (q9_, .inl (y 0, 7, .inl (fun _ => 0))), (q10_, .inl (y 0, 7, .inl (fun _ => 0)))] ++ T1_ := ⟨_, rfl⟩
  have hW : zPD D A ([(a0, .inr (6, [.ref q1_, .int 0, .int 20, .int 0, .int 0, .int 0, .int 0, .int 0, .ref q2_, .ref q8_, .null, .null])), (q1_, .inl (y 4, 7, .inr (.inr (.inr (.inr (fun _ => none))))))] ++ T2_) H := by rw [hT2_]; exact (hW.ts [0, 1, 2, 3, 4] (by decide) rfl rfl : zPD D A (([(a0, .inr (6, [.ref q1_, .int 0, .int 20, .int 0, .int 0, .int 0, .int 0, .int 0, .ref q2_, .ref q8_, .null, .null])), (q1_, .inl (y 4, 7, .inr (.inr (.inr (.inr (fun _ => none))))))] ++ [(q8_, .inr (5, [.int 0, .ref q9_, .ref q10_])), (q9_, .inl (y 0, 7, .inl (fun _ => 0))), (q10_, .inl (y 0, 7, .inl (fun _ => 0)))]) ++ T1_) H)
  refine lv_aload_n hx hb dX7_init_73 rfl (lv_at hl 0 rfl) ?_
  refine znew (ci := 5) (fs := [.int 0, .null, .null]) hx hb ht inlX6 tyX6 tyX6_ok hown zm_76 zm_77 zm_78 hK hS hW hA rfl zn_X6 (Nat.le_of_ble_eq_true rfl) (Nat.le_of_ble_eq_true rfl) dX7_init_74 (fun q12_ H hW hS => ?_)
  have hW : zPD D A ([(a0, .inr (6, [.ref q1_, .int 0, .int 20, .int 0, .int 0, .int 0, .int 0, .int 0, .ref q2_, .ref q8_, .null, .null])), (q1_, .inl (y 4, 7, .inr (.inr (.inr (.inr (fun _ => none)))))), (q12_, .inr (5, [.int 0, .null, .null]))] ++ T2_) H := hW.rt
  refine lv_dup hx hb dX7_init_77 rfl ?_
  refine lv_bipush (v := 6) hx hb dX7_init_78 (by decide) ?_
  refine zgo_vT (wr := [(a0, .inr (6, [.ref q1_, .int 0, .int 20, .int 0, .int 0, .int 0, .int 0, .int 0, .ref q2_, .ref q8_, .null, .null])), (q1_, .inl (y 4, 7, .inr (.inr (.inr (.inr (fun _ => none))))))]) (zrunI (As := [.int 6]) (rest := [.ref q12_, .ref a0]) ⟨hx, hb, hml, hown, ht⟩ (zc_X6_init_1 l D y q12_) (cwI 1 ht (zgI zm_86) rfl rfl rfl (ht _ zm_78) (ht _ zm_84) (ht _ zm_85) rfl (by decide +kernel) ⟨(Nat.le_of_ble_eq_true rfl), (Nat.le_of_ble_eq_true rfl)⟩) hK hE hS hA hW [2] (by decide) rfl rfl hl.1 rfl (Nat.le_of_ble_eq_true rfl) dX7_init_80 (Nat.le_of_ble_eq_true rfl) (Nat.le_of_ble_eq_true rfl)) hS hA hW [2] [0, 1] rfl rfl (by decide) (by decide) rfl rfl (fun u H locs hw hW hS => ?_)
  obtain ⟨q13_, q14_⟩ := u
  have hW : zPD D A ([(a0, .inr (6, [.ref q1_, .int 0, .int 20, .int 0, .int 0, .int 0, .int 0, .int 0, .ref q2_, .ref q8_, .null, .null])), (q1_, .inl (y 4, 7, .inr (.inr (.inr (.inr (fun _ => none)))))), (q12_, .inr (5, [.int 0, .ref q13_, .ref q14_])), (q13_, .inl (y 0, 6, .inl (fun _ => 0))), (q14_, .inl (y 0, 6, .inl (fun _ => 0)))] ++ T2_) H := hW.rt
  refine zputF (ws' := ([(a0, .inr (6, [.ref q1_, .int 0, .int 20, .int 0, .int 0, .int 0, .int 0, .int 0, .ref q2_, .ref q8_, .ref q12_, .null])), (q1_, .inl (y 4, 7, .inr (.inr (.inr (.inr (fun _ => none)))))), (q12_, .inr (5, [.int 0, .ref q13_, .ref q14_])), (q13_, .inl (y 0, 6, .inl (fun _ => 0))), (q14_, .inl (y 0, 6, .inl (fun _ => 0)))] ++ T2_)) hx hb ht inlX7 tyX7 tyX7_ok nmX7 hown hK hS hW 0 rfl rfl 10 (by decide) zm_80 rfl hin rfl rfl rfl (Nat.le_of_ble_eq_true rfl) rfl dX7_init_83 (fun H locs hW hS => ?_)
  obtain ⟨T3_, hT3_⟩ : ∃ t : va_W, t = [(q12_, .inr (5, [.int 0, .ref q13_, .ref q14_])), (q13_, .inl (y 0, 6, .inl (fun _ => 0))), (q14_, .inl (y 0, 6, .inl (fun _ => 0)))] ++ T2_ := ⟨_, rfl⟩
  have hW : zPD D A ([(a0, .inr (6, [.ref q1_, .int 0, .int 20, .int 0, .int 0, .int 0, .int 0, .int 0, .ref q2_, .ref q8_, .ref q12_, .null])), (q1_, .inl (y 4, 7, .inr (.inr (.inr (.inr (fun _ => none))))))] ++ T3_) H := by rw [hT3_]; exact (hW.ts [0, 1, 2, 3, 4] (by decide) rfl rfl : zPD D A (([(a0, .inr (6, [.ref q1_, .int 0, .int 20, .int 0, .int 0, .int 0, .int 0, .int 0, .ref q2_, .ref q8_, .ref q12_, .null])), (q1_, .inl (y 4, 7, .inr (.inr (.inr (.inr (fun _ => none))))))] ++ [(q12_, .inr (5, [.int 0, .ref q13_, .ref q14_])), (q13_, .inl (y 0, 6, .inl (fun _ => 0))), (q14_, .inl (y 0, 6, .inl (fun _ => 0)))]) ++ T2_) H)
  refine lv_aload_n hx hb dX7_init_86 rfl (lv_at hl 0 rfl) ?_
  refine znew (ci := 5) (fs := [.int 0, .null, .null]) hx hb ht inlX6 tyX6 tyX6_ok hown zm_76 zm_77 zm_78 hK hS hW hA rfl zn_X6 (Nat.le_of_ble_eq_true rfl) (Nat.le_of_ble_eq_true rfl) dX7_init_87 (fun q16_ H hW hS => ?_)
  have hW : zPD D A ([(a0, .inr (6, [.ref q1_, .int 0, .int 20, .int 0, .int 0, .int 0, .int 0, .int 0, .ref q2_, .ref q8_, .ref q12_, .null])), (q1_, .inl (y 4, 7, .inr (.inr (.inr (.inr (fun _ => none)))))), (q16_, .inr (5, [.int 0, .null, .null]))] ++ T3_) H := hW.rt
  refine lv_dup hx hb dX7_init_90 rfl ?_
  refine lv_bipush (v := 8) hx hb dX7_init_91 (by decide) ?_
  refine zgo_vT (wr := [(a0, .inr (6, [.ref q1_, .int 0, .int 20, .int 0, .int 0, .int 0, .int 0, .int 0, .ref q2_, .ref q8_, .ref q12_, .null])), (q1_, .inl (y 4, 7, .inr (.inr (.inr (.inr (fun _ => none))))))]) (zrunI (As := [.int 8]) (rest := [.ref q16_, .ref a0]) ⟨hx, hb, hml, hown, ht⟩ (zc_X6_init_2 l D y q16_) (cwI 1 ht (zgI zm_86) rfl rfl rfl (ht _ zm_78) (ht _ zm_84) (ht _ zm_85) rfl (by decide +kernel) ⟨(Nat.le_of_ble_eq_true rfl), (Nat.le_of_ble_eq_true rfl)⟩) hK hE hS hA hW [2] (by decide) rfl rfl hl.1 rfl (Nat.le_of_ble_eq_true rfl) dX7_init_93 (Nat.le_of_ble_eq_true rfl) (Nat.le_of_ble_eq_true rfl)) hS hA hW [2] [0, 1] rfl rfl (by decide) (by decide) rfl rfl (fun u H locs hw hW hS => ?_)
  obtain ⟨q17_, q18_⟩ := u
  have hW : zPD D A ([(a0, .inr (6, [.ref q1_, .int 0, .int 20, .int 0, .int 0, .int 0, .int 0, .int 0, .ref q2_, .ref q8_, .ref q12_, .null])), (q1_, .inl (y 4, 7, .inr (.inr (.inr (.inr (fun _ => none)))))), (q16_, .inr (5, [.int 0, .ref q17_, .ref q18_])), (q17_, .inl (y 0, 8, .inl (fun _ => 0))), (q18_, .inl (y 0, 8, .inl (fun _ => 0)))] ++ T3_) H := hW.rt
  refine zputF (ws' := ([(a0, .inr (6, [.ref q1_, .int 0, .int 20, .int 0, .int 0, .int 0, .int 0, .int 0, .ref q2_, .ref q8_, .ref q12_, .ref q16_])), (q1_, .inl (y 4, 7, .inr (.inr (.inr (.inr (fun _ => none)))))), (q16_, .inr (5, [.int 0, .ref q17_, .ref q18_])), (q17_, .inl (y 0, 8, .inl (fun _ => 0))), (q18_, .inl (y 0, 8, .inl (fun _ => 0)))] ++ T3_)) hx hb ht inlX7 tyX7 tyX7_ok nmX7 hown hK hS hW 0 rfl rfl 11 (by decide) zm_81 rfl hin rfl rfl rfl (Nat.le_of_ble_eq_true rfl) rfl dX7_init_96 (fun H locs hW hS => ?_)
  obtain ⟨T4_, hT4_⟩ : ∃ t : va_W, t = [(q16_, .inr (5, [.int 0, .ref q17_, .ref q18_])), (q17_, .inl (y 0, 8, .inl (fun _ => 0))), (q18_, .inl (y 0, 8, .inl (fun _ => 0)))] ++ T3_ := ⟨_, rfl⟩
  have hW : zPD D A ([(a0, .inr (6, [.ref q1_, .int 0, .int 20, .int 0, .int 0, .int 0, .int 0, .int 0, .ref q2_, .ref q8_, .ref q12_, .ref q16_])), (q1_, .inl (y 4, 7, .inr (.inr (.inr (.inr (fun _ => none))))))] ++ T4_) H := by rw [hT4_]; exact (hW.ts [0, 1, 2, 3, 4] (by decide) rfl rfl : zPD D A (([(a0, .inr (6, [.ref q1_, .int 0, .int 20, .int 0, .int 0, .int 0, .int 0, .int 0, .ref q2_, .ref q8_, .ref q12_, .ref q16_])), (q1_, .inl (y 4, 7, .inr (.inr (.inr (.inr (fun _ => none))))))] ++ [(q16_, .inr (5, [.int 0, .ref q17_, .ref q18_])), (q17_, .inl (y 0, 8, .inl (fun _ => 0))), (q18_, .inl (y 0, 8, .inl (fun _ => 0)))]) ++ T3_) H)
  refine lv_iconst (v := 0) hx hb dX7_init_99 (by decide) ?_
  refine lv_istore_n (lv' := [(1, .int 0), (0, .ref a0)]) hx hb dX7_init_100 rfl hl (by decide) rfl (fun ls hl => ?_)
  refine lv_iload_n hx hb dX7_init_101 rfl (lv_at hl 0 rfl) ?_
  refine lv_bipush (v := 7) hx hb dX7_init_102 (by decide) ?_
  refine lv_icmp_ge (tgt := 126) hx hb dX7_init_104 (by decide) (fun c20_ => absurd c20_ (by decide)) (fun c20_ => ?_)
  refine lv_aload_n hx hb dX7_init_107 rfl (lv_at hl 1 rfl) ?_
  refine zget hx hb ht inlX7 hown hK hW 0 rfl rfl 0 (by decide) zm_66 rfl dX7_init_108 ?_
  refine lv_iload_n hx hb dX7_init_111 rfl (lv_at hl 0 rfl) ?_
  refine znew (ci := 3) (fs := [.int 0, .int 0, .int 0, .int 0, .int 0, .int 0, .null]) hx hb ht inlX4 tyX4 tyX4_ok hown zm_65 zm_82 zm_83 hK hS hW hA rfl zn_X4 (Nat.le_of_ble_eq_true rfl) (Nat.le_of_ble_eq_true rfl) dX7_init_112 (fun q21_ H hW hS => ?_)
  have hW : zPD D A ([(a0, .inr (6, [.ref q1_, .int 0, .int 20, .int 0, .int 0, .int 0, .int 0, .int 0, .ref q2_, .ref q8_, .ref q12_, .ref q16_])), (q1_, .inl (y 4, 7, .inr (.inr (.inr (.inr (fun _ => none)))))), (q21_, .inr (3, [.int 0, .int 0, .int 0, .int 0, .int 0, .int 0, .null]))] ++ T4_) H := hW.rt
  refine lv_dup hx hb dX7_init_115 rfl ?_
  refine zgo_vT (wr := [(a0, .inr (6, [.ref q1_, .int 0, .int 20, .int 0, .int 0, .int 0, .int 0, .int 0, .ref q2_, .ref q8_, .ref q12_, .ref q16_])), (q1_, .inl (y 4, 7, .inr (.inr (.inr (.inr (fun _ => none))))))]) (zrunIN (As := []) (rest := [.ref q21_, .int 0, .ref q1_]) ⟨hx, hb, hml, hown, ht⟩ (zc_X4_init_0 l D y q21_) ⟨va_cnB 0 ht (zgI zm_96) rfl rfl rfl (zN_3 hK) (ht _ zm_83) (by decide +kernel) ⟨(Nat.le_of_ble_eq_true rfl), (Nat.le_of_ble_eq_true rfl)⟩, rfl, ht _ zm_95⟩ hK hE hS hA hW [2] (by decide) rfl rfl hl.1 rfl (Nat.le_of_ble_eq_true rfl) dX7_init_116 (Nat.le_of_ble_eq_true rfl) (Nat.le_of_ble_eq_true rfl)) hS hA hW [2] [0, 1] rfl rfl (by decide) (by decide) rfl rfl (fun q22_ H locs hw hW hS => ?_)
  have hW : zPD D A ([(a0, .inr (6, [.ref q1_, .int 0, .int 20, .int 0, .int 0, .int 0, .int 0, .int 0, .ref q2_, .ref q8_, .ref q12_, .ref q16_])), (q1_, .inl (y 4, 7, .inr (.inr (.inr (.inr (fun _ => none)))))), (q21_, .inr (3, [.int 0, .int 0, .int 0, .int 0, .int 1, .int 0, .ref q22_])), (q22_, .inl (y 0, 4, .inl (fun _ => 0)))] ++ T4_) H := hW.rt
  refine zaast (ws' := ([(a0, .inr (6, [.ref q1_, .int 0, .int 20, .int 0, .int 0, .int 0, .int 0, .int 0, .ref q2_, .ref q8_, .ref q12_, .ref q16_])), (q1_, .inl (y 4, 7, .inr (.inr (.inr (.inr (va_up (fun _ => none) 0 (some q21_))))))), (q21_, .inr (3, [.int 0, .int 0, .int 0, .int 0, .int 1, .int 0, .ref q22_])), (q22_, .inl (y 0, 4, .inl (fun _ => 0)))] ++ T4_)) hx hb hK hS hW 1 4 2 3 rfl rfl rfl rfl (by unfold vp_in; decide) rfl rfl dX7_init_119 (fun H locs hW hS => ?_)
  obtain ⟨T5_, hT5_⟩ : ∃ t : va_W, t = [(q21_, .inr (3, [.int 0, .int 0, .int 0, .int 0, .int 1, .int 0, .ref q22_])), (q22_, .inl (y 0, 4, .inl (fun _ => 0)))] ++ T4_ := ⟨_, rfl⟩
  have hW : zPD D A ([(a0, .inr (6, [.ref q1_, .int 0, .int 20, .int 0, .int 0, .int 0, .int 0, .int 0, .ref q2_, .ref q8_, .ref q12_, .ref q16_])), (q1_, .inl (y 4, 7, .inr (.inr (.inr (.inr (va_up (fun _ => none) 0 (some q21_)))))))] ++ T5_) H := by rw [hT5_]; exact (hW.ts [0, 1, 2, 3] (by decide) rfl rfl : zPD D A (([(a0, .inr (6, [.ref q1_, .int 0, .int 20, .int 0, .int 0, .int 0, .int 0, .int 0, .ref q2_, .ref q8_, .ref q12_, .ref q16_])), (q1_, .inl (y 4, 7, .inr (.inr (.inr (.inr (va_up (fun _ => none) 0 (some q21_)))))))] ++ [(q21_, .inr (3, [.int 0, .int 0, .int 0, .int 0, .int 1, .int 0, .ref q22_])), (q22_, .inl (y 0, 4, .inl (fun _ => 0)))]) ++ T4_) H)
  refine lv_iinc (k := 0) (v := 1) (lv' := [(1, .int 1), (0, .ref a0)]) hx hb dX7_init_120 hl rfl (by decide) (by decide) rfl (fun ls hl => ?_)
  refine lv_goto (tgt := 101) hx hb dX7_init_123 (by decide) ?_
  refine lv_iload_n hx hb dX7_init_101 rfl (lv_at hl 0 rfl) ?_
  refine lv_bipush (v := 7) hx hb dX7_init_102 (by decide) ?_
  refine lv_icmp_ge (tgt := 126) hx hb dX7_init_104 (by decide) (fun c24_ => absurd c24_ (by decide)) (fun c24_ => ?_)
  refine lv_aload_n hx hb dX7_init_107 rfl (lv_at hl 1 rfl) ?_
  refine zget hx hb ht inlX7 hown hK hW 0 rfl rfl 0 (by decide) zm_66 rfl dX7_init_108 ?_
  refine lv_iload_n hx hb dX7_init_111 rfl (lv_at hl 0 rfl) ?_
  refine znew (ci := 3) (fs := [.int 0, .int 0, .int 0, .int 0, .int 0, .int 0, .null]) hx hb ht inlX4 tyX4 tyX4_ok hown zm_65 zm_82 zm_83 hK hS hW hA rfl zn_X4 (Nat.le_of_ble_eq_true rfl) (Nat.le_of_ble_eq_true rfl) dX7_init_112 (fun q25_ H hW hS => ?_)
  have hW : zPD D A ([(a0, .inr (6, [.ref q1_, .int 0, .int 20, .int 0, .int 0, .int 0, .int 0, .int 0, .ref q2_, .ref q8_, .ref q12_, .ref q16_])), (q1_, .inl (y 4, 7, .inr (.inr (.inr (.inr (va_up (fun _ => none) 0 (some q21_))))))), (q25_, .inr (3, [.int 0, .int 0, .int 0, .int 0, .int 0, .int 0, .null]))] ++ T5_) H := hW.rt
  refine lv_dup hx hb dX7_init_115 rfl ?_
  refine zgo_vT (wr := [(a0, .inr (6, [.ref q1_, .int 0, .int 20, .int 0, .int 0, .int 0, .int 0, .int 0, .ref q2_, .ref q8_, .ref q12_, .ref q16_])), (q1_, .inl (y 4, 7, .inr (.inr (.inr (.inr (va_up (fun _ => none) 0 (some q21_)))))))]) (zrunIN (As := []) (rest := [.ref q25_, .int 1, .ref q1_]) ⟨hx, hb, hml, hown, ht⟩ (zc_X4_init_0 l D y q25_) ⟨va_cnB 0 ht (zgI zm_96) rfl rfl rfl (zN_3 hK) (ht _ zm_83) (by decide +kernel) ⟨(Nat.le_of_ble_eq_true rfl), (Nat.le_of_ble_eq_true rfl)⟩, rfl, ht _ zm_95⟩ hK hE hS hA hW [2] (by decide) rfl rfl hl.1 rfl (Nat.le_of_ble_eq_true rfl) dX7_init_116 (Nat.le_of_ble_eq_true rfl) (Nat.le_of_ble_eq_true rfl)) hS hA hW [2] [0, 1] rfl rfl (by decide) (by decide) rfl rfl (fun q26_ H locs hw hW hS => ?_)
  have hW : zPD D A ([(a0, .inr (6, [.ref q1_, .int 0, .int 20, .int 0, .int 0, .int 0, .int 0, .int 0, .ref q2_, .ref q8_, .ref q12_, .ref q16_])), (q1_, .inl (y 4, 7, .inr (.inr (.inr (.inr (va_up (fun _ => none) 0 (some q21_))))))), (q25_, .inr (3, [.int 0, .int 0, .int 0, .int 0, .int 1, .int 0, .ref q26_])), (q26_, .inl (y 0, 4, .inl (fun _ => 0)))] ++ T5_) H := hW.rt
  refine zaast (ws' := ([(a0, .inr (6, [.ref q1_, .int 0, .int 20, .int 0, .int 0, .int 0, .int 0, .int 0, .ref q2_, .ref q8_, .ref q12_, .ref q16_])), (q1_, .inl (y 4, 7, .inr (.inr (.inr (.inr (va_up (va_up (fun _ => none) 0 (some q21_)) 1 (some q25_))))))), (q25_, .inr (3, [.int 0, .int 0, .int 0, .int 0, .int 1, .int 0, .ref q26_])), (q26_, .inl (y 0, 4, .inl (fun _ => 0)))] ++ T5_)) hx hb hK hS hW 1 4 2 3 rfl rfl rfl rfl (by unfold vp_in; decide) rfl rfl dX7_init_119 (fun H locs hW hS => ?_)
  obtain ⟨T6_, hT6_⟩ : ∃ t : va_W, t = [(q25_, .inr (3, [.int 0, .int 0, .int 0, .int 0, .int 1, .int 0, .ref q26_])), (q26_, .inl (y 0, 4, .inl (fun _ => 0)))] ++ T5_ := ⟨_, rfl⟩
  have hW : zPD D A ([(a0, .inr (6, [.ref q1_, .int 0, .int 20, .int 0, .int 0, .int 0, .int 0, .int 0, .ref q2_, .ref q8_, .ref q12_, .ref q16_])), (q1_, .inl (y 4, 7, .inr (.inr (.inr (.inr (va_up (va_up (fun _ => none) 0 (some q21_)) 1 (some q25_)))))))] ++ T6_) H := by rw [hT6_]; exact (hW.ts [0, 1, 2, 3] (by decide) rfl rfl : zPD D A (([(a0, .inr (6, [.ref q1_, .int 0, .int 20, .int 0, .int 0, .int 0, .int 0, .int 0, .ref q2_, .ref q8_, .ref q12_, .ref q16_])), (q1_, .inl (y 4, 7, .inr (.inr (.inr (.inr (va_up (va_up (fun _ => none) 0 (some q21_)) 1 (some q25_)))))))] ++ [(q25_, .inr (3, [.int 0, .int 0, .int 0, .int 0, .int 1, .int 0, .ref q26_])), (q26_, .inl (y 0, 4, .inl (fun _ => 0)))]) ++ T5_) H)
  refine lv_iinc (k := 0) (v := 2) (lv' := [(1, .int 2), (0, .ref a0)]) hx hb dX7_init_120 hl rfl (by decide) (by decide) rfl (fun ls hl => ?_)
  refine lv_goto (tgt := 101) hx hb dX7_init_123 (by decide) ?_
  refine lv_iload_n hx hb dX7_init_101 rfl (lv_at hl 0 rfl) ?_
  refine lv_bipush (v := 7) hx hb dX7_init_102 (by decide) ?_
  refine lv_icmp_ge (tgt := 126) hx hb dX7_init_104 (by decide) (fun c28_ => absurd c28_ (by decide)) (fun c28_ => ?_)
  refine lv_aload_n hx hb dX7_init_107 rfl (lv_at hl 1 rfl) ?_
  refine zget hx hb ht inlX7 hown hK hW 0 rfl rfl 0 (by decide) zm_66 rfl dX7_init_108 ?_
  refine lv_iload_n hx hb dX7_init_111 rfl (lv_at hl 0 rfl) ?_
  refine znew (ci := 3) (fs := [.int 0, .int 0, .int 0, .int 0, .int 0, .int 0, .null]) hx hb ht inlX4 tyX4 tyX4_ok hown zm_65 zm_82 zm_83 hK hS hW hA rfl zn_X4 (Nat.le_of_ble_eq_true rfl) (Nat.le_of_ble_eq_true rfl) dX7_init_112 (fun q29_ H hW hS => ?_)
  have hW : zPD D A ([(a0, .inr (6, [.ref q1_, .int 0, .int 20, .int 0, .int 0, .int 0, .int 0, .int 0, .ref q2_, .ref q8_, .ref q12_, .ref q16_])), (q1_, .inl (y 4, 7, .inr (.inr (.inr (.inr (va_up (va_up (fun _ => none) 0 (some q21_)) 1 (some q25_))))))), (q29_, .inr (3, [.int 0, .int 0, .int 0, .int 0, .int 0, .int 0, .null]))] ++ T6_) H := hW.rt
  refine lv_dup hx hb dX7_init_115 rfl ?_
  refine zgo_vT (wr := [(a0, .inr (6, [.ref q1_, .int 0, .int 20, .int 0, .int 0, .int 0, .int 0, .int 0, .ref q2_, .ref q8_, .ref q12_, .ref q16_])), (q1_, .inl (y 4, 7, .inr (.inr (.inr (.inr (va_up (va_up (fun _ => none) 0 (some q21_)) 1 (some q25_)))))))]) (zrunIN (As := []) (rest := [.ref q29_, .int 2, .ref q1_]) ⟨hx, hb, hml, hown, ht⟩ (zc_X4_init_0 l D y q29_) ⟨va_cnB 0 ht (zgI zm_96) rfl rfl rfl (zN_3 hK) (ht _ zm_83) (by decide +kernel) ⟨(Nat.le_of_ble_eq_true rfl), (Nat.le_of_ble_eq_true rfl)⟩, rfl, ht _ zm_95⟩ hK hE hS hA hW [2] (by decide) rfl rfl hl.1 rfl (Nat.le_of_ble_eq_true rfl) dX7_init_116 (Nat.le_of_ble_eq_true rfl) (Nat.le_of_ble_eq_true rfl)) hS hA hW [2] [0, 1] rfl rfl (by decide) (by decide) rfl rfl (fun q30_ H locs hw hW hS => ?_)
  have hW : zPD D A ([(a0, .inr (6, [.ref q1_, .int 0, .int 20, .int 0, .int 0, .int 0, .int 0, .int 0, .ref q2_, .ref q8_, .ref q12_, .ref q16_])), (q1_, .inl (y 4, 7, .inr (.inr (.inr (.inr (va_up (va_up (fun _ => none) 0 (some q21_)) 1 (some q25_))))))), (q29_, .inr (3, [.int 0, .int 0, .int 0, .int 0, .int 1, .int 0, .ref q30_])), (q30_, .inl (y 0, 4, .inl (fun _ => 0)))] ++ T6_) H := hW.rt
  refine zaast (ws' := ([(a0, .inr (6, [.ref q1_, .int 0, .int 20, .int 0, .int 0, .int 0, .int 0, .int 0, .ref q2_, .ref q8_, .ref q12_, .ref q16_])), (q1_, .inl (y 4, 7, .inr (.inr (.inr (.inr (va_up (va_up (va_up (fun _ => none) 0 (some q21_)) 1 (some q25_)) 2 (some q29_))))))), (q29_, .inr (3, [.int 0, .int 0, .int 0, .int 0, .int 1, .int 0, .ref q30_])), (q30_, .inl (y 0, 4, .inl (fun _ => 0)))] ++ T6_)) hx hb hK hS hW 1 4 2 3 rfl rfl rfl rfl (by unfold vp_in; decide) rfl rfl dX7_init_119 (fun H locs hW hS => ?_)
  obtain ⟨T7_, hT7_⟩ : ∃ t : va_W, t = [(q29_, .inr (3, [.int 0, .int 0, .int 0, .int 0, .int 1, .int 0, .ref q30_])), (q30_, .inl (y 0, 4, .inl (fun _ => 0)))] ++ T6_ := ⟨_, rfl⟩
  have hW : zPD D A ([(a0, .inr (6, [.ref q1_, .int 0, .int 20, .int 0, .int 0, .int 0, .int 0, .int 0, .ref q2_, .ref q8_, .ref q12_, .ref q16_])), (q1_, .inl (y 4, 7, .inr (.inr (.inr (.inr (va_up (va_up (va_up (fun _ => none) 0 (some q21_)) 1 (some q25_)) 2 (some q29_)))))))] ++ T7_) H := by rw [hT7_]; exact (hW.ts [0, 1, 2, 3] (by decide) rfl rfl : zPD D A (([(a0, .inr (6, [.ref q1_, .int 0, .int 20, .int 0, .int 0, .int 0, .int 0, .int 0, .ref q2_, .ref q8_, .ref q12_, .ref q16_])), (q1_, .inl (y 4, 7, .inr (.inr (.inr (.inr (va_up (va_up (va_up (fun _ => none) 0 (some q21_)) 1 (some q25_)) 2 (some q29_)))))))] ++ [(q29_, .inr (3, [.int 0, .int 0, .int 0, .int 0, .int 1, .int 0, .ref q30_])), (q30_, .inl (y 0, 4, .inl (fun _ => 0)))]) ++ T6_) H)
  refine lv_iinc (k := 0) (v := 3) (lv' := [(1, .int 3), (0, .ref a0)]) hx hb dX7_init_120 hl rfl (by decide) (by decide) rfl (fun ls hl => ?_)
  refine lv_goto (tgt := 101) hx hb dX7_init_123 (by decide) ?_
  refine lv_iload_n hx hb dX7_init_101 rfl (lv_at hl 0 rfl) ?_
  refine lv_bipush (v := 7) hx hb dX7_init_102 (by decide) ?_
  refine lv_icmp_ge (tgt := 126) hx hb dX7_init_104 (by decide) (fun c32_ => absurd c32_ (by decide)) (fun c32_ => ?_)
  refine lv_aload_n hx hb dX7_init_107 rfl (lv_at hl 1 rfl) ?_
  refine zget hx hb ht inlX7 hown hK hW 0 rfl rfl 0 (by decide) zm_66 rfl dX7_init_108 ?_
  refine lv_iload_n hx hb dX7_init_111 rfl (lv_at hl 0 rfl) ?_
  refine znew (ci := 3) (fs := [.int 0, .int 0, .int 0, .int 0, .int 0, .int 0, .null]) hx hb ht inlX4 tyX4 tyX4_ok hown zm_65 zm_82 zm_83 hK hS hW hA rfl zn_X4 (Nat.le_of_ble_eq_true rfl) (Nat.le_of_ble_eq_true rfl) dX7_init_112 (fun q33_ H hW hS => ?_)
  have hW : zPD D A ([(a0, .inr (6, [.ref q1_, .int 0, .int 20, .int 0, .int 0, .int 0, .int 0, .int 0, .ref q2_, .ref q8_, .ref q12_, .ref q16_])), (q1_, .inl (y 4, 7, .inr (.inr (.inr (.inr (va_up (va_up (va_up (fun _ => none) 0 (some q21_)) 1 (some q25_)) 2 (some q29_))))))), (q33_, .inr (3, [.int 0, .int 0, .int 0, .int 0, .int 0, .int 0, .null]))] ++ T7_) H := hW.rt
  refine lv_dup hx hb dX7_init_115 rfl ?_
  refine zgo_vT (wr := [(a0, .inr (6, [.ref q1_, .int 0, .int 20, .int 0, .int 0, .int 0, .int 0, .int 0, .ref q2_, .ref q8_, .ref q12_, .ref q16_])), (q1_, .inl (y 4, 7, .inr (.inr (.inr (.inr (va_up (va_up (va_up (fun _ => none) 0 (some q21_)) 1 (some q25_)) 2 (some q29_)))))))]) (zrunIN (As := []) (rest := [.ref q33_, .int 3, .ref q1_]) ⟨hx, hb, hml, hown, ht⟩ (zc_X4_init_0 l D y q33_) ⟨va_cnB 0 ht (zgI zm_96) rfl rfl rfl (zN_3 hK) (ht _ zm_83) (by decide +kernel) ⟨(Nat.le_of_ble_eq_true rfl), (Nat.le_of_ble_eq_true rfl)⟩, rfl, ht _ zm_95⟩ hK hE hS hA hW [2] (by decide) rfl rfl hl.1 rfl (Nat.le_of_ble_eq_true rfl) dX7_init_116 (Nat.le_of_ble_eq_true rfl) (Nat.le_of_ble_eq_true rfl)) hS hA hW [2] [0, 1] rfl rfl (by decide) (by decide) rfl rfl (fun q34_ H locs hw hW hS => ?_)
  have hW : zPD D A ([(a0, .inr (6, [.ref q1_, .int 0, .int 20, .int 0, .int 0, .int 0, .int 0, .int 0, .ref q2_, .ref q8_, .ref q12_, .ref q16_])), (q1_, .inl (y 4, 7, .inr (.inr (.inr (.inr (va_up (va_up (va_up (fun _ => none) 0 (some q21_)) 1 (some q25_)) 2 (some q29_))))))), (q33_, .inr (3, [.int 0, .int 0, .int 0, .int 0, .int 1, .int 0, .ref q34_])), (q34_, .inl (y 0, 4, .inl (fun _ => 0)))] ++ T7_) H := hW.rt
  refine zaast (ws' := ([(a0, .inr (6, [.ref q1_, .int 0, .int 20, .int 0, .int 0, .int 0, .int 0, .int 0, .ref q2_, .ref q8_, .ref q12_, .ref q16_])), (q1_, .inl (y 4, 7, .inr (.inr (.inr (.inr (va_up (va_up (va_up (va_up (fun _ => none) 0 (some q21_)) 1 (some q25_)) 2 (some q29_)) 3 (some q33_))))))), (q33_, .inr (3, [.int 0, .int 0, .int 0, .int 0, .int 1, .int 0, .ref q34_])), (q34_, .inl (y 0, 4, .inl (fun _ => 0)))] ++ T7_)) hx hb hK hS hW 1 4 2 3 rfl rfl rfl rfl (by unfold vp_in; decide) rfl rfl dX7_init_119 (fun H locs hW hS => ?_)
  obtain ⟨T8_, hT8_⟩ : ∃ t : va_W, t = [(q33_, .inr (3, [.int 0, .int 0, .int 0, .int 0, .int 1, .int 0, .ref q34_])), (q34_, .inl (y 0, 4, .inl (fun _ => 0)))] ++ T7_ := ⟨_, rfl⟩
  have hW : zPD D A ([(a0, .inr (6, [.ref q1_, .int 0, .int 20, .int 0, .int 0, .int 0, .int 0, .int 0, .ref q2_, .ref q8_, .ref q12_, .ref q16_])), (q1_, .inl (y 4, 7, .inr (.inr (.inr (.inr (va_up (va_up (va_up (va_up (fun _ => none) 0 (some q21_)) 1 (some q25_)) 2 (some q29_)) 3 (some q33_)))))))] ++ T8_) H := by rw [hT8_]; exact (hW.ts [0, 1, 2, 3] (by decide) rfl rfl : zPD D A (([(a0, .inr (6, [.ref q1_, .int 0, .int 20, .int 0, .int 0, .int 0, .int 0, .int 0, .ref q2_, .ref q8_, .ref q12_, .ref q16_])), (q1_, .inl (y 4, 7, .inr (.inr (.inr (.inr (va_up (va_up (va_up (va_up (fun _ => none) 0 (some q21_)) 1 (some q25_)) 2 (some q29_)) 3 (some q33_)))))))] ++ [(q33_, .inr (3, [.int 0, .int 0, .int 0, .int 0, .int 1, .int 0, .ref q34_])), (q34_, .inl (y 0, 4, .inl (fun _ => 0)))]) ++ T7_) H)
  refine lv_iinc (k := 0) (v := 4) (lv' := [(1, .int 4), (0, .ref a0)]) hx hb dX7_init_120 hl rfl (by decide) (by decide) rfl (fun ls hl => ?_)
  refine lv_goto (tgt := 101) hx hb dX7_init_123 (by decide) ?_
  refine lv_iload_n hx hb dX7_init_101 rfl (lv_at hl 0 rfl) ?_
  refine lv_bipush (v := 7) hx hb dX7_init_102 (by decide) ?_
  refine lv_icmp_ge (tgt := 126) hx hb dX7_init_104 (by decide) (fun c36_ => absurd c36_ (by decide)) (fun c36_ => ?_)
  refine lv_aload_n hx hb dX7_init_107 rfl (lv_at hl 1 rfl) ?_
  refine zget hx hb ht inlX7 hown hK hW 0 rfl rfl 0 (by decide) zm_66 rfl dX7_init_108 ?_
  refine lv_iload_n hx hb dX7_init_111 rfl (lv_at hl 0 rfl) ?_
  refine znew (ci := 3) (fs := [.int 0, .int 0, .int 0, .int 0, .int 0, .int 0, .null]) hx hb ht inlX4 tyX4 tyX4_ok hown zm_65 zm_82 zm_83 hK hS hW hA rfl zn_X4 (Nat.le_of_ble_eq_true rfl) (Nat.le_of_ble_eq_true rfl) dX7_init_112 (fun q37_ H hW hS => ?_)
  have hW : zPD D A ([(a0, .inr (6, [.ref q1_, .int 0, .int 20, .int 0, .int 0, .int 0, .int 0, .int 0, .ref q2_, .ref q8_, .ref q12_, .ref q16_])), (q1_, .inl (y 4, 7, .inr (.inr (.inr (.inr (va_up (va_up (va_up (va_up (fun _ => none) 0 (some q21_)) 1 (some q25_)) 2 (some q29_)) 3 (some q33_))))))), (q37_, .inr (3, [.int 0, .int 0, .int 0, .int 0, .int 0, .int 0, .null]))] ++ T8_) H := hW.rt
  refine lv_dup hx hb dX7_init_115 rfl ?_
  refine zgo_vT (wr := [(a0, .inr (6, [.ref q1_, .int 0, .int 20, .int 0, .int 0, .int 0, .int 0, .int 0, .ref q2_, .ref q8_, .ref q12_, .ref q16_])), (q1_, .inl (y 4, 7, .inr (.inr (.inr (.inr (va_up (va_up (va_up (va_up (fun _ => none) 0 (some q21_)) 1 (some q25_)) 2 (some q29_)) 3 (some q33_)))))))]) (zrunIN (As := []) (rest := [.ref q37_, .int 4, .ref q1_]) ⟨hx, hb, hml, hown, ht⟩ (zc_X4_init_0 l D y q37_) ⟨va_cnB 0 ht (zgI zm_96) rfl rfl rfl (zN_3 hK) (ht _ zm_83) (by decide +kernel) ⟨(Nat.le_of_ble_eq_true rfl), (Nat.le_of_ble_eq_true rfl)⟩, rfl, ht _ zm_95⟩ hK hE hS hA hW [2] (by decide) rfl rfl hl.1 rfl (Nat.le_of_ble_eq_true rfl) dX7_init_116 (Nat.le_of_ble_eq_true rfl) (Nat.le_of_ble_eq_true rfl)) hS hA hW [2] [0, 1] rfl rfl (by decide) (by decide) rfl rfl (fun q38_ H locs hw hW hS => ?_)
  have hW : zPD D A ([(a0, .inr (6, [.ref q1_, .int 0, .int 20, .int 0, .int 0, .int 0, .int 0, .int 0, .ref q2_, .ref q8_, .ref q12_, .ref q16_])), (q1_, .inl (y 4, 7, .inr (.inr (.inr (.inr (va_up (va_up (va_up (va_up (fun _ => none) 0 (some q21_)) 1 (some q25_)) 2 (some q29_)) 3 (some q33_))))))), (q37_, .inr (3, [.int 0, .int 0, .int 0, .int 0, .int 1, .int 0, .ref q38_])), (q38_, .inl (y 0, 4, .inl (fun _ => 0)))] ++ T8_) H := hW.rt
  refine zaast (ws' := ([(a0, .inr (6, [.ref q1_, .int 0, .int 20, .int 0, .int 0, .int 0, .int 0, .int 0, .ref q2_, .ref q8_, .ref q12_, .ref q16_])), (q1_, .inl (y 4, 7, .inr (.inr (.inr (.inr (va_up (va_up (va_up (va_up (va_up (fun _ => none) 0 (some q21_)) 1 (some q25_)) 2 (some q29_)) 3 (some q33_)) 4 (some q37_))))))), (q37_, .inr (3, [.int 0, .int 0, .int 0, .int 0, .int 1, .int 0, .ref q38_])), (q38_, .inl (y 0, 4, .inl (fun _ => 0)))] ++ T8_)) hx hb hK hS hW 1 4 2 3 rfl rfl rfl rfl (by unfold vp_in; decide) rfl rfl dX7_init_119 (fun H locs hW hS => ?_)
  obtain ⟨T9_, hT9_⟩ : ∃ t : va_W, t = [(q37_, .inr (3, [.int 0, .int 0, .int 0, .int 0, .int 1, .int 0, .ref q38_])), (q38_, .inl (y 0, 4, .inl (fun _ => 0)))] ++ T8_ := ⟨_, rfl⟩
  have hW : zPD D A ([(a0, .inr (6, [.ref q1_, .int 0, .int 20, .int 0, .int 0, .int 0, .int 0, .int 0, .ref q2_, .ref q8_, .ref q12_, .ref q16_])), (q1_, .inl (y 4, 7, .inr (.inr (.inr (.inr (va_up (va_up (va_up (va_up (va_up (fun _ => none) 0 (some q21_)) 1 (some q25_)) 2 (some q29_)) 3 (some q33_)) 4 (some q37_)))))))] ++ T9_) H := by rw [hT9_]; exact (hW.ts [0, 1, 2, 3] (by decide) rfl rfl : zPD D A (([(a0, .inr (6, [.ref q1_, .int 0, .int 20, .int 0, .int 0, .int 0, .int 0, .int 0, .ref q2_, .ref q8_, .ref q12_, .ref q16_])), (q1_, .inl (y 4, 7, .inr (.inr (.inr (.inr (va_up (va_up (va_up (va_up (va_up (fun _ => none) 0 (some q21_)) 1 (some q25_)) 2 (some q29_)) 3 (some q33_)) 4 (some q37_)))))))] ++ [(q37_, .inr (3, [.int 0, .int 0, .int 0, .int 0, .int 1, .int 0, .ref q38_])), (q38_, .inl (y 0, 4, .inl (fun _ => 0)))]) ++ T8_) H)
  refine lv_iinc (k := 0) (v := 5) (lv' := [(1, .int 5), (0, .ref a0)]) hx hb dX7_init_120 hl rfl (by decide) (by decide) rfl (fun ls hl => ?_)
  refine lv_goto (tgt := 101) hx hb dX7_init_123 (by decide) ?_
  refine lv_iload_n hx hb dX7_init_101 rfl (lv_at hl 0 rfl) ?_
  refine lv_bipush (v := 7) hx hb dX7_init_102 (by decide) ?_
  refine lv_icmp_ge (tgt := 126) hx hb dX7_init_104 (by decide) (fun c40_ => absurd c40_ (by decide)) (fun c40_ => ?_)
  refine lv_aload_n hx hb dX7_init_107 rfl (lv_at hl 1 rfl) ?_
  refine zget hx hb ht inlX7 hown hK hW 0 rfl rfl 0 (by decide) zm_66 rfl dX7_init_108 ?_
  refine lv_iload_n hx hb dX7_init_111 rfl (lv_at hl 0 rfl) ?_
  refine znew (ci := 3) (fs := [.int 0, .int 0, .int 0, .int 0, .int 0, .int 0, .null]) hx hb ht inlX4 tyX4 tyX4_ok hown zm_65 zm_82 zm_83 hK hS hW hA rfl zn_X4 (Nat.le_of_ble_eq_true rfl) (Nat.le_of_ble_eq_true rfl) dX7_init_112 (fun q41_ H hW hS => ?_)
  have hW : zPD D A ([(a0, .inr (6, [.ref q1_, .int 0, .int 20, .int 0, .int 0, .int 0, .int 0, .int 0, .ref q2_, .ref q8_, .ref q12_, .ref q16_])), (q1_, .inl (y 4, 7, .inr (.inr (.inr (.inr (va_up (va_up (va_up (va_up (va_up (fun _ => none) 0 (some q21_)) 1 (some q25_)) 2 (some q29_)) 3 (some q33_)) 4 (some q37_))))))), (q41_, .inr (3, [.int 0, .int 0, .int 0, .int 0, .int 0, .int 0, .null]))] ++ T9_) H := hW.rt
  refine lv_dup hx hb dX7_init_115 rfl ?_
  refine zgo_vT (wr := [(a0, .inr (6, [.ref q1_, .int 0, .int 20, .int 0, .int 0, .int 0, .int 0, .int 0, .ref q2_, .ref q8_, .ref q12_, .ref q16_])), (q1_, .inl (y 4, 7, .inr (.inr (.inr (.inr (va_up (va_up (va_up (va_up (va_up (fun _ => none) 0 (some q21_)) 1 (some q25_)) 2 (some q29_)) 3 (some q33_)) 4 (some q37_)))))))]) (zrunIN (As := []) (rest := [.ref q41_, .int 5, .ref q1_]) ⟨hx, hb, hml, hown, ht⟩ (zc_X4_init_0 l D y q41_) ⟨va_cnB 0 ht (zgI zm_96) rfl rfl rfl (zN_3 hK) (ht _ zm_83) (by decide +kernel) ⟨(Nat.le_of_ble_eq_true rfl), (Nat.le_of_ble_eq_true rfl)⟩, rfl, ht _ zm_95⟩ hK hE hS hA hW [2] (by decide) rfl rfl hl.1 rfl (Nat.le_of_ble_eq_true rfl) dX7_init_116 (Nat.le_of_ble_eq_true rfl) (Nat.le_of_ble_eq_true rfl)) hS hA hW [2] [0, 1] rfl rfl (by decide) (by decide) rfl rfl (fun q42_ H locs hw hW hS => ?_)
  have hW : zPD D A ([(a0, .inr (6, [.ref q1_, .int 0, .int 20, .int 0, .int 0, .int 0, .int 0, .int 0, .ref q2_, .ref q8_, .ref q12_, .ref q16_])), (q1_, .inl (y 4, 7, .inr (.inr (.inr (.inr (va_up (va_up (va_up (va_up (va_up (fun _ => none) 0 (some q21_)) 1 (some q25_)) 2 (some q29_)) 3 (some q33_)) 4 (some q37_))))))), (q41_, .inr (3, [.int 0, .int 0, .int 0, .int 0, .int 1, .int 0, .ref q42_])), (q42_, .inl (y 0, 4, .inl (fun _ => 0)))] ++ T9_) H := hW.rt
  refine zaast (ws' := ([(a0, .inr (6, [.ref q1_, .int 0, .int 20, .int 0, .int 0, .int 0, .int 0, .int 0, .ref q2_, .ref q8_, .ref q12_, .ref q16_])), (q1_, .inl (y 4, 7, .inr (.inr (.inr (.inr (va_up (va_up (va_up (va_up (va_up (va_up (fun _ => none) 0 (some q21_)) 1 (some q25_)) 2 (some q29_)) 3 (some q33_)) 4 (some q37_)) 5 (some q41_))))))), (q41_, .inr (3, [.int 0, .int 0, .int 0, .int 0, .int 1, .int 0, .ref q42_])), (q42_, .inl (y 0, 4, .inl (fun _ => 0)))] ++ T9_)) hx hb hK hS hW 1 4 2 3 rfl rfl rfl rfl (by unfold vp_in; decide) rfl rfl dX7_init_119 (fun H locs hW hS => ?_)
  obtain ⟨T10_, hT10_⟩ : ∃ t : va_W, t = [(q41_, .inr (3, [.int 0, .int 0, .int 0, .int 0, .int 1, .int 0, .ref q42_])), (q42_, .inl (y 0, 4, .inl (fun _ => 0)))] ++ T9_ := ⟨_, rfl⟩
  have hW : zPD D A ([(a0, .inr (6, [.ref q1_, .int 0, .int 20, .int 0, .int 0, .int 0, .int 0, .int 0, .ref q2_, .ref q8_, .ref q12_, .ref q16_])), (q1_, .inl (y 4, 7, .inr (.inr (.inr (.inr (va_up (va_up (va_up (va_up (va_up (va_up (fun _ => none) 0 (some q21_)) 1 (some q25_)) 2 (some q29_)) 3 (some q33_)) 4 (some q37_)) 5 (some q41_)))))))] ++ T10_) H := by rw [hT10_]; exact (hW.ts [0, 1, 2, 3] (by decide) rfl rfl : zPD D A (([(a0, .inr (6, [.ref q1_, .int 0, .int 20, .int 0, .int 0, .int 0, .int 0, .int 0, .ref q2_, .ref q8_, .ref q12_, .ref q16_])), (q1_, .inl (y 4, 7, .inr (.inr (.inr (.inr (va_up (va_up (va_up (va_up (va_up (va_up (fun _ => none) 0 (some q21_)) 1 (some q25_)) 2 (some q29_)) 3 (some q33_)) 4 (some q37_)) 5 (some q41_)))))))] ++ [(q41_, .inr (3, [.int 0, .int 0, .int 0, .int 0, .int 1, .int 0, .ref q42_])), (q42_, .inl (y 0, 4, .inl (fun _ => 0)))]) ++ T9_) H)
  refine lv_iinc (k := 0) (v := 6) (lv' := [(1, .int 6), (0, .ref a0)]) hx hb dX7_init_120 hl rfl (by decide) (by decide) rfl (fun ls hl => ?_)
  refine lv_goto (tgt := 101) hx hb dX7_init_123 (by decide) ?_
  refine lv_iload_n hx hb dX7_init_101 rfl (lv_at hl 0 rfl) ?_
  refine lv_bipush (v := 7) hx hb dX7_init_102 (by decide) ?_
  refine lv_icmp_ge (tgt := 126) hx hb dX7_init_104 (by decide) (fun c44_ => absurd c44_ (by decide)) (fun c44_ => ?_)
  refine lv_aload_n hx hb dX7_init_107 rfl (lv_at hl 1 rfl) ?_
  refine zget hx hb ht inlX7 hown hK hW 0 rfl rfl 0 (by decide) zm_66 rfl dX7_init_108 ?_
  refine lv_iload_n hx hb dX7_init_111 rfl (lv_at hl 0 rfl) ?_
  refine znew (ci := 3) (fs := [.int 0, .int 0, .int 0, .int 0, .int 0, .int 0, .null]) hx hb ht inlX4 tyX4 tyX4_ok hown zm_65 zm_82 zm_83 hK hS hW hA rfl zn_X4 (Nat.le_of_ble_eq_true rfl) (Nat.le_of_ble_eq_true rfl) dX7_init_112 (fun q45_ H hW hS => ?_)
  have hW : zPD D A ([(a0, .inr (6, [.ref q1_, .int 0, .int 20, .int 0, .int 0, .int 0, .int 0, .int 0, .ref q2_, .ref q8_, .ref q12_, .ref q16_])), (q1_, .inl (y 4, 7, .inr (.inr (.inr (.inr (va_up (va_up (va_up (va_up (va_up (va_up (fun _ => none) 0 (some q21_)) 1 (some q25_)) 2 (some q29_)) 3 (some q33_)) 4 (some q37_)) 5 (some q41_))))))), (q45_, .inr (3, [.int 0, .int 0, .int 0, .int 0, .int 0, .int 0, .null]))] ++ T10_) H := hW.rt
  refine lv_dup hx hb dX7_init_115 rfl ?_
  refine zgo_vT (wr := [(a0, .inr (6, [.ref q1_, .int 0, .int 20, .int 0, .int 0, .int 0, .int 0, .int 0, .ref q2_, .ref q8_, .ref q12_, .ref q16_])), (q1_, .inl (y 4, 7, .inr (.inr (.inr (.inr (va_up (va_up (va_up (va_up (va_up (va_up (fun _ => none) 0 (some q21_)) 1 (some q25_)) 2 (some q29_)) 3 (some q33_)) 4 (some q37_)) 5 (some q41_)))))))]) (zrunIN (As := []) (rest := [.ref q45_, .int 6, .ref q1_]) ⟨hx, hb, hml, hown, ht⟩ (zc_X4_init_0 l D y q45_) ⟨va_cnB 0 ht (zgI zm_96) rfl rfl rfl (zN_3 hK) (ht _ zm_83) (by decide +kernel) ⟨(Nat.le_of_ble_eq_true rfl), (Nat.le_of_ble_eq_true rfl)⟩, rfl, ht _ zm_95⟩ hK hE hS hA hW [2] (by decide) rfl rfl hl.1 rfl (Nat.le_of_ble_eq_true rfl) dX7_init_116 (Nat.le_of_ble_eq_true rfl) (Nat.le_of_ble_eq_true rfl)) hS hA hW [2] [0, 1] rfl rfl (by decide) (by decide) rfl rfl (fun q46_ H locs hw hW hS => ?_)
  have hW : zPD D A ([(a0, .inr (6, [.ref q1_, .int 0, .int 20, .int 0, .int 0, .int 0, .int 0, .int 0, .ref q2_, .ref q8_, .ref q12_, .ref q16_])), (q1_, .inl (y 4, 7, .inr (.inr (.inr (.inr (va_up (va_up (va_up (va_up (va_up (va_up (fun _ => none) 0 (some q21_)) 1 (some q25_)) 2 (some q29_)) 3 (some q33_)) 4 (some q37_)) 5 (some q41_))))))), (q45_, .inr (3, [.int 0, .int 0, .int 0, .int 0, .int 1, .int 0, .ref q46_])), (q46_, .inl (y 0, 4, .inl (fun _ => 0)))] ++ T10_) H := hW.rt
  refine zaast (ws' := ([(a0, .inr (6, [.ref q1_, .int 0, .int 20, .int 0, .int 0, .int 0, .int 0, .int 0, .ref q2_, .ref q8_, .ref q12_, .ref q16_])), (q1_, .inl (y 4, 7, .inr (.inr (.inr (.inr (va_up (va_up (va_up (va_up (va_up (va_up (va_up (fun _ => none) 0 (some q21_)) 1 (some q25_)) 2 (some q29_)) 3 (some q33_)) 4 (some q37_)) 5 (some q41_)) 6 (some q45_))))))), (q45_, .inr (3, [.int 0, .int 0, .int 0, .int 0, .int 1, .int 0, .ref q46_])), (q46_, .inl (y 0, 4, .inl (fun _ => 0)))] ++ T10_)) hx hb hK hS hW 1 4 2 3 rfl rfl rfl rfl (by unfold vp_in; decide) rfl rfl dX7_init_119 (fun H locs hW hS => ?_)
  obtain ⟨T11_, hT11_⟩ : ∃ t : va_W, t = [(q45_, .inr (3, [.int 0, .int 0, .int 0, .int 0, .int 1, .int 0, .ref q46_])), (q46_, .inl (y 0, 4, .inl (fun _ => 0)))] ++ T10_ := ⟨_, rfl⟩
  have hW : zPD D A ([(a0, .inr (6, [.ref q1_, .int 0, .int 20, .int 0, .int 0, .int 0, .int 0, .int 0, .ref q2_, .ref q8_, .ref q12_, .ref q16_])), (q1_, .inl (y 4, 7, .inr (.inr (.inr (.inr (va_up (va_up (va_up (va_up (va_up (va_up (va_up (fun _ => none) 0 (some q21_)) 1 (some q25_)) 2 (some q29_)) 3 (some q33_)) 4 (some q37_)) 5 (some q41_)) 6 (some q45_)))))))] ++ T11_) H := by rw [hT11_]; exact (hW.ts [0, 1, 2, 3] (by decide) rfl rfl : zPD D A (([(a0, .inr (6, [.ref q1_, .int 0, .int 20, .int 0, .int 0, .int 0, .int 0, .int 0, .ref q2_, .ref q8_, .ref q12_, .ref q16_])), (q1_, .inl (y 4, 7, .inr (.inr (.inr (.inr (va_up (va_up (va_up (va_up (va_up (va_up (va_up (fun _ => none) 0 (some q21_)) 1 (some q25_)) 2 (some q29_)) 3 (some q33_)) 4 (some q37_)) 5 (some q41_)) 6 (some q45_)))))))] ++ [(q45_, .inr (3, [.int 0, .int 0, .int 0, .int 0, .int 1, .int 0, .ref q46_])), (q46_, .inl (y 0, 4, .inl (fun _ => 0)))]) ++ T10_) H)
  refine lv_iinc (k := 0) (v := 7) (lv' := [(1, .int 7), (0, .ref a0)]) hx hb dX7_init_120 hl rfl (by decide) (by decide) rfl (fun ls hl => ?_)
  refine lv_goto (tgt := 101) hx hb dX7_init_123 (by decide) ?_
  refine lv_iload_n hx hb dX7_init_101 rfl (lv_at hl 0 rfl) ?_
  refine lv_bipush (v := 7) hx hb dX7_init_102 (by decide) ?_
  refine lv_icmp_ge (tgt := 126) hx hb dX7_init_104 (by decide) (fun c48_ => ?_) (fun c48_ => absurd (by decide) c48_)
  rw [hT11_, hT10_, hT9_, hT8_, hT7_, hT6_, hT5_, hT4_, hT3_, hT2_, hT1_] at hW
  exact zret_v hx hb hr hlocks hS (fun q => [q1_, q2_, q8_, q12_, q16_, q21_, q25_, q29_, q33_, q37_, q41_, q45_, q46_, q42_, q38_, q34_, q30_, q26_, q22_, q17_, q18_, q13_, q14_, q9_, q10_, q3_, q4_, q5_, q6_].getD q 0) trivial (hW.sub [0, 1, 2, 3, 4, 5, 6, 7, 8, 9, 10, 11, 12, 13, 14, 15, 16, 17, 18, 19, 20, 21, 22, 23, 24, 25, 26, 27, 28, 29] (by decide) rfl) (Nat.le_of_ble_eq_true rfl) (Nat.le_of_ble_eq_true rfl) dX7_init_126
set_option maxHeartbeats 8000000 in
set_option maxRecDepth 100000 in
theorem zc_X1_init_0 (l : Launch) (D : va_G) (y : Nat → ClassId) (a0 : Nat) (a1 : Nat) : zM l D y yX1_init (Cond.code yX1_init cX1_init 2 none :: zT) { frames := 2, cells := 9, slots := 2845, locals := 43 } [.ref a0, .ref a1] [(a0, .inr (1, [.null, .int 0, .int 0, .null, .null, .null, .int 0, .null, .null]))] (zQv (S := Nat × Nat × Nat × Nat × Nat × Nat × Nat × Nat × Nat) D (fun z_ => match z_ with | (q1_, q2_, q6_, q10_, q11_, q3_, q4_, q7_, q8_) => True) (fun z_ => match z_ with | (q1_, q2_, q6_, q10_, q11_, q3_, q4_, q7_, q8_) => [(a0, .inr (1, [.ref a1, .int 0, .int 0, .ref q1_, .ref q2_, .ref q6_, .int 0, .ref q10_, .ref q11_])), (q1_, .inl (y 0, 7, .inl (fun _ => 0))), (q2_, .inr (5, [.int 0, .ref q3_, .ref q4_])), (q3_, .inl (y 0, 7, .inl (fun _ => 0))), (q4_, .inl (y 0, 7, .inl (fun _ => 0))), (q6_, .inr (5, [.int 0, .ref q7_, .ref q8_])), (q7_, .inl (y 0, 7, .inl (fun _ => 0))), (q8_, .inl (y 0, 7, .inl (fun _ => 0))), (q10_, .inl (y 0, 2800, .inl (fun _ => 0))), (q11_, .inl (y 2, 4, .inl (fun _ => 0)))])) := by
  refine zent (cc := cX1_init) (maxL := 2) (ret := none) (by decide) (Nat.le_of_ble_eq_true rfl) ?_
  intro p e s m below meth c A H locs ls hx hb hml hr ht hown hlocks hin hA hK hE hS hW hl
  have hown : s.vm.findClass RX1 = some m.cls := hown
  have hW : zPD D A [(a0, .inr (1, [.null, .int 0, .int 0, .null, .null, .null, .int 0, .null, .null]))] H := hW
  have hl : lv_has ls 2 [(0, .ref a0), (1, .ref a1)] := hl
  refine lv_aload_n hx hb dX1_init_0 rfl (lv_at hl 0 rfl) ?_
  refine W.objInit hx hb hown (ht _ zm_108) (ht _ zm_11) (ht _ zm_12) rfl (by rw [hml]; exact hl.1) rfl dX1_init_1 (Nat.le_of_ble_eq_true rfl) (Nat.le_of_ble_eq_true rfl) ?_
  refine W.eq (g2 := F0 m 4 ls []) rfl ?_
  refine lv_aload_n hx hb dX1_init_4 rfl (lv_at hl 0 rfl) ?_
  refine lv_iconst (v := 0) hx hb dX1_init_5 (by decide) ?_
  refine zput (ws' := [(a0, .inr (1, [.null, .int 0, .int 0, .null, .null, .null, .int 0, .null, .null]))]) hx hb ht inlX1 tyX1 tyX1_ok nmX1 hown hK hS hW 0 rfl rfl 1 (by decide) zm_109 rfl rfl rfl (Nat.le_of_ble_eq_true rfl) rfl dX1_init_6 (fun H locs hW hS => ?_)
  refine lv_aload_n hx hb dX1_init_9 rfl (lv_at hl 0 rfl) ?_
  refine lv_iconst (v := 0) hx hb dX1_init_10 (by decide) ?_
  refine zput (ws' := [(a0, .inr (1, [.null, .int 0, .int 0, .null, .null, .null, .int 0, .null, .null]))]) hx hb ht inlX1 tyX1 tyX1_ok nmX1 hown hK hS hW 0 rfl rfl 2 (by decide) zm_110 rfl rfl rfl (Nat.le_of_ble_eq_true rfl) rfl dX1_init_11 (fun H locs hW hS => ?_)
  refine lv_aload_n hx hb dX1_init_14 rfl (lv_at hl 0 rfl) ?_
  refine lv_bipush (v := 7) hx hb dX1_init_15 (by decide) ?_
  refine znewa (atype := .int) hx hb ht zm_43 0 rfl hK hS hW hA (7, .inl (fun _ => 0)) (fun _ => rfl) (by decide) rfl (Nat.le_of_ble_eq_true rfl) (Nat.le_of_ble_eq_true rfl) (Nat.le_of_ble_eq_true rfl) dX1_init_17 (fun q1_ H hW hS => ?_)
  have hW : zPD D A [(a0, .inr (1, [.null, .int 0, .int 0, .null, .null, .null, .int 0, .null, .null])), (q1_, .inl (y 0, 7, .inl (fun _ => 0)))] H := hW
  refine zputF (ws' := [(a0, .inr (1, [.null, .int 0, .int 0, .ref q1_, .null, .null, .int 0, .null, .null])), (q1_, .inl (y 0, 7, .inl (fun _ => 0)))]) hx hb ht inlX1 tyX1 tyX1_ok nmX1 hown hK hS hW 0 rfl rfl 3 (by decide) zm_111 rfl hin rfl rfl rfl (Nat.le_of_ble_eq_true rfl) rfl dX1_init_19 (fun H locs hW hS => ?_)
  refine lv_aload_n hx hb dX1_init_22 rfl (lv_at hl 0 rfl) ?_
  refine znew (ci := 5) (fs := [.int 0, .null, .null]) hx hb ht inlX6 tyX6 tyX6_ok hown zm_112 zm_77 zm_78 hK hS hW hA rfl zn_X6 (Nat.le_of_ble_eq_true rfl) (Nat.le_of_ble_eq_true rfl) dX1_init_23 (fun q2_ H hW hS => ?_)
  have hW : zPD D A [(a0, .inr (1, [.null, .int 0, .int 0, .ref q1_, .null, .null, .int 0, .null, .null])), (q1_, .inl (y 0, 7, .inl (fun _ => 0))), (q2_, .inr (5, [.int 0, .null, .null]))] H := hW
  refine lv_dup hx hb dX1_init_26 rfl ?_
  refine lv_bipush (v := 7) hx hb dX1_init_27 (by decide) ?_
  refine zgo_v (wr := [(a0, .inr (1, [.null, .int 0, .int 0, .ref q1_, .null, .null, .int 0, .null, .null])), (q1_, .inl (y 0, 7, .inl (fun _ => 0)))]) (zrunI (As := [.int 7]) (rest := [.ref q2_, .ref a0]) ⟨hx, hb, hml, hown, ht⟩ (zc_X6_init_0 l D y q2_) (cwI 1 ht (zgI zm_86) rfl rfl rfl (ht _ zm_78) (ht _ zm_120) (ht _ zm_85) rfl (by decide +kernel) ⟨(Nat.le_of_ble_eq_true rfl), (Nat.le_of_ble_eq_true rfl)⟩) hK hE hS hA hW [2] (by decide) rfl rfl hl.1 rfl (Nat.le_of_ble_eq_true rfl) dX1_init_29 (Nat.le_of_ble_eq_true rfl) (Nat.le_of_ble_eq_true rfl)) hS hA hW [2] [0, 1] rfl rfl (by decide) (by decide) (fun u H locs hw hW hS => ?_)
  obtain ⟨q3_, q4_⟩ := u
  have hW : zPD D A [(a0, .inr (1, [.null, .int 0, .int 0, .ref q1_, .null, .null, .int 0, .null, .null])), (q1_, .inl (y 0, 7, .inl (fun _ => 0))), (q2_, .inr (5, [.int 0, .ref q3_, .ref q4_])), (q3_, .inl (y 0, 7, .inl (fun _ => 0))), (q4_, .inl (y 0, 7, .inl (fun _ => 0)))] H := hW
  refine zputF (ws' := [(a0, .inr (1, [.null, .int 0, .int 0, .ref q1_, .ref q2_, .null, .int 0, .null, .null])), (q1_, .inl (y 0, 7, .inl (fun _ => 0))), (q2_, .inr (5, [.int 0, .ref q3_, .ref q4_])), (q3_, .inl (y 0, 7, .inl (fun _ => 0))), (q4_, .inl (y 0, 7, .inl (fun _ => 0)))]) hx hb ht inlX1 tyX1 tyX1_ok nmX1 hown hK hS hW 0 rfl rfl 4 (by decide) zm_113 rfl hin rfl rfl rfl (Nat.le_of_ble_eq_true rfl) rfl dX1_init_32 (fun H locs hW hS => ?_)
  refine lv_aload_n hx hb dX1_init_35 rfl (lv_at hl 0 rfl) ?_
  refine znew (ci := 5) (fs := [.int 0, .null, .null]) hx hb ht inlX6 tyX6 tyX6_ok hown zm_112 zm_77 zm_78 hK hS hW hA rfl zn_X6 (Nat.le_of_ble_eq_true rfl) (Nat.le_of_ble_eq_true rfl) dX1_init_36 (fun q6_ H hW hS => ?_)
  have hW : zPD D A [(a0, .inr (1, [.null, .int 0, .int 0, .ref q1_, .ref q2_, .null, .int 0, .null, .null])), (q1_, .inl (y 0, 7, .inl (fun _ => 0))), (q2_, .inr (5, [.int 0, .ref q3_, .ref q4_])), (q3_, .inl (y 0, 7, .inl (fun _ => 0))), (q4_, .inl (y 0, 7, .inl (fun _ => 0))), (q6_, .inr (5, [.int 0, .null, .null]))] H := hW
  refine lv_dup hx hb dX1_init_39 rfl ?_
  refine lv_bipush (v := 7) hx hb dX1_init_40 (by decide) ?_
  refine zgo_v (wr := [(a0, .inr (1, [.null, .int 0, .int 0, .ref q1_, .ref q2_, .null, .int 0, .null, .null])), (q1_, .inl (y 0, 7, .inl (fun _ => 0))), (q2_, .inr (5, [.int 0, .ref q3_, .ref q4_])), (q3_, .inl (y 0, 7, .inl (fun _ => 0))), (q4_, .inl (y 0, 7, .inl (fun _ => 0)))]) (zrunI (As := [.int 7]) (rest := [.ref q6_, .ref a0]) ⟨hx, hb, hml, hown, ht⟩ (zc_X6_init_0 l D y q6_) (cwI 1 ht (zgI zm_86) rfl rfl rfl (ht _ zm_78) (ht _ zm_120) (ht _ zm_85) rfl (by decide +kernel) ⟨(Nat.le_of_ble_eq_true rfl), (Nat.le_of_ble_eq_true rfl)⟩) hK hE hS hA hW [5] (by decide) rfl rfl hl.1 rfl (Nat.le_of_ble_eq_true rfl) dX1_init_42 (Nat.le_of_ble_eq_true rfl) (Nat.le_of_ble_eq_true rfl)) hS hA hW [5] [0, 1, 2, 3, 4] rfl rfl (by decide) (by decide) (fun u H locs hw hW hS => ?_)
  obtain ⟨q7_, q8_⟩ := u
  have hW : zPD D A [(a0, .inr (1, [.null, .int 0, .int 0, .ref q1_, .ref q2_, .null, .int 0, .null, .null])), (q1_, .inl (y 0, 7, .inl (fun _ => 0))), (q2_, .inr (5, [.int 0, .ref q3_, .ref q4_])), (q3_, .inl (y 0, 7, .inl (fun _ => 0))), (q4_, .inl (y 0, 7, .inl (fun _ => 0))), (q6_, .inr (5, [.int 0, .ref q7_, .ref q8_])), (q7_, .inl (y 0, 7, .inl (fun _ => 0))), (q8_, .inl (y 0, 7, .inl (fun _ => 0)))] H := hW
  refine zputF (ws' := [(a0, .inr (1, [.null, .int 0, .int 0, .ref q1_, .ref q2_, .ref q6_, .int 0, .null, .null])), (q1_, .inl (y 0, 7, .inl (fun _ => 0))), (q2_, .inr (5, [.int 0, .ref q3_, .ref q4_])), (q3_, .inl (y 0, 7, .inl (fun _ => 0))), (q4_, .inl (y 0, 7, .inl (fun _ => 0))), (q6_, .inr (5, [.int 0, .ref q7_, .ref q8_])), (q7_, .inl (y 0, 7, .inl (fun _ => 0))), (q8_, .inl (y 0, 7, .inl (fun _ => 0)))]) hx hb ht inlX1 tyX1 tyX1_ok nmX1 hown hK hS hW 0 rfl rfl 5 (by decide) zm_114 rfl hin rfl rfl rfl (Nat.le_of_ble_eq_true rfl) rfl dX1_init_45 (fun H locs hW hS => ?_)
  refine lv_aload_n hx hb dX1_init_48 rfl (lv_at hl 0 rfl) ?_
  refine lv_iconst (v := 0) hx hb dX1_init_49 (by decide) ?_
  refine zput (ws' := [(a0, .inr (1, [.null, .int 0, .int 0, .ref q1_, .ref q2_, .ref q6_, .int 0, .null, .null])), (q1_, .inl (y 0, 7, .inl (fun _ => 0))), (q2_, .inr (5, [.int 0, .ref q3_, .ref q4_])), (q3_, .inl (y 0, 7, .inl (fun _ => 0))), (q4_, .inl (y 0, 7, .inl (fun _ => 0))), (q6_, .inr (5, [.int 0, .ref q7_, .ref q8_])), (q7_, .inl (y 0, 7, .inl (fun _ => 0))), (q8_, .inl (y 0, 7, .inl (fun _ => 0)))]) hx hb ht inlX1 tyX1 tyX1_ok nmX1 hown hK hS hW 0 rfl rfl 6 (by decide) zm_115 rfl rfl rfl (Nat.le_of_ble_eq_true rfl) rfl dX1_init_50 (fun H locs hW hS => ?_)
  refine lv_aload_n hx hb dX1_init_53 rfl (lv_at hl 0 rfl) ?_
  refine lv_sipush (v := 2800) hx hb dX1_init_54 (by decide) ?_
  refine znewa (atype := .int) hx hb ht zm_43 0 rfl hK hS hW hA (2800, .inl (fun _ => 0)) (fun _ => rfl) (by decide) rfl (Nat.le_of_ble_eq_true rfl) (Nat.le_of_ble_eq_true rfl) (Nat.le_of_ble_eq_true rfl) dX1_init_57 (fun q10_ H hW hS => ?_)
  have hW : zPD D A [(a0, .inr (1, [.null, .int 0, .int 0, .ref q1_, .ref q2_, .ref q6_, .int 0, .null, .null])), (q1_, .inl (y 0, 7, .inl (fun _ => 0))), (q2_, .inr (5, [.int 0, .ref q3_, .ref q4_])), (q3_, .inl (y 0, 7, .inl (fun _ => 0))), (q4_, .inl (y 0, 7, .inl (fun _ => 0))), (q6_, .inr (5, [.int 0, .ref q7_, .ref q8_])), (q7_, .inl (y 0, 7, .inl (fun _ => 0))), (q8_, .inl (y 0, 7, .inl (fun _ => 0))), (q10_, .inl (y 0, 2800, .inl (fun _ => 0)))] H := hW
  refine zputF (ws' := [(a0, .inr (1, [.null, .int 0, .int 0, .ref q1_, .ref q2_, .ref q6_, .int 0, .ref q10_, .null])), (q1_, .inl (y 0, 7, .inl (fun _ => 0))), (q2_, .inr (5, [.int 0, .ref q3_, .ref q4_])), (q3_, .inl (y 0, 7, .inl (fun _ => 0))), (q4_, .inl (y 0, 7, .inl (fun _ => 0))), (q6_, .inr (5, [.int 0, .ref q7_, .ref q8_])), (q7_, .inl (y 0, 7, .inl (fun _ => 0))), (q8_, .inl (y 0, 7, .inl (fun _ => 0))), (q10_, .inl (y 0, 2800, .inl (fun _ => 0)))]) hx hb ht inlX1 tyX1 tyX1_ok nmX1 hown hK hS hW 0 rfl rfl 7 (by decide) zm_116 rfl hin rfl rfl rfl (Nat.le_of_ble_eq_true rfl) rfl dX1_init_59 (fun H locs hW hS => ?_)
  refine lv_aload_n hx hb dX1_init_62 rfl (lv_at hl 0 rfl) ?_
  refine lv_iconst (v := 4) hx hb dX1_init_63 (by decide) ?_
  refine znewa (atype := .boolean) hx hb ht zm_117 2 rfl hK hS hW hA (4, .inl (fun _ => 0)) (fun _ => rfl) (by decide) rfl (Nat.le_of_ble_eq_true rfl) (Nat.le_of_ble_eq_true rfl) (Nat.le_of_ble_eq_true rfl) dX1_init_64 (fun q11_ H hW hS => ?_)
  have hW : zPD D A [(a0, .inr (1, [.null, .int 0, .int 0, .ref q1_, .ref q2_, .ref q6_, .int 0, .ref q10_, .null])), (q1_, .inl (y 0, 7, .inl (fun _ => 0))), (q2_, .inr (5, [.int 0, .ref q3_, .ref q4_])), (q3_, .inl (y 0, 7, .inl (fun _ => 0))), (q4_, .inl (y 0, 7, .inl (fun _ => 0))), (q6_, .inr (5, [.int 0, .ref q7_, .ref q8_])), (q7_, .inl (y 0, 7, .inl (fun _ => 0))), (q8_, .inl (y 0, 7, .inl (fun _ => 0))), (q10_, .inl (y 0, 2800, .inl (fun _ => 0))), (q11_, .inl (y 2, 4, .inl (fun _ => 0)))] H := hW
  refine zputF (ws' := [(a0, .inr (1, [.null, .int 0, .int 0, .ref q1_, .ref q2_, .ref q6_, .int 0, .ref q10_, .ref q11_])), (q1_, .inl (y 0, 7, .inl (fun _ => 0))), (q2_, .inr (5, [.int 0, .ref q3_, .ref q4_])), (q3_, .inl (y 0, 7, .inl (fun _ => 0))), (q4_, .inl (y 0, 7, .inl (fun _ => 0))), (q6_, .inr (5, [.int 0, .ref q7_, .ref q8_])), (q7_, .inl (y 0, 7, .inl (fun _ => 0))), (q8_, .inl (y 0, 7, .inl (fun _ => 0))), (q10_, .inl (y 0, 2800, .inl (fun _ => 0))), (q11_, .inl (y 2, 4, .inl (fun _ => 0)))]) hx hb ht inlX1 tyX1 tyX1_ok nmX1 hown hK hS hW 0 rfl rfl 8 (by decide) zm_118 rfl hin rfl rfl rfl (Nat.le_of_ble_eq_true rfl) rfl dX1_init_66 (fun H locs hW hS => ?_)
  refine lv_aload_n hx hb dX1_init_69 rfl (lv_at hl 0 rfl) ?_
  refine lv_aload_n hx hb dX1_init_70 rfl (lv_at hl 1 rfl) ?_
  refine zputF (ws' := [(a0, .inr (1, [.ref a1, .int 0, .int 0, .ref q1_, .ref q2_, .ref q6_, .int 0, .ref q10_, .ref q11_])), (q1_, .inl (y 0, 7, .inl (fun _ => 0))), (q2_, .inr (5, [.int 0, .ref q3_, .ref q4_])), (q3_, .inl (y 0, 7, .inl (fun _ => 0))), (q4_, .inl (y 0, 7, .inl (fun _ => 0))), (q6_, .inr (5, [.int 0, .ref q7_, .ref q8_])), (q7_, .inl (y 0, 7, .inl (fun _ => 0))), (q8_, .inl (y 0, 7, .inl (fun _ => 0))), (q10_, .inl (y 0, 2800, .inl (fun _ => 0))), (q11_, .inl (y 2, 4, .inl (fun _ => 0)))]) hx hb ht inlX1 tyX1 tyX1_ok nmX1 hown hK hS hW 0 rfl rfl 0 (by decide) zm_119 rfl hin rfl rfl rfl (Nat.le_of_ble_eq_true rfl) rfl dX1_init_71 (fun H locs hW hS => ?_)
  exact zret_v hx hb hr hlocks hS (q1_, q2_, q6_, q10_, q11_, q3_, q4_, q7_, q8_) trivial hW (Nat.le_of_ble_eq_true rfl) (Nat.le_of_ble_eq_true rfl) dX1_init_74
set_option maxHeartbeats 8000000 in
set_option maxRecDepth 100000 in
theorem zc_X0_init_0 (l : Launch) (D : va_G) (y : Nat → ClassId) (a0 : Nat) : zM l D y yX0_init (Cond.code yX0_init cX0_init 1 none :: zT) { frames := 1, cells := 1, slots := 20, locals := 20 } [.ref a0] [(a0, .inr (0, [.null, .int 0, .int 0, .int 0, .int 0]))] (zQv (S := Nat) D (fun q1_ => True) (fun q1_ => [(a0, .inr (0, [.ref q1_, .int 0, .int 0, .int 0, .int 0])), (q1_, .inl (y 0, 20, .inl (fun _ => 0)))])) := by
  refine zent (cc := cX0_init) (maxL := 1) (ret := none) (by decide) (Nat.le_of_ble_eq_true rfl) ?_
  intro p e s m below meth c A H locs ls hx hb hml hr ht hown hlocks hin hA hK hE hS hW hl
  have hown : s.vm.findClass RX0 = some m.cls := hown
  have hW : zPD D A [(a0, .inr (0, [.null, .int 0, .int 0, .int 0, .int 0]))] H := hW
  have hl : lv_has ls 1 [(0, .ref a0)] := hl
  refine lv_aload_n hx hb dX0_init_0 rfl (lv_at hl 0 rfl) ?_
  refine W.objInit hx hb hown (ht _ zm_123) (ht _ zm_11) (ht _ zm_12) rfl (by rw [hml]; exact hl.1) rfl dX0_init_1 (Nat.le_of_ble_eq_true rfl) (Nat.le_of_ble_eq_true rfl) ?_
  refine W.eq (g2 := F0 m 4 ls []) rfl ?_
  refine lv_aload_n hx hb dX0_init_4 rfl (lv_at hl 0 rfl) ?_
  refine lv_bipush (v := 20) hx hb dX0_init_5 (by decide) ?_
  refine znewa (atype := .int) hx hb ht zm_43 0 rfl hK hS hW hA (20, .inl (fun _ => 0)) (fun _ => rfl) (by decide) rfl (Nat.le_of_ble_eq_true rfl) (Nat.le_of_ble_eq_true rfl) (Nat.le_of_ble_eq_true rfl) dX0_init_7 (fun q1_ H hW hS => ?_)
  have hW : zPD D A [(a0, .inr (0, [.null, .int 0, .int 0, .int 0, .int 0])), (q1_, .inl (y 0, 20, .inl (fun _ => 0)))] H := hW
  refine zputF (ws' := [(a0, .inr (0, [.ref q1_, .int 0, .int 0, .int 0, .int 0])), (q1_, .inl (y 0, 20, .inl (fun _ => 0)))]) hx hb ht inlX0 tyX0 tyX0_ok nmX0 hown hK hS hW 0 rfl rfl 0 (by decide) zm_124 rfl hin rfl rfl rfl (Nat.le_of_ble_eq_true rfl) rfl dX0_init_9 (fun H locs hW hS => ?_)
  refine lv_aload_n hx hb dX0_init_12 rfl (lv_at hl 0 rfl) ?_
  refine lv_iconst (v := 0) hx hb dX0_init_13 (by decide) ?_
  refine zput (ws' := [(a0, .inr (0, [.ref q1_, .int 0, .int 0, .int 0, .int 0])), (q1_, .inl (y 0, 20, .inl (fun _ => 0)))]) hx hb ht inlX0 tyX0 tyX0_ok nmX0 hown hK hS hW 0 rfl rfl 1 (by decide) zm_125 rfl rfl rfl (Nat.le_of_ble_eq_true rfl) rfl dX0_init_14 (fun H locs hW hS => ?_)
  refine lv_aload_n hx hb dX0_init_17 rfl (lv_at hl 0 rfl) ?_
  refine lv_iconst (v := 0) hx hb dX0_init_18 (by decide) ?_
  refine zput (ws' := [(a0, .inr (0, [.ref q1_, .int 0, .int 0, .int 0, .int 0])), (q1_, .inl (y 0, 20, .inl (fun _ => 0)))]) hx hb ht inlX0 tyX0 tyX0_ok nmX0 hown hK hS hW 0 rfl rfl 2 (by decide) zm_126 rfl rfl rfl (Nat.le_of_ble_eq_true rfl) rfl dX0_init_19 (fun H locs hW hS => ?_)
  refine lv_aload_n hx hb dX0_init_22 rfl (lv_at hl 0 rfl) ?_
  refine lv_iconst (v := 0) hx hb dX0_init_23 (by decide) ?_
  refine zput (ws' := [(a0, .inr (0, [.ref q1_, .int 0, .int 0, .int 0, .int 0])), (q1_, .inl (y 0, 20, .inl (fun _ => 0)))]) hx hb ht inlX0 tyX0 tyX0_ok nmX0 hown hK hS hW 0 rfl rfl 3 (by decide) zm_127 rfl rfl rfl (Nat.le_of_ble_eq_true rfl) rfl dX0_init_24 (fun H locs hW hS => ?_)
  refine lv_aload_n hx hb dX0_init_27 rfl (lv_at hl 0 rfl) ?_
  refine lv_iconst (v := 0) hx hb dX0_init_28 (by decide) ?_
  refine zput (ws' := [(a0, .inr (0, [.ref q1_, .int 0, .int 0, .int 0, .int 0])), (q1_, .inl (y 0, 20, .inl (fun _ => 0)))]) hx hb ht inlX0 tyX0 tyX0_ok nmX0 hown hK hS hW 0 rfl rfl 4 (by decide) zm_128 rfl rfl rfl (Nat.le_of_ble_eq_true rfl) rfl dX0_init_29 (fun H locs hW hS => ?_)
  exact zret_v hx hb hr hlocks hS q1_ trivial hW (Nat.le_of_ble_eq_true rfl) (Nat.le_of_ble_eq_true rfl) dX0_init_32
set_option maxHeartbeats 8000000 in
set_option maxRecDepth 100000 in
theorem zc_X8_init_0 (l : Launch) (D : va_G) (y : Nat → ClassId) (a0 : Nat) : zM l D y yX8_init (Cond.code yX8_init cX8_init 1 none :: zT) { frames := 1, cells := 1, slots := 60, locals := 20 } [.ref a0] [(a0, .inr (7, [.int 0, .int 0, .null]))] (zQv (S := Nat) D (fun q1_ => True) (fun q1_ => [(a0, .inr (7, [.int (-1), .int 0, .ref q1_])), (q1_, .inl (y 1, 60, .inr (.inl (fun _ => 0))))])) := by
  refine zent (cc := cX8_init) (maxL := 1) (ret := none) (by decide) (Nat.le_of_ble_eq_true rfl) ?_
  intro p e s m below meth c A H locs ls hx hb hml hr ht hown hlocks hin hA hK hE hS hW hl
  have hown : s.vm.findClass RX8 = some m.cls := hown
  have hW : zPD D A [(a0, .inr (7, [.int 0, .int 0, .null]))] H := hW
  have hl : lv_has ls 1 [(0, .ref a0)] := hl
  refine lv_aload_n hx hb dX8_init_0 rfl (lv_at hl 0 rfl) ?_
  refine W.objInit hx hb hown (ht _ zm_131) (ht _ zm_11) (ht _ zm_12) rfl (by rw [hml]; exact hl.1) rfl dX8_init_1 (Nat.le_of_ble_eq_true rfl) (Nat.le_of_ble_eq_true rfl) ?_
  refine W.eq (g2 := F0 m 4 ls []) rfl ?_
  refine lv_aload_n hx hb dX8_init_4 rfl (lv_at hl 0 rfl) ?_
  refine lv_iconst (v := (-1)) hx hb dX8_init_5 (by decide) ?_
  refine zput (ws' := [(a0, .inr (7, [.int (-1), .int 0, .null]))]) hx hb ht inlX8 tyX8 tyX8_ok nmX8 hown hK hS hW 0 rfl rfl 0 (by decide) zm_132 rfl rfl rfl (Nat.le_of_ble_eq_true rfl) rfl dX8_init_6 (fun H locs hW hS => ?_)
  refine lv_aload_n hx hb dX8_init_9 rfl (lv_at hl 0 rfl) ?_
  refine lv_iconst (v := 0) hx hb dX8_init_10 (by decide) ?_
  refine zput (ws' := [(a0, .inr (7, [.int (-1), .int 0, .null]))]) hx hb ht inlX8 tyX8 tyX8_ok nmX8 hown hK hS hW 0 rfl rfl 1 (by decide) zm_133 rfl rfl rfl (Nat.le_of_ble_eq_true rfl) rfl dX8_init_11 (fun H locs hW hS => ?_)
  refine lv_aload_n hx hb dX8_init_14 rfl (lv_at hl 0 rfl) ?_
  refine lv_bipush (v := 60) hx hb dX8_init_15 (by decide) ?_
  refine znewa (atype := .long) hx hb ht zm_134 1 rfl hK hS hW hA (60, .inr (.inl (fun _ => 0))) (fun _ => rfl) (by decide) rfl (Nat.le_of_ble_eq_true rfl) (Nat.le_of_ble_eq_true rfl) (Nat.le_of_ble_eq_true rfl) dX8_init_17 (fun q1_ H hW hS => ?_)
  have hW : zPD D A [(a0, .inr (7, [.int (-1), .int 0, .null])), (q1_, .inl (y 1, 60, .inr (.inl (fun _ => 0))))] H := hW
  refine zputF (ws' := [(a0, .inr (7, [.int (-1), .int 0, .ref q1_])), (q1_, .inl (y 1, 60, .inr (.inl (fun _ => 0))))]) hx hb ht inlX8 tyX8 tyX8_ok nmX8 hown hK hS hW 0 rfl rfl 2 (by decide) zm_135 rfl hin rfl rfl rfl (Nat.le_of_ble_eq_true rfl) rfl dX8_init_19 (fun H locs hW hS => ?_)
  exact zret_v hx hb hr hlocks hS q1_ trivial hW (Nat.le_of_ble_eq_true rfl) (Nat.le_of_ble_eq_true rfl) dX8_init_22

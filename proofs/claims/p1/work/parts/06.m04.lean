theorem dX10_begin_0 : decode cX10_begin 0 = .ok (.aload_n 0, 1) := by decide +kernel
theorem dX10_begin_1 : decode cX10_begin 1 = .ok (.iload_n 1, 1) := by decide +kernel
theorem dX10_begin_10 : decode cX10_begin 10 = .ok (.iconst (-1), 1) := by decide +kernel
theorem dX10_begin_11 : decode cX10_begin 11 = .ok (.ireturn, 1) := by decide +kernel
theorem dX10_begin_12 : decode cX10_begin 12 = .ok (.aload_n 0, 1) := by decide +kernel
theorem dX10_begin_13 : decode cX10_begin 13 = .ok (.getfield 19, 3) := by decide +kernel
theorem dX10_begin_16 : decode cX10_begin 16 = .ok (.istore_n 2, 1) := by decide +kernel
theorem dX10_begin_17 : decode cX10_begin 17 = .ok (.iconst 0, 1) := by decide +kernel
theorem dX10_begin_18 : decode cX10_begin 18 = .ok (.istore_n 3, 1) := by decide +kernel
theorem dX10_begin_19 : decode cX10_begin 19 = .ok (.iconst (-1), 1) := by decide +kernel
theorem dX10_begin_2 : decode cX10_begin 2 = .ok (.iconst 0, 1) := by decide +kernel
theorem dX10_begin_20 : decode cX10_begin 20 = .ok (.istore 4, 2) := by decide +kernel
theorem dX10_begin_22 : decode cX10_begin 22 = .ok (.aload_n 0, 1) := by decide +kernel
theorem dX10_begin_23 : decode cX10_begin 23 = .ok (.invokevirtual 341, 3) := by decide +kernel
theorem dX10_begin_26 : decode cX10_begin 26 = .ok (.aload_n 0, 1) := by decide +kernel
theorem dX10_begin_27 : decode cX10_begin 27 = .ok (.invokevirtual 366, 3) := by decide +kernel
theorem dX10_begin_3 : decode cX10_begin 3 = .ok (.iconst 1, 1) := by decide +kernel
theorem dX10_begin_30 : decode cX10_begin 30 = .ok (.aload_n 0, 1) := by decide +kernel
theorem dX10_begin_31 : decode cX10_begin 31 = .ok (.iconst 0, 1) := by decide +kernel
theorem dX10_begin_32 : decode cX10_begin 32 = .ok (.putfield 19, 3) := by decide +kernel
theorem dX10_begin_35 : decode cX10_begin 35 = .ok (.aload_n 0, 1) := by decide +kernel
theorem dX10_begin_36 : decode cX10_begin 36 = .ok (.getfield 19, 3) := by decide +kernel
theorem dX10_begin_39 : decode cX10_begin 39 = .ok (.bipush 100, 2) := by decide +kernel
theorem dX10_begin_4 : decode cX10_begin 4 = .ok (.invokevirtual 242, 3) := by decide +kernel
theorem dX10_begin_41 : decode cX10_begin 41 = .ok (.if_icmp .ge 42, 3) := by decide +kernel
theorem dX10_begin_44 : decode cX10_begin 44 = .ok (.aload_n 0, 1) := by decide +kernel
theorem dX10_begin_45 : decode cX10_begin 45 = .ok (.iconst 0, 1) := by decide +kernel
theorem dX10_begin_46 : decode cX10_begin 46 = .ok (.invokevirtual 369, 3) := by decide +kernel
theorem dX10_begin_49 : decode cX10_begin 49 = .ok (.istore 5, 2) := by decide +kernel
theorem dX10_begin_51 : decode cX10_begin 51 = .ok (.iload 5, 2) := by decide +kernel
theorem dX10_begin_53 : decode cX10_begin 53 = .ok (.iload 4, 2) := by decide +kernel
theorem dX10_begin_55 : decode cX10_begin 55 = .ok (.if_icmp .gt 6, 3) := by decide +kernel
theorem dX10_begin_58 : decode cX10_begin 58 = .ok (.goto 12, 3) := by decide +kernel
theorem dX10_begin_61 : decode cX10_begin 61 = .ok (.aload_n 0, 1) := by decide +kernel
theorem dX10_begin_62 : decode cX10_begin 62 = .ok (.getfield 19, 3) := by decide +kernel
theorem dX10_begin_65 : decode cX10_begin 65 = .ok (.istore_n 3, 1) := by decide +kernel
theorem dX10_begin_66 : decode cX10_begin 66 = .ok (.iload 5, 2) := by decide +kernel
theorem dX10_begin_68 : decode cX10_begin 68 = .ok (.istore 4, 2) := by decide +kernel
theorem dX10_begin_7 : decode cX10_begin 7 = .ok (.ifCond .ne 5, 3) := by decide +kernel
theorem dX10_begin_70 : decode cX10_begin 70 = .ok (.aload_n 0, 1) := by decide +kernel
theorem dX10_begin_71 : decode cX10_begin 71 = .ok (.dup, 1) := by decide +kernel
theorem dX10_begin_72 : decode cX10_begin 72 = .ok (.getfield 19, 3) := by decide +kernel
theorem dX10_begin_75 : decode cX10_begin 75 = .ok (.iconst 1, 1) := by decide +kernel
theorem dX10_begin_76 : decode cX10_begin 76 = .ok (.iadd, 1) := by decide +kernel
theorem dX10_begin_77 : decode cX10_begin 77 = .ok (.putfield 19, 3) := by decide +kernel
theorem dX10_begin_80 : decode cX10_begin 80 = .ok (.goto (-45), 3) := by decide +kernel
theorem dX10_begin_83 : decode cX10_begin 83 = .ok (.aload_n 0, 1) := by decide +kernel
theorem dX10_begin_84 : decode cX10_begin 84 = .ok (.iload_n 2, 1) := by decide +kernel
theorem dX10_begin_85 : decode cX10_begin 85 = .ok (.putfield 19, 3) := by decide +kernel
theorem dX10_begin_88 : decode cX10_begin 88 = .ok (.iload_n 1, 1) := by decide +kernel
theorem dX10_begin_89 : decode cX10_begin 89 = .ok (.ifCond .ne 7, 3) := by decide +kernel
theorem dX10_begin_92 : decode cX10_begin 92 = .ok (.iload_n 3, 1) := by decide +kernel
theorem dX10_begin_93 : decode cX10_begin 93 = .ok (.goto 5, 3) := by decide +kernel
theorem dX10_begin_96 : decode cX10_begin 96 = .ok (.iload 4, 2) := by decide +kernel
theorem dX10_begin_98 : decode cX10_begin 98 = .ok (.ireturn, 1) := by decide +kernel
theorem dX10_harmFrom_17 : decode cX10_harmFrom 17 = .ok (.iload_n 1, 1) := by decide +kernel
theorem dX10_see_0 : decode cX10_see 0 = .ok (.iload_n 1, 1) := by decide +kernel
theorem dX10_see_1 : decode cX10_see 1 = .ok (.iconst (-1), 1) := by decide +kernel
theorem dX10_see_10 : decode cX10_see 10 = .ok (.iconst 0, 1) := by decide +kernel
theorem dX10_see_11 : decode cX10_see 11 = .ok (.ireturn, 1) := by decide +kernel
theorem dX10_see_12 : decode cX10_see 12 = .ok (.aload_n 0, 1) := by decide +kernel
theorem dX10_see_13 : decode cX10_see 13 = .ok (.iload_n 1, 1) := by decide +kernel
theorem dX10_see_14 : decode cX10_see 14 = .ok (.invokevirtual 250, 3) := by decide +kernel
theorem dX10_see_17 : decode cX10_see 17 = .ok (.ifCond .ne 5, 3) := by decide +kernel
theorem dX10_see_2 : decode cX10_see 2 = .ok (.if_icmp .ne 10, 3) := by decide +kernel
theorem dX10_see_20 : decode cX10_see 20 = .ok (.iconst (-1), 1) := by decide +kernel
theorem dX10_see_21 : decode cX10_see 21 = .ok (.ireturn, 1) := by decide +kernel
theorem dX10_see_5 : decode cX10_see 5 = .ok (.aload_n 0, 1) := by decide +kernel
theorem dX10_see_6 : decode cX10_see 6 = .ok (.iconst 0, 1) := by decide +kernel
theorem dX10_see_7 : decode cX10_see 7 = .ok (.putfield 132, 3) := by decide +kernel
theorem dX10_sides_0 : decode cX10_sides 0 = .ok (.aload_n 0, 1) := by decide +kernel
theorem dX10_sides_1 : decode cX10_sides 1 = .ok (.iload_n 1, 1) := by decide +kernel
theorem dX10_sides_10 : decode cX10_sides 10 = .ok (.iconst (-1), 1) := by decide +kernel
theorem dX10_sides_11 : decode cX10_sides 11 = .ok (.ireturn, 1) := by decide +kernel
theorem dX10_sides_12 : decode cX10_sides 12 = .ok (.aload_n 0, 1) := by decide +kernel
theorem dX10_sides_13 : decode cX10_sides 13 = .ok (.getfield 22, 3) := by decide +kernel
theorem dX10_sides_16 : decode cX10_sides 16 = .ok (.istore_n 2, 1) := by decide +kernel
theorem dX10_sides_17 : decode cX10_sides 17 = .ok (.iconst 0, 1) := by decide +kernel
theorem dX10_sides_18 : decode cX10_sides 18 = .ok (.istore_n 3, 1) := by decide +kernel
theorem dX10_sides_19 : decode cX10_sides 19 = .ok (.iconst (-1), 1) := by decide +kernel
theorem dX10_sides_2 : decode cX10_sides 2 = .ok (.iconst 0, 1) := by decide +kernel
theorem dX10_sides_20 : decode cX10_sides 20 = .ok (.istore 4, 2) := by decide +kernel
theorem dX10_sides_22 : decode cX10_sides 22 = .ok (.aload_n 0, 1) := by decide +kernel
theorem dX10_sides_23 : decode cX10_sides 23 = .ok (.iconst 0, 1) := by decide +kernel
theorem dX10_sides_24 : decode cX10_sides 24 = .ok (.putfield 22, 3) := by decide +kernel
theorem dX10_sides_27 : decode cX10_sides 27 = .ok (.aload_n 0, 1) := by decide +kernel
theorem dX10_sides_28 : decode cX10_sides 28 = .ok (.getfield 22, 3) := by decide +kernel
theorem dX10_sides_3 : decode cX10_sides 3 = .ok (.iconst 1, 1) := by decide +kernel
theorem dX10_sides_31 : decode cX10_sides 31 = .ok (.iconst 4, 1) := by decide +kernel
theorem dX10_sides_32 : decode cX10_sides 32 = .ok (.if_icmp .ge 45, 3) := by decide +kernel
theorem dX10_sides_35 : decode cX10_sides 35 = .ok (.aload_n 0, 1) := by decide +kernel
theorem dX10_sides_36 : decode cX10_sides 36 = .ok (.invokevirtual 341, 3) := by decide +kernel
theorem dX10_sides_39 : decode cX10_sides 39 = .ok (.aload_n 0, 1) := by decide +kernel
theorem dX10_sides_4 : decode cX10_sides 4 = .ok (.invokevirtual 242, 3) := by decide +kernel
theorem dX10_sides_40 : decode cX10_sides 40 = .ok (.invokevirtual 384, 3) := by decide +kernel
theorem dX10_sides_43 : decode cX10_sides 43 = .ok (.istore 5, 2) := by decide +kernel
theorem dX10_sides_45 : decode cX10_sides 45 = .ok (.iload 5, 2) := by decide +kernel
theorem dX10_sides_47 : decode cX10_sides 47 = .ok (.iload 4, 2) := by decide +kernel
theorem dX10_sides_49 : decode cX10_sides 49 = .ok (.if_icmp .gt 6, 3) := by decide +kernel
theorem dX10_sides_52 : decode cX10_sides 52 = .ok (.goto 12, 3) := by decide +kernel
theorem dX10_sides_55 : decode cX10_sides 55 = .ok (.aload_n 0, 1) := by decide +kernel
theorem dX10_sides_56 : decode cX10_sides 56 = .ok (.getfield 22, 3) := by decide +kernel
theorem dX10_sides_59 : decode cX10_sides 59 = .ok (.istore_n 3, 1) := by decide +kernel
theorem dX10_sides_60 : decode cX10_sides 60 = .ok (.iload 5, 2) := by decide +kernel
theorem dX10_sides_62 : decode cX10_sides 62 = .ok (.istore 4, 2) := by decide +kernel
theorem dX10_sides_64 : decode cX10_sides 64 = .ok (.aload_n 0, 1) := by decide +kernel
theorem dX10_sides_65 : decode cX10_sides 65 = .ok (.dup, 1) := by decide +kernel
theorem dX10_sides_66 : decode cX10_sides 66 = .ok (.getfield 22, 3) := by decide +kernel
theorem dX10_sides_69 : decode cX10_sides 69 = .ok (.iconst 1, 1) := by decide +kernel
theorem dX10_sides_7 : decode cX10_sides 7 = .ok (.ifCond .ne 5, 3) := by decide +kernel
theorem dX10_sides_70 : decode cX10_sides 70 = .ok (.iadd, 1) := by decide +kernel
theorem dX10_sides_71 : decode cX10_sides 71 = .ok (.putfield 22, 3) := by decide +kernel
theorem dX10_sides_74 : decode cX10_sides 74 = .ok (.goto (-47), 3) := by decide +kernel
theorem dX10_sides_77 : decode cX10_sides 77 = .ok (.aload_n 0, 1) := by decide +kernel
theorem dX10_sides_78 : decode cX10_sides 78 = .ok (.iload_n 2, 1) := by decide +kernel
theorem dX10_sides_79 : decode cX10_sides 79 = .ok (.putfield 22, 3) := by decide +kernel
theorem dX10_sides_82 : decode cX10_sides 82 = .ok (.iload_n 1, 1) := by decide +kernel
theorem dX10_sides_83 : decode cX10_sides 83 = .ok (.ifCond .ne 7, 3) := by decide +kernel
theorem dX10_sides_86 : decode cX10_sides 86 = .ok (.iload_n 3, 1) := by decide +kernel
theorem dX10_sides_87 : decode cX10_sides 87 = .ok (.goto 5, 3) := by decide +kernel
theorem dX10_sides_90 : decode cX10_sides 90 = .ok (.iload 4, 2) := by decide +kernel
theorem dX10_sides_92 : decode cX10_sides 92 = .ok (.ireturn, 1) := by decide +kernel
theorem dX1_isAsSeen_0 : decode cX1_isAsSeen 0 = .ok (.iconst 0, 1) := by decide +kernel
theorem dX1_isAsSeen_1 : decode cX1_isAsSeen 1 = .ok (.istore_n 1, 1) := by decide +kernel
theorem dX1_isAsSeen_10 : decode cX1_isAsSeen 10 = .ok (.getfield 138, 3) := by decide +kernel
theorem dX1_isAsSeen_13 : decode cX1_isAsSeen 13 = .ok (.if_icmp .ge 55, 3) := by decide +kernel
theorem dX1_isAsSeen_2 : decode cX1_isAsSeen 2 = .ok (.iload_n 1, 1) := by decide +kernel
theorem dX1_isAsSeen_3 : decode cX1_isAsSeen 3 = .ok (.aload_n 0, 1) := by decide +kernel
theorem dX1_isAsSeen_4 : decode cX1_isAsSeen 4 = .ok (.getfield 44, 3) := by decide +kernel
theorem dX1_isAsSeen_68 : decode cX1_isAsSeen 68 = .ok (.iconst 1, 1) := by decide +kernel
theorem dX1_isAsSeen_69 : decode cX1_isAsSeen 69 = .ok (.ireturn, 1) := by decide +kernel
theorem dX1_isAsSeen_7 : decode cX1_isAsSeen 7 = .ok (.getfield 182, 3) := by decide +kernel
theorem dX9_appendTold_0 : decode cX9_appendTold 0 = .ok (.iload_n 2, 1) := by decide +kernel
theorem dX9_appendTold_1 : decode cX9_appendTold 1 = .ok (.iconst (-1), 1) := by decide +kernel
theorem dX9_appendTold_10 : decode cX9_appendTold 10 = .ok (.aload_n 0, 1) := by decide +kernel
theorem dX9_appendTold_11 : decode cX9_appendTold 11 = .ok (.getfield 31, 3) := by decide +kernel
theorem dX9_appendTold_14 : decode cX9_appendTold 14 = .ok (.iload_n 2, 1) := by decide +kernel
theorem dX9_appendTold_15 : decode cX9_appendTold 15 = .ok (.invokevirtual 92, 3) := by decide +kernel
theorem dX9_appendTold_18 : decode cX9_appendTold 18 = .ok (.ifCond .ne 5, 3) := by decide +kernel
theorem dX9_appendTold_2 : decode cX9_appendTold 2 = .ok (.if_icmp .ne 8, 3) := by decide +kernel
theorem dX9_appendTold_21 : decode cX9_appendTold 21 = .ok (.iconst (-1), 1) := by decide +kernel
theorem dX9_appendTold_22 : decode cX9_appendTold 22 = .ok (.ireturn, 1) := by decide +kernel
theorem dX9_appendTold_5 : decode cX9_appendTold 5 = .ok (.aload_n 1, 1) := by decide +kernel
theorem dX9_appendTold_6 : decode cX9_appendTold 6 = .ok (.invokevirtual 183, 3) := by decide +kernel
theorem dX9_appendTold_9 : decode cX9_appendTold 9 = .ok (.ireturn, 1) := by decide +kernel
theorem dX9_begin_0 : decode cX9_begin 0 = .ok (.iload_n 1, 1) := by decide +kernel
theorem dX9_begin_1 : decode cX9_begin 1 = .ok (.iconst 0, 1) := by decide +kernel
theorem dX9_begin_10 : decode cX9_begin 10 = .ok (.ireturn, 1) := by decide +kernel
theorem dX9_begin_11 : decode cX9_begin 11 = .ok (.aload_n 0, 1) := by decide +kernel
theorem dX9_begin_12 : decode cX9_begin 12 = .ok (.getfield 47, 3) := by decide +kernel
theorem dX9_begin_15 : decode cX9_begin 15 = .ok (.invokevirtual 127, 3) := by decide +kernel
theorem dX9_begin_18 : decode cX9_begin 18 = .ok (.aload_n 0, 1) := by decide +kernel
theorem dX9_begin_19 : decode cX9_begin 19 = .ok (.getfield 47, 3) := by decide +kernel
theorem dX9_begin_2 : decode cX9_begin 2 = .ok (.iconst 1, 1) := by decide +kernel
theorem dX9_begin_22 : decode cX9_begin 22 = .ok (.iconst 0, 1) := by decide +kernel
theorem dX9_begin_23 : decode cX9_begin 23 = .ok (.invokevirtual 199, 3) := by decide +kernel
theorem dX9_begin_26 : decode cX9_begin 26 = .ok (.pop, 1) := by decide +kernel
theorem dX9_begin_27 : decode cX9_begin 27 = .ok (.iconst 0, 1) := by decide +kernel
theorem dX9_begin_28 : decode cX9_begin 28 = .ok (.istore_n 2, 1) := by decide +kernel
theorem dX9_begin_29 : decode cX9_begin 29 = .ok (.iconst (-1), 1) := by decide +kernel
theorem dX9_begin_3 : decode cX9_begin 3 = .ok (.invokestatic 68, 3) := by decide +kernel
theorem dX9_begin_30 : decode cX9_begin 30 = .ok (.istore_n 3, 1) := by decide +kernel
theorem dX9_begin_31 : decode cX9_begin 31 = .ok (.iconst 0, 1) := by decide +kernel
theorem dX9_begin_32 : decode cX9_begin 32 = .ok (.istore 4, 2) := by decide +kernel
theorem dX9_begin_34 : decode cX9_begin 34 = .ok (.iload 4, 2) := by decide +kernel
theorem dX9_begin_36 : decode cX9_begin 36 = .ok (.bipush 99, 2) := by decide +kernel
theorem dX9_begin_38 : decode cX9_begin 38 = .ok (.if_icmp .gt 39, 3) := by decide +kernel
theorem dX9_begin_41 : decode cX9_begin 41 = .ok (.aload_n 0, 1) := by decide +kernel
theorem dX9_begin_42 : decode cX9_begin 42 = .ok (.getfield 47, 3) := by decide +kernel
theorem dX9_begin_45 : decode cX9_begin 45 = .ok (.iload 4, 2) := by decide +kernel
theorem dX9_begin_47 : decode cX9_begin 47 = .ok (.putfield 248, 3) := by decide +kernel
theorem dX9_begin_50 : decode cX9_begin 50 = .ok (.aload_n 0, 1) := by decide +kernel
theorem dX9_begin_51 : decode cX9_begin 51 = .ok (.getfield 47, 3) := by decide +kernel
theorem dX9_begin_54 : decode cX9_begin 54 = .ok (.invokevirtual 202, 3) := by decide +kernel
theorem dX9_begin_57 : decode cX9_begin 57 = .ok (.istore 5, 2) := by decide +kernel
theorem dX9_begin_59 : decode cX9_begin 59 = .ok (.iload 5, 2) := by decide +kernel
theorem dX9_begin_6 : decode cX9_begin 6 = .ok (.ifCond .ne 5, 3) := by decide +kernel
theorem dX9_begin_61 : decode cX9_begin 61 = .ok (.iload_n 3, 1) := by decide +kernel
theorem dX9_begin_62 : decode cX9_begin 62 = .ok (.if_icmp .le 9, 3) := by decide +kernel
theorem dX9_begin_65 : decode cX9_begin 65 = .ok (.iload 5, 2) := by decide +kernel
theorem dX9_begin_67 : decode cX9_begin 67 = .ok (.istore_n 3, 1) := by decide +kernel
theorem dX9_begin_68 : decode cX9_begin 68 = .ok (.iload 4, 2) := by decide +kernel
theorem dX9_begin_70 : decode cX9_begin 70 = .ok (.istore_n 2, 1) := by decide +kernel
theorem dX9_begin_71 : decode cX9_begin 71 = .ok (.iinc 4 1, 3) := by decide +kernel
theorem dX9_begin_74 : decode cX9_begin 74 = .ok (.goto (-40), 3) := by decide +kernel
theorem dX9_begin_77 : decode cX9_begin 77 = .ok (.iload_n 1, 1) := by decide +kernel
theorem dX9_begin_78 : decode cX9_begin 78 = .ok (.ifCond .ne 7, 3) := by decide +kernel
theorem dX9_begin_81 : decode cX9_begin 81 = .ok (.iload_n 2, 1) := by decide +kernel
theorem dX9_begin_82 : decode cX9_begin 82 = .ok (.goto 4, 3) := by decide +kernel
theorem dX9_begin_85 : decode cX9_begin 85 = .ok (.iload_n 3, 1) := by decide +kernel
theorem dX9_begin_86 : decode cX9_begin 86 = .ok (.ireturn, 1) := by decide +kernel
theorem dX9_begin_9 : decode cX9_begin 9 = .ok (.iconst (-1), 1) := by decide +kernel
theorem dX9_from_0 : decode cX9_from 0 = .ok (.aload_n 0, 1) := by decide +kernel
theorem dX9_from_1 : decode cX9_from 1 = .ok (.getfield 47, 3) := by decide +kernel
theorem dX9_from_10 : decode cX9_from 10 = .ok (.istore_n 2, 1) := by decide +kernel
theorem dX9_from_11 : decode cX9_from 11 = .ok (.iload_n 2, 1) := by decide +kernel
theorem dX9_from_12 : decode cX9_from 12 = .ok (.iconst 4, 1) := by decide +kernel
theorem dX9_from_13 : decode cX9_from 13 = .ok (.if_icmp .ge 33, 3) := by decide +kernel
theorem dX9_from_16 : decode cX9_from 16 = .ok (.aload_n 0, 1) := by decide +kernel
theorem dX9_from_17 : decode cX9_from 17 = .ok (.getfield 47, 3) := by decide +kernel
theorem dX9_from_20 : decode cX9_from 20 = .ok (.iload_n 2, 1) := by decide +kernel
theorem dX9_from_21 : decode cX9_from 21 = .ok (.invokevirtual 244, 3) := by decide +kernel
theorem dX9_from_24 : decode cX9_from 24 = .ok (.aload_n 0, 1) := by decide +kernel
theorem dX9_from_25 : decode cX9_from 25 = .ok (.getfield 47, 3) := by decide +kernel
theorem dX9_from_28 : decode cX9_from 28 = .ok (.invokevirtual 256, 3) := by decide +kernel
theorem dX9_from_31 : decode cX9_from 31 = .ok (.ifCond .eq 9, 3) := by decide +kernel
theorem dX9_from_34 : decode cX9_from 34 = .ok (.iload_n 1, 1) := by decide +kernel
theorem dX9_from_35 : decode cX9_from 35 = .ok (.iconst 1, 1) := by decide +kernel
theorem dX9_from_36 : decode cX9_from 36 = .ok (.iload_n 2, 1) := by decide +kernel
theorem dX9_from_37 : decode cX9_from 37 = .ok (.ishl, 1) := by decide +kernel
theorem dX9_from_38 : decode cX9_from 38 = .ok (.ior, 1) := by decide +kernel
theorem dX9_from_39 : decode cX9_from 39 = .ok (.istore_n 1, 1) := by decide +kernel
theorem dX9_from_4 : decode cX9_from 4 = .ok (.invokevirtual 127, 3) := by decide +kernel
theorem dX9_from_40 : decode cX9_from 40 = .ok (.iinc 2 1, 3) := by decide +kernel
theorem dX9_from_43 : decode cX9_from 43 = .ok (.goto (-32), 3) := by decide +kernel
theorem dX9_from_46 : decode cX9_from 46 = .ok (.iload_n 1, 1) := by decide +kernel
theorem dX9_from_47 : decode cX9_from 47 = .ok (.ireturn, 1) := by decide +kernel
theorem dX9_from_7 : decode cX9_from 7 = .ok (.iconst 0, 1) := by decide +kernel
theorem dX9_from_8 : decode cX9_from 8 = .ok (.istore_n 1, 1) := by decide +kernel
theorem dX9_from_9 : decode cX9_from 9 = .ok (.iconst 0, 1) := by decide +kernel
theorem dX9_see_0 : decode cX9_see 0 = .ok (.aload_n 0, 1) := by decide +kernel
theorem dX9_see_1 : decode cX9_see 1 = .ok (.aload_n 0, 1) := by decide +kernel
theorem dX9_see_10 : decode cX9_see 10 = .ok (.invokevirtual 252, 3) := by decide +kernel
theorem dX9_see_13 : decode cX9_see 13 = .ok (.ireturn, 1) := by decide +kernel
theorem dX9_see_2 : decode cX9_see 2 = .ok (.getfield 31, 3) := by decide +kernel
theorem dX9_see_5 : decode cX9_see 5 = .ok (.getfield 249, 3) := by decide +kernel
theorem dX9_see_8 : decode cX9_see 8 = .ok (.iload_n 1, 1) := by decide +kernel
theorem dX9_see_9 : decode cX9_see 9 = .ok (.iload_n 2, 1) := by decide +kernel
set_option maxHeartbeats 8000000 in
set_option maxRecDepth 100000 in
theorem zc_X10_layOpen_3 (l : Launch) (D : va_G) (y : Nat → ClassId) (a0 : Nat) (w1 : Value) (w2 : Value) (w3 : Value) (w4 : Value) (w5 : Value) (w6 : Value) (w7 : Value) (w8 : Value) (w9 : Value) (w10 : Value) (w11 : Value) (w12 : Value) (w13 : Value) (a14 : Nat) (w15 : Value) (w16 : Value) (w17 : Value) (w18 : Value) (w19 : Value) (w20 : Value) (w21 : Value) (w22 : Value) (w23 : Value) (w24 : Value) (w25 : Value) (w26 : Value) (w27 : Value) (w28 : Value) (w29 : Value) (w30 : Value) (w31 : Value) (w32 : Value) (w33 : Value) (w34 : Value) (a35 : Nat) (w36 : Value) (w37 : Value) (w38 : Value) (w39 : Value) (w40 : Value) (w41 : Value) (w42 : Value) (w43 : Value) (w44 : Value) (w45 : Value) (w46 : Value) (w47 : Value) (w48 : Value) (w49 : Value) (w50 : Value) (w51 : Value) (w52 : Value) (w53 : Value) (w54 : Value) (w55 : Value) (w56 : Value) (w57 : Value) (w58 : Value) (w59 : Value) (w60 : Value) (w61 : Value) (w62 : Value) (w63 : Value) (w64 : Value) (w65 : Value) (w66 : Value) (w67 : Value) (w68 : Value) (w69 : Value) (w70 : Value) (w71 : Value) (w72 : Value) (w73 : Value) (w74 : Value) (w75 : Value) (w76 : Value) : zM l D y yX10_layOpen (Cond.code yX10_layOpen cX10_layOpen 2 none :: zT) { frames := 0, cells := 0, slots := 0, locals := 0 } [.ref a0] [(a0, .inr (9, [w1, w2, w3, w4, w5, w6, w7, w8, w9, w10, w11, w12, w13, .ref a14, w15, w16, w17, w18, w19, w20, w21, w22, w23, w24, w25, w26, w27, w28, w29, w30, w31, w32, w33, w34, .ref a35, w36, w37, w38, w39, w40, w41, w42, w43, w44, w45, w46, w47, w48, w49, w50, w51, w52, w53, w54, w55, w56, w57, w58, w59, w60, w61, w62, w63, w64, w65, w66, w67, w68, w69, w70, w71, w72, w73, w74, w75, w76])), (a14, .inl (y 2, 7, .inl (fun _ => 0))), (a35, .inl (y 0, 7, .inl (upd (upd (upd (upd (upd (upd (upd (upd (upd (upd (upd (upd (upd (upd (upd (upd (upd (upd (upd (upd (upd (fun _ => 0) 0 99999) 1 99999) 2 99999) 3 99999) 4 99999) 5 99999) 6 99999) 0 99999) 1 99999) 2 99999) 3 99999) 4 99999) 5 99999) 6 99999) 0 99999) 1 99999) 2 99999) 3 99999) 4 99999) 5 99999) 6 99999)))] (zQv (S := Unit) D (fun _ => True) (fun _ => [(a0, .inr (9, [w1, w2, w3, w4, w5, w6, w7, w8, w9, w10, w11, w12, w13, .ref a14, w15, w16, w17, w18, w19, w20, w21, w22, w23, w24, w25, w26, w27, w28, w29, w30, w31, w32, w33, w34, .ref a35, w36, w37, w38, w39, w40, w41, w42, w43, w44, w45, w46, w47, w48, w49, w50, w51, w52, w53, w54, w55, w56, w57, w58, w59, w60, w61, w62, w63, w64, w65, w66, w67, w68, w69, w70, w71, w72, w73, w74, w75, w76])), (a14, .inl (y 2, 7, .inl (fun _ => 0))), (a35, .inl (y 0, 7, .inl (upd (upd (upd (upd (upd (upd (upd (upd (upd (upd (upd (upd (upd (upd (upd (upd (upd (upd (upd (upd (upd (upd (upd (upd (upd (upd (upd (upd (fun _ => 0) 0 99999) 1 99999) 2 99999) 3 99999) 4 99999) 5 99999) 6 99999) 0 99999) 1 99999) 2 99999) 3 99999) 4 99999) 5 99999) 6 99999) 0 99999) 1 99999) 2 99999) 3 99999) 4 99999) 5 99999) 6 99999) 0 99999) 1 99999) 2 99999) 3 99999) 4 99999) 5 99999) 6 99999)))])) := by
  refine zent (cc := cX10_layOpen) (maxL := 2) (ret := none) (by decide) (Nat.le_of_ble_eq_true rfl) ?_
  intro p e s m below meth c A H locs ls hx hb hml hr ht hown hlocks hin hA hK hE hS hW hl
  have hown : s.vm.findClass RX10 = some m.cls := hown
  have hW : zPD D A [(a0, .inr (9, [w1, w2, w3, w4, w5, w6, w7, w8, w9, w10, w11, w12, w13, .ref a14, w15, w16, w17, w18, w19, w20, w21, w22, w23, w24, w25, w26, w27, w28, w29, w30, w31, w32, w33, w34, .ref a35, w36, w37, w38, w39, w40, w41, w42, w43, w44, w45, w46, w47, w48, w49, w50, w51, w52, w53, w54, w55, w56, w57, w58, w59, w60, w61, w62, w63, w64, w65, w66, w67, w68, w69, w70, w71, w72, w73, w74, w75, w76])), (a14, .inl (y 2, 7, .inl (fun _ => 0))), (a35, .inl (y 0, 7, .inl (upd (upd (upd (upd (upd (upd (upd (upd (upd (upd (upd (upd (upd (upd (upd (upd (upd (upd (upd (upd (upd (fun _ => 0) 0 99999) 1 99999) 2 99999) 3 99999) 4 99999) 5 99999) 6 99999) 0 99999) 1 99999) 2 99999) 3 99999) 4 99999) 5 99999) 6 99999) 0 99999) 1 99999) 2 99999) 3 99999) 4 99999) 5 99999) 6 99999)))] H := hW
  have hl : lv_has ls 2 [(0, .ref a0)] := hl
  refine lv_iconst (v := 0) hx hb dX10_layOpen_0 (by decide) ?_
  refine lv_istore_n (lv' := [(1, .int 0), (0, .ref a0)]) hx hb dX10_layOpen_1 rfl hl (by decide) rfl (fun ls hl => ?_)
  refine lv_iload_n hx hb dX10_layOpen_2 rfl (lv_at hl 0 rfl) ?_
  refine lv_bipush (v := 7) hx hb dX10_layOpen_3 (by decide) ?_
  refine lv_icmp_ge (tgt := 36) hx hb dX10_layOpen_5 (by decide) (fun c1_ => absurd c1_ (by decide)) (fun c1_ => ?_)
  refine lv_aload_n hx hb dX10_layOpen_8 rfl (lv_at hl 1 rfl) ?_
  refine zget hx hb ht inlX10 hown hK hW 0 rfl rfl 34 (by decide) zm_174 rfl dX10_layOpen_9 ?_
  refine lv_iload_n hx hb dX10_layOpen_12 rfl (lv_at hl 0 rfl) ?_
  refine lv_aload_n hx hb dX10_layOpen_13 rfl (lv_at hl 1 rfl) ?_
  refine zget hx hb ht inlX10 hown hK hW 0 rfl rfl 13 (by decide) zm_153 rfl dX10_layOpen_14 ?_
  refine lv_iload_n hx hb dX10_layOpen_17 rfl (lv_at hl 0 rfl) ?_
  refine zzald (v := 0) hx hb hK hW 1 rfl (by unfold vp_in; decide) rfl dX10_layOpen_18 ?_
  refine lv_if_eq (tgt := 26) hx hb dX10_layOpen_19 (by decide) (fun c2_ => ?_) (fun c2_ => absurd (by decide) c2_)
  refine lv_ldcw (v := 99999) hx hb hown (ht _ zm_401) dX10_layOpen_26 ?_
  refine ziast (ws' := [(a0, .inr (9, [w1, w2, w3, w4, w5, w6, w7, w8, w9, w10, w11, w12, w13, .ref a14, w15, w16, w17, w18, w19, w20, w21, w22, w23, w24, w25, w26, w27, w28, w29, w30, w31, w32, w33, w34, .ref a35, w36, w37, w38, w39, w40, w41, w42, w43, w44, w45, w46, w47, w48, w49, w50, w51, w52, w53, w54, w55, w56, w57, w58, w59, w60, w61, w62, w63, w64, w65, w66, w67, w68, w69, w70, w71, w72, w73, w74, w75, w76])), (a14, .inl (y 2, 7, .inl (fun _ => 0))), (a35, .inl (y 0, 7, .inl (upd (upd (upd (upd (upd (upd (upd (upd (upd (upd (upd (upd (upd (upd (upd (upd (upd (upd (upd (upd (upd (upd (fun _ => 0) 0 99999) 1 99999) 2 99999) 3 99999) 4 99999) 5 99999) 6 99999) 0 99999) 1 99999) 2 99999) 3 99999) 4 99999) 5 99999) 6 99999) 0 99999) 1 99999) 2 99999) 3 99999) 4 99999) 5 99999) 6 99999) 0 99999)))]) hx hb hK hS hW 2 rfl (by unfold vp_in; decide) rfl rfl dX10_layOpen_29 (fun H locs hW hS => ?_)
  refine lv_iinc (k := 0) (v := 1) (lv' := [(1, .int 1), (0, .ref a0)]) hx hb dX10_layOpen_30 hl rfl (by decide) (by decide) rfl (fun ls hl => ?_)
  refine lv_goto (tgt := 2) hx hb dX10_layOpen_33 (by decide) ?_
  refine lv_iload_n hx hb dX10_layOpen_2 rfl (lv_at hl 0 rfl) ?_
  refine lv_bipush (v := 7) hx hb dX10_layOpen_3 (by decide) ?_
  refine lv_icmp_ge (tgt := 36) hx hb dX10_layOpen_5 (by decide) (fun c3_ => absurd c3_ (by decide)) (fun c3_ => ?_)
  refine lv_aload_n hx hb dX10_layOpen_8 rfl (lv_at hl 1 rfl) ?_
  refine zget hx hb ht inlX10 hown hK hW 0 rfl rfl 34 (by decide) zm_174 rfl dX10_layOpen_9 ?_
  refine lv_iload_n hx hb dX10_layOpen_12 rfl (lv_at hl 0 rfl) ?_
  refine lv_aload_n hx hb dX10_layOpen_13 rfl (lv_at hl 1 rfl) ?_
  refine zget hx hb ht inlX10 hown hK hW 0 rfl rfl 13 (by decide) zm_153 rfl dX10_layOpen_14 ?_
  refine lv_iload_n hx hb dX10_layOpen_17 rfl (lv_at hl 0 rfl) ?_
  refine zzald (v := 0) hx hb hK hW 1 rfl (by unfold vp_in; decide) rfl dX10_layOpen_18 ?_
  refine lv_if_eq (tgt := 26) hx hb dX10_layOpen_19 (by decide) (fun c4_ => ?_) (fun c4_ => absurd (by decide) c4_)
  refine lv_ldcw (v := 99999) hx hb hown (ht _ zm_401) dX10_layOpen_26 ?_
  refine ziast (ws' := [(a0, .inr (9, [w1, w2, w3, w4, w5, w6, w7, w8, w9, w10, w11, w12, w13, .ref a14, w15, w16, w17, w18, w19, w20, w21, w22, w23, w24, w25, w26, w27, w28, w29, w30, w31, w32, w33, w34, .ref a35, w36, w37, w38, w39, w40, w41, w42, w43, w44, w45, w46, w47, w48, w49, w50, w51, w52, w53, w54, w55, w56, w57, w58, w59, w60, w61, w62, w63, w64, w65, w66, w67, w68, w69, w70, w71, w72, w73, w74, w75, w76])), (a14, .inl (y 2, 7, .inl (fun _ => 0))), (a35, .inl (y 0, 7, .inl (upd (upd (upd (upd (upd (upd (upd (upd (upd (upd (upd (upd (upd (upd (upd (upd (upd (upd (upd (upd (upd (upd (upd (fun _ => 0) 0 99999) 1 99999) 2 99999) 3 99999) 4 99999) 5 99999) 6 99999) 0 99999) 1 99999) 2 99999) 3 99999) 4 99999) 5 99999) 6 99999) 0 99999) 1 99999) 2 99999) 3 99999) 4 99999) 5 99999) 6 99999) 0 99999) 1 99999)))]) hx hb hK hS hW 2 rfl (by unfold vp_in; decide) rfl rfl dX10_layOpen_29 (fun H locs hW hS => ?_)
  refine lv_iinc (k := 0) (v := 2) (lv' := [(1, .int 2), (0, .ref a0)]) hx hb dX10_layOpen_30 hl rfl (by decide) (by decide) rfl (fun ls hl => ?_)
  refine lv_goto (tgt := 2) hx hb dX10_layOpen_33 (by decide) ?_
  refine lv_iload_n hx hb dX10_layOpen_2 rfl (lv_at hl 0 rfl) ?_
  refine lv_bipush (v := 7) hx hb dX10_layOpen_3 (by decide) ?_
  refine lv_icmp_ge (tgt := 36) hx hb dX10_layOpen_5 (by decide) (fun c5_ => absurd c5_ (by decide)) (fun c5_ => ?_)
  refine lv_aload_n hx hb dX10_layOpen_8 rfl (lv_at hl 1 rfl) ?_
  refine zget hx hb ht inlX10 hown hK hW 0 rfl rfl 34 (by decide) zm_174 rfl dX10_layOpen_9 ?_
  refine lv_iload_n hx hb dX10_layOpen_12 rfl (lv_at hl 0 rfl) ?_
  refine lv_aload_n hx hb dX10_layOpen_13 rfl (lv_at hl 1 rfl) ?_
  refine zget hx hb ht inlX10 hown hK hW 0 rfl rfl 13 (by decide) zm_153 rfl dX10_layOpen_14 ?_
  refine lv_iload_n hx hb dX10_layOpen_17 rfl (lv_at hl 0 rfl) ?_
  refine zzald (v := 0) hx hb hK hW 1 rfl (by unfold vp_in; decide) rfl dX10_layOpen_18 ?_
  refine lv_if_eq (tgt := 26) hx hb dX10_layOpen_19 (by decide) (fun c6_ => ?_) (fun c6_ => absurd (by decide) c6_)
  refine lv_ldcw (v := 99999) hx hb hown (ht _ zm_401) dX10_layOpen_26 ?_
  refine ziast (ws' := [(a0, .inr (9, [w1, w2, w3, w4, w5, w6, w7, w8, w9, w10, w11, w12, w13, .ref a14, w15, w16, w17, w18, w19, w20, w21, w22, w23, w24, w25, w26, w27, w28, w29, w30, w31, w32, w33, w34, .ref a35, w36, w37, w38, w39, w40, w41, w42, w43, w44, w45, w46, w47, w48, w49, w50, w51, w52, w53, w54, w55, w56, w57, w58, w59, w60, w61, w62, w63, w64, w65, w66, w67, w68, w69, w70, w71, w72, w73, w74, w75, w76])), (a14, .inl (y 2, 7, .inl (fun _ => 0))), (a35, .inl (y 0, 7, .inl (upd (upd (upd (upd (upd (upd (upd (upd (upd (upd (upd (upd (upd (upd (upd (upd (upd (upd (upd (upd (upd (upd (upd (upd (fun _ => 0) 0 99999) 1 99999) 2 99999) 3 99999) 4 99999) 5 99999) 6 99999) 0 99999) 1 99999) 2 99999) 3 99999) 4 99999) 5 99999) 6 99999) 0 99999) 1 99999) 2 99999) 3 99999) 4 99999) 5 99999) 6 99999) 0 99999) 1 99999) 2 99999)))]) hx hb hK hS hW 2 rfl (by unfold vp_in; decide) rfl rfl dX10_layOpen_29 (fun H locs hW hS => ?_)
  refine lv_iinc (k := 0) (v := 3) (lv' := [(1, .int 3), (0, .ref a0)]) hx hb dX10_layOpen_30 hl rfl (by decide) (by decide) rfl (fun ls hl => ?_)
  refine lv_goto (tgt := 2) hx hb dX10_layOpen_33 (by decide) ?_
  refine lv_iload_n hx hb dX10_layOpen_2 rfl (lv_at hl 0 rfl) ?_
  refine lv_bipush (v := 7) hx hb dX10_layOpen_3 (by decide) ?_
  refine lv_icmp_ge (tgt := 36) hx hb dX10_layOpen_5 (by decide) (fun c7_ => absurd c7_ (by decide)) (fun c7_ => ?_)
  refine lv_aload_n hx hb dX10_layOpen_8 rfl (lv_at hl 1 rfl) ?_
  refine zget hx hb ht inlX10 hown hK hW 0 rfl rfl 34 (by decide) zm_174 rfl dX10_layOpen_9 ?_
  refine lv_iload_n hx hb dX10_layOpen_12 rfl (lv_at hl 0 rfl) ?_
  refine lv_aload_n hx hb dX10_layOpen_13 rfl (lv_at hl 1 rfl) ?_
  refine zget hx hb ht inlX10 hown hK hW 0 rfl rfl 13 (by decide) zm_153 rfl dX10_layOpen_14 ?_
  refine lv_iload_n hx hb dX10_layOpen_17 rfl (lv_at hl 0 rfl) ?_
  refine zzald (v := 0) hx hb hK hW 1 rfl (by unfold vp_in; decide) rfl dX10_layOpen_18 ?_
  refine lv_if_eq (tgt := 26) hx hb dX10_layOpen_19 (by decide) (fun c8_ => ?_) (fun c8_ => absurd (by decide) c8_)
  refine lv_ldcw (v := 99999) hx hb hown (ht _ zm_401) dX10_layOpen_26 ?_
  refine ziast (ws' := [(a0, .inr (9, [w1, w2, w3, w4, w5, w6, w7, w8, w9, w10, w11, w12, w13, .ref a14, w15, w16, w17, w18, w19, w20, w21, w22, w23, w24, w25, w26, w27, w28, w29, w30, w31, w32, w33, w34, .ref a35, w36, w37, w38, w39, w40, w41, w42, w43, w44, w45, w46, w47, w48, w49, w50, w51, w52, w53, w54, w55, w56, w57, w58, w59, w60, w61, w62, w63, w64, w65, w66, w67, w68, w69, w70, w71, w72, w73, w74, w75, w76])), (a14, .inl (y 2, 7, .inl (fun _ => 0))), (a35, .inl (y 0, 7, .inl (upd (upd (upd (upd (upd (upd (upd (upd (upd (upd (upd (upd (upd (upd (upd (upd (upd (upd (upd (upd (upd (upd (upd (upd (upd (fun _ => 0) 0 99999) 1 99999) 2 99999) 3 99999) 4 99999) 5 99999) 6 99999) 0 99999) 1 99999) 2 99999) 3 99999) 4 99999) 5 99999) 6 99999) 0 99999) 1 99999) 2 99999) 3 99999) 4 99999) 5 99999) 6 99999) 0 99999) 1 99999) 2 99999) 3 99999)))]) hx hb hK hS hW 2 rfl (by unfold vp_in; decide) rfl rfl dX10_layOpen_29 (fun H locs hW hS => ?_)
  refine lv_iinc (k := 0) (v := 4) (lv' := [(1, .int 4), (0, .ref a0)]) hx hb dX10_layOpen_30 hl rfl (by decide) (by decide) rfl (fun ls hl => ?_)
  refine lv_goto (tgt := 2) hx hb dX10_layOpen_33 (by decide) ?_
  refine lv_iload_n hx hb dX10_layOpen_2 rfl (lv_at hl 0 rfl) ?_
  refine lv_bipush (v := 7) hx hb dX10_layOpen_3 (by decide) ?_
  refine lv_icmp_ge (tgt := 36) hx hb dX10_layOpen_5 (by decide) (fun c9_ => absurd c9_ (by decide)) (fun c9_ => ?_)
  refine lv_aload_n hx hb dX10_layOpen_8 rfl (lv_at hl 1 rfl) ?_
  refine zget hx hb ht inlX10 hown hK hW 0 rfl rfl 34 (by decide) zm_174 rfl dX10_layOpen_9 ?_
  refine lv_iload_n hx hb dX10_layOpen_12 rfl (lv_at hl 0 rfl) ?_
  refine lv_aload_n hx hb dX10_layOpen_13 rfl (lv_at hl 1 rfl) ?_
  refine zget hx hb ht inlX10 hown hK hW 0 rfl rfl 13 (by decide) zm_153 rfl dX10_layOpen_14 ?_
  refine lv_iload_n hx hb dX10_layOpen_17 rfl (lv_at hl 0 rfl) ?_
  refine zzald (v := 0) hx hb hK hW 1 rfl (by unfold vp_in; decide) rfl dX10_layOpen_18 ?_
  refine lv_if_eq (tgt := 26) hx hb dX10_layOpen_19 (by decide) (fun c10_ => ?_) (fun c10_ => absurd (by decide) c10_)
  refine lv_ldcw (v := 99999) hx hb hown (ht _ zm_401) dX10_layOpen_26 ?_
  refine ziast (ws' := [(a0, .inr (9, [w1, w2, w3, w4, w5, w6, w7, w8, w9, w10, w11, w12, w13, .ref a14, w15, w16, w17, w18, w19, w20, w21, w22, w23, w24, w25, w26, w27, w28, w29, w30, w31, w32, w33, w34, .ref a35, w36, w37, w38, w39, w40, w41, w42, w43, w44, w45, w46, w47, w48, w49, w50, w51, w52, w53, w54, w55, w56, w57, w58, w59, w60, w61, w62, w63, w64, w65, w66, w67, w68, w69, w70, w71, w72, w73, w74, w75, w76])), (a14, .inl (y 2, 7, .inl (fun _ => 0))), (a35, .inl (y 0, 7, .inl (upd (upd (upd (upd (upd (upd (upd (upd (upd (upd (upd (upd (upd (upd (upd (upd (upd (upd (upd (upd (upd (upd (upd (upd (upd (upd (fun _ => 0) 0 99999) 1 99999) 2 99999) 3 99999) 4 99999) 5 99999) 6 99999) 0 99999) 1 99999) 2 99999) 3 99999) 4 99999) 5 99999) 6 99999) 0 99999) 1 99999) 2 99999) 3 99999) 4 99999) 5 99999) 6 99999) 0 99999) 1 99999) 2 99999) 3 99999) 4 99999)))]) hx hb hK hS hW 2 rfl (by unfold vp_in; decide) rfl rfl dX10_layOpen_29 (fun H locs hW hS => ?_)
  refine lv_iinc (k := 0) (v := 5) (lv' := [(1, .int 5), (0, .ref a0)]) hx hb dX10_layOpen_30 hl rfl (by decide) (by decide) rfl (fun ls hl => ?_)
  refine lv_goto (tgt := 2) hx hb dX10_layOpen_33 (by decide) ?_
  refine lv_iload_n hx hb dX10_layOpen_2 rfl (lv_at hl 0 rfl) ?_
  refine lv_bipush (v := 7) hx hb dX10_layOpen_3 (by decide) ?_
  refine lv_icmp_ge (tgt := 36) hx hb dX10_layOpen_5 (by decide) (fun c11_ => absurd c11_ (by decide)) (fun c11_ => ?_)
  refine lv_aload_n hx hb dX10_layOpen_8 rfl (lv_at hl 1 rfl) ?_
  refine zget hx hb ht inlX10 hown hK hW 0 rfl rfl 34 (by decide) zm_174 rfl dX10_layOpen_9 ?_
  refine lv_iload_n hx hb dX10_layOpen_12 rfl (lv_at hl 0 rfl) ?_
  refine lv_aload_n hx hb dX10_layOpen_13 rfl (lv_at hl 1 rfl) ?_
  refine zget hx hb ht inlX10 hown hK hW 0 rfl rfl 13 (by decide) zm_153 rfl dX10_layOpen_14 ?_
  refine lv_iload_n hx hb dX10_layOpen_17 rfl (lv_at hl 0 rfl) ?_
  refine zzald (v := 0) hx hb hK hW 1 rfl (by unfold vp_in; decide) rfl dX10_layOpen_18 ?_
  refine lv_if_eq (tgt := 26) hx hb dX10_layOpen_19 (by decide) (fun c12_ => ?_) (fun c12_ => absurd (by decide) c12_)
  refine lv_ldcw (v := 99999) hx hb hown (ht _ zm_401) dX10_layOpen_26 ?_
  refine ziast (ws' := [(a0, .inr (9, [w1, w2, w3, w4, w5, w6, w7, w8, w9, w10, w11, w12, w13, .ref a14, w15, w16, w17, w18, w19, w20, w21, w22, w23, w24, w25, w26, w27, w28, w29, w30, w31, w32, w33, w34, .ref a35, w36, w37, w38, w39, w40, w41, w42, w43, w44, w45, w46, w47, w48, w49, w50, w51, w52, w53, w54, w55, w56, w57, w58, w59, w60, w61, w62, w63, w64, w65, w66, w67, w68, w69, w70, w71, w72, w73, w74, w75, w76])), (a14, .inl (y 2, 7, .inl (fun _ => 0))), (a35, .inl (y 0, 7, .inl (upd (upd (upd (upd (upd (upd (upd (upd (upd (upd (upd (upd (upd (upd (upd (upd (upd (upd (upd (upd (upd (upd (upd (upd (upd (upd (upd (fun _ => 0) 0 99999) 1 99999) 2 99999) 3 99999) 4 99999) 5 99999) 6 99999) 0 99999) 1 99999) 2 99999) 3 99999) 4 99999) 5 99999) 6 99999) 0 99999) 1 99999) 2 99999) 3 99999) 4 99999) 5 99999) 6 99999) 0 99999) 1 99999) 2 99999) 3 99999) 4 99999) 5 99999)))]) hx hb hK hS hW 2 rfl (by unfold vp_in; decide) rfl rfl dX10_layOpen_29 (fun H locs hW hS => ?_)
  refine lv_iinc (k := 0) (v := 6) (lv' := [(1, .int 6), (0, .ref a0)]) hx hb dX10_layOpen_30 hl rfl (by decide) (by decide) rfl (fun ls hl => ?_)
  refine lv_goto (tgt := 2) hx hb dX10_layOpen_33 (by decide) ?_
  refine lv_iload_n hx hb dX10_layOpen_2 rfl (lv_at hl 0 rfl) ?_
  refine lv_bipush (v := 7) hx hb dX10_layOpen_3 (by decide) ?_
  refine lv_icmp_ge (tgt := 36) hx hb dX10_layOpen_5 (by decide) (fun c13_ => absurd c13_ (by decide)) (fun c13_ => ?_)
  refine lv_aload_n hx hb dX10_layOpen_8 rfl (lv_at hl 1 rfl) ?_
  refine zget hx hb ht inlX10 hown hK hW 0 rfl rfl 34 (by decide) zm_174 rfl dX10_layOpen_9 ?_
  refine lv_iload_n hx hb dX10_layOpen_12 rfl (lv_at hl 0 rfl) ?_
  refine lv_aload_n hx hb dX10_layOpen_13 rfl (lv_at hl 1 rfl) ?_
  refine zget hx hb ht inlX10 hown hK hW 0 rfl rfl 13 (by decide) zm_153 rfl dX10_layOpen_14 ?_
  refine lv_iload_n hx hb dX10_layOpen_17 rfl (lv_at hl 0 rfl) ?_
  refine zzald (v := 0) hx hb hK hW 1 rfl (by unfold vp_in; decide) rfl dX10_layOpen_18 ?_
  refine lv_if_eq (tgt := 26) hx hb dX10_layOpen_19 (by decide) (fun c14_ => ?_) (fun c14_ => absurd (by decide) c14_)
  refine lv_ldcw (v := 99999) hx hb hown (ht _ zm_401) dX10_layOpen_26 ?_
  refine ziast (ws' := [(a0, .inr (9, [w1, w2, w3, w4, w5, w6, w7, w8, w9, w10, w11, w12, w13, .ref a14, w15, w16, w17, w18, w19, w20, w21, w22, w23, w24, w25, w26, w27, w28, w29, w30, w31, w32, w33, w34, .ref a35, w36, w37, w38, w39, w40, w41, w42, w43, w44, w45, w46, w47, w48, w49, w50, w51, w52, w53, w54, w55, w56, w57, w58, w59, w60, w61, w62, w63, w64, w65, w66, w67, w68, w69, w70, w71, w72, w73, w74, w75, w76])), (a14, .inl (y 2, 7, .inl (fun _ => 0))), (a35, .inl (y 0, 7, .inl (upd (upd (upd (upd (upd (upd (upd (upd (upd (upd (upd (upd (upd (upd (upd (upd (upd (upd (upd (upd (upd (upd (upd (upd (upd (upd (upd (upd (fun _ => 0) 0 99999) 1 99999) 2 99999) 3 99999) 4 99999) 5 99999) 6 99999) 0 99999) 1 99999) 2 99999) 3 99999) 4 99999) 5 99999) 6 99999) 0 99999) 1 99999) 2 99999) 3 99999) 4 99999) 5 99999) 6 99999) 0 99999) 1 99999) 2 99999) 3 99999) 4 99999) 5 99999) 6 99999)))]) hx hb hK hS hW 2 rfl (by unfold vp_in; decide) rfl rfl dX10_layOpen_29 (fun H locs hW hS => ?_)
  refine lv_iinc (k := 0) (v := 7) (lv' := [(1, .int 7), (0, .ref a0)]) hx hb dX10_layOpen_30 hl rfl (by decide) (by decide) rfl (fun ls hl => ?_)
  refine lv_goto (tgt := 2) hx hb dX10_layOpen_33 (by decide) ?_
  refine lv_iload_n hx hb dX10_layOpen_2 rfl (lv_at hl 0 rfl) ?_
  refine lv_bipush (v := 7) hx hb dX10_layOpen_3 (by decide) ?_
  refine lv_icmp_ge (tgt := 36) hx hb dX10_layOpen_5 (by decide) (fun c15_ => ?_) (fun c15_ => absurd (by decide) c15_)
  exact zret_v hx hb hr hlocks hS () trivial hW (Nat.le_of_ble_eq_true rfl) (Nat.le_of_ble_eq_true rfl) dX10_layOpen_36
set_option maxHeartbeats 8000000 in
set_option maxRecDepth 100000 in
theorem zc_X10_costOfNone_3 (l : Launch) (D : va_G) (y : Nat → ClassId) (a0 : Nat) (w1 : Value) (w2 : Value) (w3 : Value) (w4 : Value) (w5 : Value) (w6 : Value) (w7 : Value) (w8 : Value) (w9 : Value) (w10 : Value) (a11 : Nat) (w12 : Value) (w13 : Value) (w14 : Value) (w15 : Value) (w16 : Value) (w17 : Value) (w18 : Value) (w19 : Value) (w20 : Value) (w21 : Value) (w22 : Value) (w23 : Value) (w24 : Value) (w25 : Value) (w26 : Value) (w27 : Value) (w28 : Value) (w29 : Value) (w30 : Value) (a31 : Nat) (w32 : Value) (w33 : Value) (w34 : Value) (w35 : Value) (w36 : Value) (w37 : Value) (w38 : Value) (w39 : Value) (w40 : Value) (w41 : Value) (w42 : Value) (w43 : Value) (w44 : Value) (w45 : Value) (w46 : Value) (w47 : Value) (w48 : Value) (w49 : Value) (w50 : Value) (w51 : Value) (w52 : Value) (w53 : Value) (w54 : Value) (w55 : Value) (w56 : Value) (w57 : Value) (w58 : Value) (w59 : Value) (w60 : Value) (w61 : Value) (w62 : Value) (w63 : Value) (w64 : Value) (w65 : Value) (w66 : Value) (w67 : Value) (w68 : Value) (w69 : Value) (w70 : Value) (w71 : Value) (w72 : Value) : zM l D y yX10_costOfNone (Cond.code yX10_costOfNone cX10_costOfNone 1 (some .int) :: zT) { frames := 5, cells := 0, slots := 0, locals := 108 } [.ref a0] [(a0, .inr (9, [.int 0, .int 0, w1, .int 20, w2, w3, w4, w5, w6, w7, w8, w9, w10, .ref a11, w12, .int (-1), w13, w14, w15, w16, w17, w18, w19, w20, w21, w22, w23, w24, w25, w26, w27, w28, w29, w30, .ref a31, w32, w33, w34, w35, w36, w37, w38, w39, w40, w41, w42, w43, w44, w45, w46, w47, w48, w49, w50, w51, w52, w53, w54, w55, w56, w57, w58, w59, w60, w61, w62, w63, w64, w65, w66, w67, w68, w69, w70, w71, w72])), (a11, .inl (y 2, 7, .inl (fun _ => 0))), (a31, .inl (y 0, 7, .inl (upd (upd (upd (upd (upd (upd (upd (upd (upd (upd (upd (upd (upd (upd (upd (upd (upd (upd (upd (upd (upd (fun _ => 0) 0 99999) 1 99999) 2 99999) 3 99999) 4 99999) 5 99999) 6 99999) 0 99999) 1 99999) 2 99999) 3 99999) 4 99999) 5 99999) 6 99999) 0 99999) 1 99999) 2 99999) 3 99999) 4 99999) 5 99999) 6 99999)))] (zQi (S := Unit) D (fun r_ _ => r_ = 0) (fun _ => [(a0, .inr (9, [.int 0, .int 0, w1, .int 20, w2, w3, w4, w5, w6, w7, w8, w9, w10, .ref a11, w12, .int (-1), w13, w14, w15, w16, w17, w18, w19, w20, w21, w22, w23, w24, w25, w26, w27, w28, w29, w30, .ref a31, w32, w33, w34, w35, w36, w37, w38, w39, w40, w41, w42, w43, w44, w45, w46, w47, w48, w49, w50, w51, w52, w53, w54, w55, w56, w57, w58, w59, w60, w61, w62, w63, w64, w65, w66, w67, w68, w69, w70, w71, w72])), (a11, .inl (y 2, 7, .inl (fun _ => 0))), (a31, .inl (y 0, 7, .inl (upd (upd (upd (upd (upd (upd (upd (upd (upd (upd (upd (upd (upd (upd (upd (upd (upd (upd (upd (upd (upd (upd (upd (upd (upd (upd (upd (upd (fun _ => 0) 0 99999) 1 99999) 2 99999) 3 99999) 4 99999) 5 99999) 6 99999) 0 99999) 1 99999) 2 99999) 3 99999) 4 99999) 5 99999) 6 99999) 0 99999) 1 99999) 2 99999) 3 99999) 4 99999) 5 99999) 6 99999) 0 99999) 1 99999) 2 99999) 3 99999) 4 99999) 5 99999) 6 99999)))])) := by
  refine zent (cc := cX10_costOfNone) (maxL := 1) (ret := (some .int)) (by decide) (Nat.le_of_ble_eq_true rfl) ?_
  intro p e s m below meth c A H locs ls hx hb hml hr ht hown hlocks hin hA hK hE hS hW hl
  have hown : s.vm.findClass RX10 = some m.cls := hown
  have hW : zPD D A [(a0, .inr (9, [.int 0, .int 0, w1, .int 20, w2, w3, w4, w5, w6, w7, w8, w9, w10, .ref a11, w12, .int (-1), w13, w14, w15, w16, w17, w18, w19, w20, w21, w22, w23, w24, w25, w26, w27, w28, w29, w30, .ref a31, w32, w33, w34, w35, w36, w37, w38, w39, w40, w41, w42, w43, w44, w45, w46, w47, w48, w49, w50, w51, w52, w53, w54, w55, w56, w57, w58, w59, w60, w61, w62, w63, w64, w65, w66, w67, w68, w69, w70, w71, w72])), (a11, .inl (y 2, 7, .inl (fun _ => 0))), (a31, .inl (y 0, 7, .inl (upd (upd (upd (upd (upd (upd (upd (upd (upd (upd (upd (upd (upd (upd (upd (upd (upd (upd (upd (upd (upd (fun _ => 0) 0 99999) 1 99999) 2 99999) 3 99999) 4 99999) 5 99999) 6 99999) 0 99999) 1 99999) 2 99999) 3 99999) 4 99999) 5 99999) 6 99999) 0 99999) 1 99999) 2 99999) 3 99999) 4 99999) 5 99999) 6 99999)))] H := hW
  have hl : lv_has ls 1 [(0, .ref a0)] := hl
  refine lv_aload_n hx hb dX10_costOfNone_0 rfl (lv_at hl 0 rfl) ?_
  refine zgo_v (wr := []) (zrunV (As := []) (rest := []) ⟨hx, hb, hml, hown, ht⟩ (zc_X10_layOpen_3 l D y a0 (.int 0) (.int 0) w1 (.int 20) w2 w3 w4 w5 w6 w7 w8 w9 w10 a11 w12 (.int (-1)) w13 w14 w15 w16 w17 w18 w19 w20 w21 w22 w23 w24 w25 w26 w27 w28 w29 w30 a31 w32 w33 w34 w35 w36 w37 w38 w39 w40 w41 w42 w43 w44 w45 w46 w47 w48 w49 w50 w51 w52 w53 w54 w55 w56 w57 w58 w59 w60 w61 w62 w63 w64 w65 w66 w67 w68 w69 w70 w71 w72) (cwV 0 ht (zgV zm_397 zm_398 zm_399 zm_5 zm_400) rfl rfl rfl (by decide +kernel) ⟨(Nat.le_of_ble_eq_true rfl), (Nat.le_of_ble_eq_true rfl)⟩) hK hE hS hA hW [0, 1, 2] (by decide) rfl 0 rfl rfl rfl rfl hl.1 rfl (Nat.le_of_ble_eq_true rfl) dX10_costOfNone_1 (Nat.le_of_ble_eq_true rfl) (Nat.le_of_ble_eq_true rfl)) hS hA hW [0, 1, 2] [] rfl rfl (by decide) (by decide) (fun u H locs hw hW hS => ?_)
  have hW : zPD D A [(a0, .inr (9, [.int 0, .int 0, w1, .int 20, w2, w3, w4, w5, w6, w7, w8, w9, w10, .ref a11, w12, .int (-1), w13, w14, w15, w16, w17, w18, w19, w20, w21, w22, w23, w24, w25, w26, w27, w28, w29, w30, .ref a31, w32, w33, w34, w35, w36, w37, w38, w39, w40, w41, w42, w43, w44, w45, w46, w47, w48, w49, w50, w51, w52, w53, w54, w55, w56, w57, w58, w59, w60, w61, w62, w63, w64, w65, w66, w67, w68, w69, w70, w71, w72])), (a11, .inl (y 2, 7, .inl (fun _ => 0))), (a31, .inl (y 0, 7, .inl (upd (upd (upd (upd (upd (upd (upd (upd (upd (upd (upd (upd (upd (upd (upd (upd (upd (upd (upd (upd (upd (upd (upd (upd (upd (upd (upd (upd (fun _ => 0) 0 99999) 1 99999) 2 99999) 3 99999) 4 99999) 5 99999) 6 99999) 0 99999) 1 99999) 2 99999) 3 99999) 4 99999) 5 99999) 6 99999) 0 99999) 1 99999) 2 99999) 3 99999) 4 99999) 5 99999) 6 99999) 0 99999) 1 99999) 2 99999) 3 99999) 4 99999) 5 99999) 6 99999)))] H := hW
  refine lv_aload_n hx hb dX10_costOfNone_4 rfl (lv_at hl 0 rfl) ?_
  refine zgo_i (wr := [(a11, .inl (y 2, 7, .inl (fun _ => 0))), (a31, .inl (y 0, 7, .inl (upd (upd (upd (upd (upd (upd (upd (upd (upd (upd (upd (upd (upd (upd (upd (upd (upd (upd (upd (upd (upd (upd (upd (upd (upd (upd (upd (upd (fun _ => 0) 0 99999) 1 99999) 2 99999) 3 99999) 4 99999) 5 99999) 6 99999) 0 99999) 1 99999) 2 99999) 3 99999) 4 99999) 5 99999) 6 99999) 0 99999) 1 99999) 2 99999) 3 99999) 4 99999) 5 99999) 6 99999) 0 99999) 1 99999) 2 99999) 3 99999) 4 99999) 5 99999) 6 99999)))]) (zrunV (As := []) (rest := []) ⟨hx, hb, hml, hown, ht⟩ (zc_X10_harmTillEnd_0 l D y a0 w1 w2 w3 w4 w5 w6 w7 w8 w9 w10 (.ref a11) w12 w13 w14 w15 w16 w17 w18 w19 w20 w21 w22 w23 w24 w25 w26 w27 w28 w29 w30 (.ref a31) w32 w33 w34 w35 w36 w37 w38 w39 w40 w41 w42 w43 w44 w45 w46 w47 w48 w49 w50 w51 w52 w53 w54 w55 w56 w57 w58 w59 w60 w61 w62 w63 w64 w65 w66 w67 w68 w69 w70 w71 w72) (cwV 0 ht (zgV zm_856 zm_857 zm_858 zm_5 zm_859) rfl rfl rfl (by decide +kernel) ⟨(Nat.le_of_ble_eq_true rfl), (Nat.le_of_ble_eq_true rfl)⟩) hK hE hS hA hW [0] (by decide) rfl 0 rfl rfl rfl rfl hl.1 rfl (Nat.le_of_ble_eq_true rfl) dX10_costOfNone_5 (Nat.le_of_ble_eq_true rfl) (Nat.le_of_ble_eq_true rfl)) hS hA hW [0] [1, 2] rfl rfl (by decide) (by decide) (fun r2_ u H locs hw hW hS => ?_)
  have hW : zPD D A [(a11, .inl (y 2, 7, .inl (fun _ => 0))), (a31, .inl (y 0, 7, .inl (upd (upd (upd (upd (upd (upd (upd (upd (upd (upd (upd (upd (upd (upd (upd (upd (upd (upd (upd (upd (upd (upd (upd (upd (upd (upd (upd (upd (fun _ => 0) 0 99999) 1 99999) 2 99999) 3 99999) 4 99999) 5 99999) 6 99999) 0 99999) 1 99999) 2 99999) 3 99999) 4 99999) 5 99999) 6 99999) 0 99999) 1 99999) 2 99999) 3 99999) 4 99999) 5 99999) 6 99999) 0 99999) 1 99999) 2 99999) 3 99999) 4 99999) 5 99999) 6 99999))), (a0, .inr (9, [.int 0, .int 0, w1, .int 20, w2, w3, w4, w5, w6, w7, w8, w9, w10, .ref a11, w12, .int (-1), w13, w14, w15, w16, w17, w18, w19, w20, w21, w22, w23, w24, w25, w26, w27, w28, w29, w30, .ref a31, w32, w33, w34, w35, w36, w37, w38, w39, w40, w41, w42, w43, w44, w45, w46, w47, w48, w49, w50, w51, w52, w53, w54, w55, w56, w57, w58, w59, w60, w61, w62, w63, w64, w65, w66, w67, w68, w69, w70, w71, w72]))] H := hW
  have hw : r2_ = 0 := hw
  subst hw
  exact zret_i (v := 0) hx hb hr hlocks hS () rfl (hW.sub [2, 0, 1] (by decide) rfl) (Nat.le_of_ble_eq_true rfl) (Nat.le_of_ble_eq_true rfl) dX10_costOfNone_8
set_option maxHeartbeats 8000000 in
set_option maxRecDepth 100000 in
theorem zc_X10_sides_0 (l : Launch) (D : va_G) (y : Nat → ClassId) (a0 : Nat) (p1 : Int32) (w2 : Value) (w3 : Value) (w4 : Value) (w5 : Value) (w6 : Value) (w7 : Value) (w8 : Value) (w9 : Value) (w10 : Value) (a11 : Nat) (w12 : Value) (w13 : Value) (w14 : Value) (w15 : Value) (w16 : Value) (w17 : Value) (w18 : Value) (w19 : Value) (w20 : Value) (w21 : Value) (w22 : Value) (w23 : Value) (w24 : Value) (w25 : Value) (w26 : Value) (w27 : Value) (w28 : Value) (w29 : Value) (a30 : Nat) (w31 : Value) (w32 : Value) (w33 : Value) (w34 : Value) (w35 : Value) (w36 : Value) (w37 : Value) (w38 : Value) (w39 : Value) (w40 : Value) (w41 : Value) (w42 : Value) (w43 : Value) (w44 : Value) (w45 : Value) (w46 : Value) (w47 : Value) (w48 : Value) (w49 : Value) (w50 : Value) (w51 : Value) (w52 : Value) (w53 : Value) (w54 : Value) (w55 : Value) (w56 : Value) (w57 : Value) (w58 : Value) (w59 : Value) (w60 : Value) (w61 : Value) (w62 : Value) (w63 : Value) (w64 : Value) (w65 : Value) (w66 : Value) (w67 : Value) (w68 : Value) (w69 : Value) (w70 : Value) (w71 : Value) : zM l D y yX10_sides (Cond.code yX10_sides cX10_sides 6 (some .int) :: zT) { frames := 6, cells := 0, slots := 0, locals := 128 } [.ref a0, .int p1] [(a0, .inr (9, [.int 0, .int 0, w2, .int 20, .int 0, w3, w4, w5, w6, w7, w8, w9, w10, .ref a11, w12, .int (-1), w13, w14, w15, w16, w17, w18, w19, w20, w21, w22, w23, w24, w25, w26, w27, w28, .int 0, w29, .ref a30, w31, w32, w33, w34, w35, w36, w37, w38, w39, w40, w41, w42, w43, w44, w45, w46, w47, w48, w49, w50, w51, w52, w53, w54, w55, w56, w57, w58, w59, w60, w61, w62, w63, w64, w65, w66, w67, w68, w69, w70, w71])), (a11, .inl (y 2, 7, .inl (fun _ => 0))), (a30, .inl (y 0, 7, .inl (fun _ => 0)))] (zQi (S := Unit) D (fun r_ _ => r_ = (if p1 < 0 then (-1) else (if 1 < p1 then (-1) else 0))) (fun _ => [])) := by
  refine zent (cc := cX10_sides) (maxL := 6) (ret := (some .int)) (by decide) (Nat.le_of_ble_eq_true rfl) ?_
  intro p e s m below meth c A H locs ls hx hb hml hr ht hown hlocks hin hA hK hE hS hW hl
  have hown : s.vm.findClass RX10 = some m.cls := hown
  have hW : zPD D A [(a0, .inr (9, [.int 0, .int 0, w2, .int 20, .int 0, w3, w4, w5, w6, w7, w8, w9, w10, .ref a11, w12, .int (-1), w13, w14, w15, w16, w17, w18, w19, w20, w21, w22, w23, w24, w25, w26, w27, w28, .int 0, w29, .ref a30, w31, w32, w33, w34, w35, w36, w37, w38, w39, w40, w41, w42, w43, w44, w45, w46, w47, w48, w49, w50, w51, w52, w53, w54, w55, w56, w57, w58, w59, w60, w61, w62, w63, w64, w65, w66, w67, w68, w69, w70, w71])), (a11, .inl (y 2, 7, .inl (fun _ => 0))), (a30, .inl (y 0, 7, .inl (fun _ => 0)))] H := hW
  have hl : lv_has ls 6 [(0, .ref a0), (1, .int p1)] := hl
  refine lv_aload_n hx hb dX10_sides_0 rfl (lv_at hl 0 rfl) ?_
  refine lv_iload_n hx hb dX10_sides_1 rfl (lv_at hl 1 rfl) ?_
  refine lv_iconst (v := 0) hx hb dX10_sides_2 (by decide) ?_
  refine lv_iconst (v := 1) hx hb dX10_sides_3 (by decide) ?_
  refine zgo_i (wr := [(a11, .inl (y 2, 7, .inl (fun _ => 0))), (a30, .inl (y 0, 7, .inl (fun _ => 0)))]) (zrunV (As := [.int p1, .int 0, .int 1]) (rest := []) ⟨hx, hb, hml, hown, ht⟩ (zc_X10_in_11 l D y a0 p1 (.int 0) (.int 0) w2 (.int 20) (.int 0) w3 w4 w5 w6 w7 w8 w9 w10 (.ref a11) w12 (.int (-1)) w13 w14 w15 w16 w17 w18 w19 w20 w21 w22 w23 w24 w25 w26 w27 w28 (.int 0) w29 (.ref a30) w31 w32 w33 w34 w35 w36 w37 w38 w39 w40 w41 w42 w43 w44 w45 w46 w47 w48 w49 w50 w51 w52 w53 w54 w55 w56 w57 w58 w59 w60 w61 w62 w63 w64 w65 w66 w67 w68 w69 w70 w71) (cwV 3 ht (zgV zm_240 zm_241 zm_242 zm_5 zm_243) rfl rfl rfl (by decide +kernel) ⟨(Nat.le_of_ble_eq_true rfl), (Nat.le_of_ble_eq_true rfl)⟩) hK hE hS hA hW [0] (by decide) rfl 0 rfl rfl rfl rfl hl.1 rfl (Nat.le_of_ble_eq_true rfl) dX10_sides_4 (Nat.le_of_ble_eq_true rfl) (Nat.le_of_ble_eq_true rfl)) hS hA hW [0] [1, 2] rfl rfl (by decide) (by decide) (fun r1_ u H locs hw hW hS => ?_)
  have hW : zPD D A [(a11, .inl (y 2, 7, .inl (fun _ => 0))), (a30, .inl (y 0, 7, .inl (fun _ => 0))), (a0, .inr (9, [.int 0, .int 0, w2, .int 20, .int 0, w3, w4, w5, w6, w7, w8, w9, w10, .ref a11, w12, .int (-1), w13, w14, w15, w16, w17, w18, w19, w20, w21, w22, w23, w24, w25, w26, w27, w28, .int 0, w29, .ref a30, w31, w32, w33, w34, w35, w36, w37, w38, w39, w40, w41, w42, w43, w44, w45, w46, w47, w48, w49, w50, w51, w52, w53, w54, w55, w56, w57, w58, w59, w60, w61, w62, w63, w64, w65, w66, w67, w68, w69, w70, w71]))] H := hW
  have hw : r1_ = (if p1 < 0 then 0 else (if 1 < p1 then 0 else 1)) := hw
  by_cases c2_ : p1 < 0
  · have b3_ : (-2147483648) ≤ Int32.toInt p1 ∧ Int32.toInt p1 ≤ (-1) := (by have u0 := zbnd p1; have u1 := (zi_lt _ _).mp c2_; have u2 : (0 : Int32).toInt = 0 := (by decide); omega)
    rw [if_pos c2_] at hw
    subst hw
    refine lv_if_ne (tgt := 12) hx hb dX10_sides_7 (by decide) (fun c4_ => absurd (by decide) c4_) (fun c4_ => ?_)
    refine lv_iconst (v := (-1)) hx hb dX10_sides_10 (by decide) ?_
    exact zret_i (v := (-1)) hx hb hr hlocks hS () (by show _ = _; rw [if_pos c2_]) (hW.sub [] (by decide) rfl) (Nat.le_of_ble_eq_true rfl) (Nat.le_of_ble_eq_true rfl) dX10_sides_11
  · have b5_ : 0 ≤ Int32.toInt p1 ∧ Int32.toInt p1 ≤ 2147483647 := (by have u0 := zbnd p1; have u1 := (not_congr (zi_lt _ _)).mp c2_; have u2 : (0 : Int32).toInt = 0 := (by decide); omega)
    rw [if_neg c2_] at hw
    by_cases c6_ : 1 < p1
    · have b7_ : 2 ≤ Int32.toInt p1 ∧ Int32.toInt p1 ≤ 2147483647 := (by have u0 := b5_; have u1 := (zi_lt _ _).mp c6_; have u2 : (1 : Int32).toInt = 1 := (by decide); omega)
      rw [if_pos c6_] at hw
      subst hw
      refine lv_if_ne (tgt := 12) hx hb dX10_sides_7 (by decide) (fun c8_ => absurd (by decide) c8_) (fun c8_ => ?_)
      refine lv_iconst (v := (-1)) hx hb dX10_sides_10 (by decide) ?_
      exact zret_i (v := (-1)) hx hb hr hlocks hS () (by show _ = _; rw [if_neg c2_, if_pos c6_]) (hW.sub [] (by decide) rfl) (Nat.le_of_ble_eq_true rfl) (Nat.le_of_ble_eq_true rfl) dX10_sides_11
    · have b9_ : 0 ≤ Int32.toInt p1 ∧ Int32.toInt p1 ≤ 1 := (by have u0 := b5_; have u1 := (not_congr (zi_lt _ _)).mp c6_; have u2 : (1 : Int32).toInt = 1 := (by decide); omega)
      rw [if_neg c6_] at hw
      subst hw
      refine lv_if_ne (tgt := 12) hx hb dX10_sides_7 (by decide) (fun c10_ => ?_) (fun c10_ => absurd c10_ (by decide))
      refine lv_aload_n hx hb dX10_sides_12 rfl (lv_at hl 0 rfl) ?_
      refine zget hx hb ht inlX10 hown hK hW 2 rfl rfl 4 (by decide) zm_144 rfl dX10_sides_13 ?_
      refine lv_istore_n (lv' := [(2, .int 0), (0, .ref a0), (1, .int p1)]) hx hb dX10_sides_16 rfl hl (by decide) rfl (fun ls hl => ?_)
      refine lv_iconst (v := 0) hx hb dX10_sides_17 (by decide) ?_
      refine lv_istore_n (lv' := [(3, .int 0), (2, .int 0), (0, .ref a0), (1, .int p1)]) hx hb dX10_sides_18 rfl hl (by decide) rfl (fun ls hl => ?_)
      refine lv_iconst (v := (-1)) hx hb dX10_sides_19 (by decide) ?_
      refine lv_istore (lv' := [(4, .int (-1)), (3, .int 0), (2, .int 0), (0, .ref a0), (1, .int p1)]) hx hb dX10_sides_20 hl (by decide) rfl (fun ls hl => ?_)
      refine lv_aload_n hx hb dX10_sides_22 rfl (lv_at hl 3 rfl) ?_
      refine lv_iconst (v := 0) hx hb dX10_sides_23 (by decide) ?_
      refine zput (ws' := [(a11, .inl (y 2, 7, .inl (fun _ => 0))), (a30, .inl (y 0, 7, .inl (fun _ => 0))), (a0, .inr (9, [.int 0, .int 0, w2, .int 20, .int 0, w3, w4, w5, w6, w7, w8, w9, w10, .ref a11, w12, .int (-1), w13, w14, w15, w16, w17, w18, w19, w20, w21, w22, w23, w24, w25, w26, w27, w28, .int 0, w29, .ref a30, w31, w32, w33, w34, w35, w36, w37, w38, w39, w40, w41, w42, w43, w44, w45, w46, w47, w48, w49, w50, w51, w52, w53, w54, w55, w56, w57, w58, w59, w60, w61, w62, w63, w64, w65, w66, w67, w68, w69, w70, w71]))]) hx hb ht inlX10 tyX10 tyX10_ok nmX10 hown hK hS hW 2 rfl rfl 4 (by decide) zm_144 rfl rfl rfl (Nat.le_of_ble_eq_true rfl) rfl dX10_sides_24 (fun H locs hW hS => ?_)
      refine lv_aload_n hx hb dX10_sides_27 rfl (lv_at hl 3 rfl) ?_
      refine zget hx hb ht inlX10 hown hK hW 2 rfl rfl 4 (by decide) zm_144 rfl dX10_sides_28 ?_
      refine lv_iconst (v := 4) hx hb dX10_sides_31 (by decide) ?_
      refine lv_icmp_ge (tgt := 77) hx hb dX10_sides_32 (by decide) (fun c11_ => absurd c11_ (by decide)) (fun c11_ => ?_)
      refine lv_aload_n hx hb dX10_sides_35 rfl (lv_at hl 3 rfl) ?_
      refine zgo_v (wr := [(a11, .inl (y 2, 7, .inl (fun _ => 0))), (a30, .inl (y 0, 7, .inl (fun _ => 0)))]) (zrunV (As := []) (rest := []) ⟨hx, hb, hml, hown, ht⟩ (zc_X10_layRain_0 l D y a0 (.int 0) w2 (.int 20) (.int 0) w3 w4 w5 w6 w7 w8 w9 w10 (.ref a11) w12 w13 w14 w15 w16 w17 w18 w19 w20 w21 w22 w23 w24 w25 w26 w27 w28 w29 (.ref a30) w31 w32 w33 w34 w35 w36 w37 w38 w39 w40 w41 w42 w43 w44 w45 w46 w47 w48 w49 w50 w51 w52 w53 w54 w55 w56 w57 w58 w59 w60 w61 w62 w63 w64 w65 w66 w67 w68 w69 w70 w71) (cwV 0 ht (zgV zm_377 zm_378 zm_379 zm_5 zm_380) rfl rfl rfl (by decide +kernel) ⟨(Nat.le_of_ble_eq_true rfl), (Nat.le_of_ble_eq_true rfl)⟩) hK hE hS hA hW [2] (by decide) rfl 0 rfl rfl rfl rfl hl.1 rfl (Nat.le_of_ble_eq_true rfl) dX10_sides_36 (Nat.le_of_ble_eq_true rfl) (Nat.le_of_ble_eq_true rfl)) hS hA hW [2] [0, 1] rfl rfl (by decide) (by decide) (fun u H locs hw hW hS => ?_)
      have hW : zPD D A [(a11, .inl (y 2, 7, .inl (fun _ => 0))), (a30, .inl (y 0, 7, .inl (fun _ => 0))), (a0, .inr (9, [.int 0, .int 0, w2, .int 20, .int 0, w3, w4, w5, w6, w7, w8, w9, w10, .ref a11, w12, .int (-1), w13, w14, w15, w16, w17, w18, w19, w20, w21, w22, w23, w24, w25, w26, w27, w28, .int 0, w29, .ref a30, w31, w32, w33, w34, w35, w36, w37, w38, w39, w40, w41, w42, w43, w44, w45, w46, w47, w48, w49, w50, w51, w52, w53, w54, w55, w56, w57, w58, w59, w60, w61, w62, w63, w64, w65, w66, w67, w68, w69, w70, w71]))] H := hW
      refine lv_aload_n hx hb dX10_sides_39 rfl (lv_at hl 3 rfl) ?_
      refine zgo_i (wr := []) (zrunV (As := []) (rest := []) ⟨hx, hb, hml, hown, ht⟩ (zc_X10_costOfNone_0 l D y a0 w2 (.int 0) w3 w4 w5 w6 w7 w8 w9 w10 a11 w12 w13 w14 w15 w16 w17 w18 w19 w20 w21 w22 w23 w24 w25 w26 w27 w28 (.int 0) w29 a30 w31 w32 w33 w34 w35 w36 w37 w38 w39 w40 w41 w42 w43 w44 w45 w46 w47 w48 w49 w50 w51 w52 w53 w54 w55 w56 w57 w58 w59 w60 w61 w62 w63 w64 w65 w66 w67 w68 w69 w70 w71) (cwV 0 ht (zgV zm_975 zm_976 zm_977 zm_5 zm_978) rfl rfl rfl (by decide +kernel) ⟨(Nat.le_of_ble_eq_true rfl), (Nat.le_of_ble_eq_true rfl)⟩) hK hE hS hA hW [2, 0, 1] (by decide) rfl 0 rfl rfl rfl rfl hl.1 rfl (Nat.le_of_ble_eq_true rfl) dX10_sides_40 (Nat.le_of_ble_eq_true rfl) (Nat.le_of_ble_eq_true rfl)) hS hA hW [2, 0, 1] [] rfl rfl (by decide) (by decide) (fun r13_ u H locs hw hW hS => ?_)
      have hW : zPD D A [(a0, .inr (9, [.int 0, .int 0, w2, .int 20, .int 0, w3, w4, w5, w6, w7, w8, w9, w10, .ref a11, w12, .int (-1), w13, w14, w15, w16, w17, w18, w19, w20, w21, w22, w23, w24, w25, w26, w27, w28, .int 0, w29, .ref a30, w31, w32, w33, w34, w35, w36, w37, w38, w39, w40, w41, w42, w43, w44, w45, w46, w47, w48, w49, w50, w51, w52, w53, w54, w55, w56, w57, w58, w59, w60, w61, w62, w63, w64, w65, w66, w67, w68, w69, w70, w71])), (a11, .inl (y 2, 7, .inl (fun _ => 0))), (a30, .inl (y 0, 7, .inl (upd (upd (upd (upd (upd (upd (upd (fun _ => 0) 0 99999) 1 99999) 2 99999) 3 99999) 4 99999) 5 99999) 6 99999)))] H := hW
      have hw : r13_ = 0 := hw
      subst hw
      refine lv_istore (lv' := [(5, .int 0), (4, .int (-1)), (3, .int 0), (2, .int 0), (0, .ref a0), (1, .int p1)]) hx hb dX10_sides_43 hl (by decide) rfl (fun ls hl => ?_)
      refine lv_iload hx hb dX10_sides_45 (lv_at hl 0 rfl) ?_
      refine lv_iload hx hb dX10_sides_47 (lv_at hl 1 rfl) ?_
      refine lv_icmp_gt (tgt := 55) hx hb dX10_sides_49 (by decide) (fun c14_ => ?_) (fun c14_ => absurd (by decide) c14_)
      refine lv_aload_n hx hb dX10_sides_55 rfl (lv_at hl 4 rfl) ?_
      refine zget hx hb ht inlX10 hown hK hW 0 rfl rfl 4 (by decide) zm_144 rfl dX10_sides_56 ?_
      refine lv_istore_n (lv' := [(3, .int 0), (5, .int 0), (4, .int (-1)), (2, .int 0), (0, .ref a0), (1, .int p1)]) hx hb dX10_sides_59 rfl hl (by decide) rfl (fun ls hl => ?_)
      refine lv_iload hx hb dX10_sides_60 (lv_at hl 1 rfl) ?_
      refine lv_istore (lv' := [(4, .int 0), (3, .int 0), (5, .int 0), (2, .int 0), (0, .ref a0), (1, .int p1)]) hx hb dX10_sides_62 hl (by decide) rfl (fun ls hl => ?_)
      refine lv_aload_n hx hb dX10_sides_64 rfl (lv_at hl 4 rfl) ?_
      refine lv_dup hx hb dX10_sides_65 rfl ?_
      refine zget hx hb ht inlX10 hown hK hW 0 rfl rfl 4 (by decide) zm_144 rfl dX10_sides_66 ?_
      refine lv_iconst (v := 1) hx hb dX10_sides_69 (by decide) ?_
      refine lv_iadd hx hb dX10_sides_70 ?_
      refine ztop (w := .int 1) (congrArg Value.int (by decide)) ?_
      refine zput (ws' := [(a0, .inr (9, [.int 0, .int 0, w2, .int 20, .int 1, w3, w4, w5, w6, w7, w8, w9, w10, .ref a11, w12, .int (-1), w13, w14, w15, w16, w17, w18, w19, w20, w21, w22, w23, w24, w25, w26, w27, w28, .int 0, w29, .ref a30, w31, w32, w33, w34, w35, w36, w37, w38, w39, w40, w41, w42, w43, w44, w45, w46, w47, w48, w49, w50, w51, w52, w53, w54, w55, w56, w57, w58, w59, w60, w61, w62, w63, w64, w65, w66, w67, w68, w69, w70, w71])), (a11, .inl (y 2, 7, .inl (fun _ => 0))), (a30, .inl (y 0, 7, .inl (upd (upd (upd (upd (upd (upd (upd (fun _ => 0) 0 99999) 1 99999) 2 99999) 3 99999) 4 99999) 5 99999) 6 99999)))]) hx hb ht inlX10 tyX10 tyX10_ok nmX10 hown hK hS hW 0 rfl rfl 4 (by decide) zm_144 rfl rfl rfl (Nat.le_of_ble_eq_true rfl) rfl dX10_sides_71 (fun H locs hW hS => ?_)
      refine lv_goto (tgt := 27) hx hb dX10_sides_74 (by decide) ?_
      refine lv_aload_n hx hb dX10_sides_27 rfl (lv_at hl 4 rfl) ?_
      refine zget hx hb ht inlX10 hown hK hW 0 rfl rfl 4 (by decide) zm_144 rfl dX10_sides_28 ?_
      refine lv_iconst (v := 4) hx hb dX10_sides_31 (by decide) ?_
      refine lv_icmp_ge (tgt := 77) hx hb dX10_sides_32 (by decide) (fun c15_ => absurd c15_ (by decide)) (fun c15_ => ?_)
      refine lv_aload_n hx hb dX10_sides_35 rfl (lv_at hl 4 rfl) ?_
      refine zgo_v (wr := [(a11, .inl (y 2, 7, .inl (fun _ => 0))), (a30, .inl (y 0, 7, .inl (upd (upd (upd (upd (upd (upd (upd (fun _ => 0) 0 99999) 1 99999) 2 99999) 3 99999) 4 99999) 5 99999) 6 99999)))]) (zrunV (As := []) (rest := []) ⟨hx, hb, hml, hown, ht⟩ (zc_X10_layRain_0 l D y a0 (.int 0) w2 (.int 20) (.int 1) w3 w4 w5 w6 w7 w8 w9 w10 (.ref a11) w12 w13 w14 w15 w16 w17 w18 w19 w20 w21 w22 w23 w24 w25 w26 w27 w28 w29 (.ref a30) w31 w32 w33 w34 w35 w36 w37 w38 w39 w40 w41 w42 w43 w44 w45 w46 w47 w48 w49 w50 w51 w52 w53 w54 w55 w56 w57 w58 w59 w60 w61 w62 w63 w64 w65 w66 w67 w68 w69 w70 w71) (cwV 0 ht (zgV zm_377 zm_378 zm_379 zm_5 zm_380) rfl rfl rfl (by decide +kernel) ⟨(Nat.le_of_ble_eq_true rfl), (Nat.le_of_ble_eq_true rfl)⟩) hK hE hS hA hW [0] (by decide) rfl 0 rfl rfl rfl rfl hl.1 rfl (Nat.le_of_ble_eq_true rfl) dX10_sides_36 (Nat.le_of_ble_eq_true rfl) (Nat.le_of_ble_eq_true rfl)) hS hA hW [0] [1, 2] rfl rfl (by decide) (by decide) (fun u H locs hw hW hS => ?_)
      have hW : zPD D A [(a11, .inl (y 2, 7, .inl (fun _ => 0))), (a30, .inl (y 0, 7, .inl (upd (upd (upd (upd (upd (upd (upd (fun _ => 0) 0 99999) 1 99999) 2 99999) 3 99999) 4 99999) 5 99999) 6 99999))), (a0, .inr (9, [.int 0, .int 0, w2, .int 20, .int 1, w3, w4, w5, w6, w7, w8, w9, w10, .ref a11, w12, .int (-1), w13, w14, w15, w16, w17, w18, w19, w20, w21, w22, w23, w24, w25, w26, w27, w28, .int 0, w29, .ref a30, w31, w32, w33, w34, w35, w36, w37, w38, w39, w40, w41, w42, w43, w44, w45, w46, w47, w48, w49, w50, w51, w52, w53, w54, w55, w56, w57, w58, w59, w60, w61, w62, w63, w64, w65, w66, w67, w68, w69, w70, w71]))] H := hW
      refine lv_aload_n hx hb dX10_sides_39 rfl (lv_at hl 4 rfl) ?_
      refine zgo_i (wr := []) (zrunV (As := []) (rest := []) ⟨hx, hb, hml, hown, ht⟩ (zc_X10_costOfNone_1 l D y a0 w2 (.int 1) w3 w4 w5 w6 w7 w8 w9 w10 a11 w12 w13 w14 w15 w16 w17 w18 w19 w20 w21 w22 w23 w24 w25 w26 w27 w28 (.int 0) w29 a30 w31 w32 w33 w34 w35 w36 w37 w38 w39 w40 w41 w42 w43 w44 w45 w46 w47 w48 w49 w50 w51 w52 w53 w54 w55 w56 w57 w58 w59 w60 w61 w62 w63 w64 w65 w66 w67 w68 w69 w70 w71) (cwV 0 ht (zgV zm_975 zm_976 zm_977 zm_5 zm_978) rfl rfl rfl (by decide +kernel) ⟨(Nat.le_of_ble_eq_true rfl), (Nat.le_of_ble_eq_true rfl)⟩) hK hE hS hA hW [2, 0, 1] (by decide) rfl 0 rfl rfl rfl rfl hl.1 rfl (Nat.le_of_ble_eq_true rfl) dX10_sides_40 (Nat.le_of_ble_eq_true rfl) (Nat.le_of_ble_eq_true rfl)) hS hA hW [2, 0, 1] [] rfl rfl (by decide) (by decide) (fun r17_ u H locs hw hW hS => ?_)
      have hW : zPD D A [(a0, .inr (9, [.int 0, .int 0, w2, .int 20, .int 1, w3, w4, w5, w6, w7, w8, w9, w10, .ref a11, w12, .int (-1), w13, w14, w15, w16, w17, w18, w19, w20, w21, w22, w23, w24, w25, w26, w27, w28, .int 0, w29, .ref a30, w31, w32, w33, w34, w35, w36, w37, w38, w39, w40, w41, w42, w43, w44, w45, w46, w47, w48, w49, w50, w51, w52, w53, w54, w55, w56, w57, w58, w59, w60, w61, w62, w63, w64, w65, w66, w67, w68, w69, w70, w71])), (a11, .inl (y 2, 7, .inl (fun _ => 0))), (a30, .inl (y 0, 7, .inl (upd (upd (upd (upd (upd (upd (upd (upd (upd (upd (upd (upd (upd (upd (fun _ => 0) 0 99999) 1 99999) 2 99999) 3 99999) 4 99999) 5 99999) 6 99999) 0 99999) 1 99999) 2 99999) 3 99999) 4 99999) 5 99999) 6 99999)))] H := hW
      have hw : r17_ = 0 := hw
      subst hw
      refine lv_istore (lv' := [(5, .int 0), (4, .int 0), (3, .int 0), (2, .int 0), (0, .ref a0), (1, .int p1)]) hx hb dX10_sides_43 hl (by decide) rfl (fun ls hl => ?_)
      refine lv_iload hx hb dX10_sides_45 (lv_at hl 0 rfl) ?_
      refine lv_iload hx hb dX10_sides_47 (lv_at hl 1 rfl) ?_
      refine lv_icmp_gt (tgt := 55) hx hb dX10_sides_49 (by decide) (fun c18_ => absurd c18_ (by decide)) (fun c18_ => ?_)
      refine lv_goto (tgt := 64) hx hb dX10_sides_52 (by decide) ?_
      refine lv_aload_n hx hb dX10_sides_64 rfl (lv_at hl 4 rfl) ?_
      refine lv_dup hx hb dX10_sides_65 rfl ?_
      refine zget hx hb ht inlX10 hown hK hW 0 rfl rfl 4 (by decide) zm_144 rfl dX10_sides_66 ?_
      refine lv_iconst (v := 1) hx hb dX10_sides_69 (by decide) ?_
      refine lv_iadd hx hb dX10_sides_70 ?_
      refine ztop (w := .int 2) (congrArg Value.int (by decide)) ?_
      refine zput (ws' := [(a0, .inr (9, [.int 0, .int 0, w2, .int 20, .int 2, w3, w4, w5, w6, w7, w8, w9, w10, .ref a11, w12, .int (-1), w13, w14, w15, w16, w17, w18, w19, w20, w21, w22, w23, w24, w25, w26, w27, w28, .int 0, w29, .ref a30, w31, w32, w33, w34, w35, w36, w37, w38, w39, w40, w41, w42, w43, w44, w45, w46, w47, w48, w49, w50, w51, w52, w53, w54, w55, w56, w57, w58, w59, w60, w61, w62, w63, w64, w65, w66, w67, w68, w69, w70, w71])), (a11, .inl (y 2, 7, .inl (fun _ => 0))), (a30, .inl (y 0, 7, .inl (upd (upd (upd (upd (upd (upd (upd (upd (upd (upd (upd (upd (upd (upd (fun _ => 0) 0 99999) 1 99999) 2 99999) 3 99999) 4 99999) 5 99999) 6 99999) 0 99999) 1 99999) 2 99999) 3 99999) 4 99999) 5 99999) 6 99999)))]) hx hb ht inlX10 tyX10 tyX10_ok nmX10 hown hK hS hW 0 rfl rfl 4 (by decide) zm_144 rfl rfl rfl (Nat.le_of_ble_eq_true rfl) rfl dX10_sides_71 (fun H locs hW hS => ?_)
      refine lv_goto (tgt := 27) hx hb dX10_sides_74 (by decide) ?_
      refine lv_aload_n hx hb dX10_sides_27 rfl (lv_at hl 4 rfl) ?_
      refine zget hx hb ht inlX10 hown hK hW 0 rfl rfl 4 (by decide) zm_144 rfl dX10_sides_28 ?_
      refine lv_iconst (v := 4) hx hb dX10_sides_31 (by decide) ?_
      refine lv_icmp_ge (tgt := 77) hx hb dX10_sides_32 (by decide) (fun c19_ => absurd c19_ (by decide)) (fun c19_ => ?_)
      refine lv_aload_n hx hb dX10_sides_35 rfl (lv_at hl 4 rfl) ?_
      refine zgo_v (wr := [(a11, .inl (y 2, 7, .inl (fun _ => 0))), (a30, .inl (y 0, 7, .inl (upd (upd (upd (upd (upd (upd (upd (upd (upd (upd (upd (upd (upd (upd (fun _ => 0) 0 99999) 1 99999) 2 99999) 3 99999) 4 99999) 5 99999) 6 99999) 0 99999) 1 99999) 2 99999) 3 99999) 4 99999) 5 99999) 6 99999)))]) (zrunV (As := []) (rest := []) ⟨hx, hb, hml, hown, ht⟩ (zc_X10_layRain_0 l D y a0 (.int 0) w2 (.int 20) (.int 2) w3 w4 w5 w6 w7 w8 w9 w10 (.ref a11) w12 w13 w14 w15 w16 w17 w18 w19 w20 w21 w22 w23 w24 w25 w26 w27 w28 w29 (.ref a30) w31 w32 w33 w34 w35 w36 w37 w38 w39 w40 w41 w42 w43 w44 w45 w46 w47 w48 w49 w50 w51 w52 w53 w54 w55 w56 w57 w58 w59 w60 w61 w62 w63 w64 w65 w66 w67 w68 w69 w70 w71) (cwV 0 ht (zgV zm_377 zm_378 zm_379 zm_5 zm_380) rfl rfl rfl (by decide +kernel) ⟨(Nat.le_of_ble_eq_true rfl), (Nat.le_of_ble_eq_true rfl)⟩) hK hE hS hA hW [0] (by decide) rfl 0 rfl rfl rfl rfl hl.1 rfl (Nat.le_of_ble_eq_true rfl) dX10_sides_36 (Nat.le_of_ble_eq_true rfl) (Nat.le_of_ble_eq_true rfl)) hS hA hW [0] [1, 2] rfl rfl (by decide) (by decide) (fun u H locs hw hW hS => ?_)
      have hW : zPD D A [(a11, .inl (y 2, 7, .inl (fun _ => 0))), (a30, .inl (y 0, 7, .inl (upd (upd (upd (upd (upd (upd (upd (upd (upd (upd (upd (upd (upd (upd (fun _ => 0) 0 99999) 1 99999) 2 99999) 3 99999) 4 99999) 5 99999) 6 99999) 0 99999) 1 99999) 2 99999) 3 99999) 4 99999) 5 99999) 6 99999))), (a0, .inr (9, [.int 0, .int 0, w2, .int 20, .int 2, w3, w4, w5, w6, w7, w8, w9, w10, .ref a11, w12, .int (-1), w13, w14, w15, w16, w17, w18, w19, w20, w21, w22, w23, w24, w25, w26, w27, w28, .int 0, w29, .ref a30, w31, w32, w33, w34, w35, w36, w37, w38, w39, w40, w41, w42, w43, w44, w45, w46, w47, w48, w49, w50, w51, w52, w53, w54, w55, w56, w57, w58, w59, w60, w61, w62, w63, w64, w65, w66, w67, w68, w69, w70, w71]))] H := hW
      refine lv_aload_n hx hb dX10_sides_39 rfl (lv_at hl 4 rfl) ?_
      refine zgo_i (wr := []) (zrunV (As := []) (rest := []) ⟨hx, hb, hml, hown, ht⟩ (zc_X10_costOfNone_2 l D y a0 w2 (.int 2) w3 w4 w5 w6 w7 w8 w9 w10 a11 w12 w13 w14 w15 w16 w17 w18 w19 w20 w21 w22 w23 w24 w25 w26 w27 w28 (.int 0) w29 a30 w31 w32 w33 w34 w35 w36 w37 w38 w39 w40 w41 w42 w43 w44 w45 w46 w47 w48 w49 w50 w51 w52 w53 w54 w55 w56 w57 w58 w59 w60 w61 w62 w63 w64 w65 w66 w67 w68 w69 w70 w71) (cwV 0 ht (zgV zm_975 zm_976 zm_977 zm_5 zm_978) rfl rfl rfl (by decide +kernel) ⟨(Nat.le_of_ble_eq_true rfl), (Nat.le_of_ble_eq_true rfl)⟩) hK hE hS hA hW [2, 0, 1] (by decide) rfl 0 rfl rfl rfl rfl hl.1 rfl (Nat.le_of_ble_eq_true rfl) dX10_sides_40 (Nat.le_of_ble_eq_true rfl) (Nat.le_of_ble_eq_true rfl)) hS hA hW [2, 0, 1] [] rfl rfl (by decide) (by decide) (fun r21_ u H locs hw hW hS => ?_)
      have hW : zPD D A [(a0, .inr (9, [.int 0, .int 0, w2, .int 20, .int 2, w3, w4, w5, w6, w7, w8, w9, w10, .ref a11, w12, .int (-1), w13, w14, w15, w16, w17, w18, w19, w20, w21, w22, w23, w24, w25, w26, w27, w28, .int 0, w29, .ref a30, w31, w32, w33, w34, w35, w36, w37, w38, w39, w40, w41, w42, w43, w44, w45, w46, w47, w48, w49, w50, w51, w52, w53, w54, w55, w56, w57, w58, w59, w60, w61, w62, w63, w64, w65, w66, w67, w68, w69, w70, w71])), (a11, .inl (y 2, 7, .inl (fun _ => 0))), (a30, .inl (y 0, 7, .inl (upd (upd (upd (upd (upd (upd (upd (upd (upd (upd (upd (upd (upd (upd (upd (upd (upd (upd (upd (upd (upd (fun _ => 0) 0 99999) 1 99999) 2 99999) 3 99999) 4 99999) 5 99999) 6 99999) 0 99999) 1 99999) 2 99999) 3 99999) 4 99999) 5 99999) 6 99999) 0 99999) 1 99999) 2 99999) 3 99999) 4 99999) 5 99999) 6 99999)))] H := hW
      have hw : r21_ = 0 := hw
      subst hw
      refine lv_istore (lv' := [(5, .int 0), (4, .int 0), (3, .int 0), (2, .int 0), (0, .ref a0), (1, .int p1)]) hx hb dX10_sides_43 hl (by decide) rfl (fun ls hl => ?_)
      refine lv_iload hx hb dX10_sides_45 (lv_at hl 0 rfl) ?_
      refine lv_iload hx hb dX10_sides_47 (lv_at hl 1 rfl) ?_
      refine lv_icmp_gt (tgt := 55) hx hb dX10_sides_49 (by decide) (fun c22_ => absurd c22_ (by decide)) (fun c22_ => ?_)
      refine lv_goto (tgt := 64) hx hb dX10_sides_52 (by decide) ?_
      refine lv_aload_n hx hb dX10_sides_64 rfl (lv_at hl 4 rfl) ?_
      refine lv_dup hx hb dX10_sides_65 rfl ?_
      refine zget hx hb ht inlX10 hown hK hW 0 rfl rfl 4 (by decide) zm_144 rfl dX10_sides_66 ?_
      refine lv_iconst (v := 1) hx hb dX10_sides_69 (by decide) ?_
      refine lv_iadd hx hb dX10_sides_70 ?_
      refine ztop (w := .int 3) (congrArg Value.int (by decide)) ?_
      refine zput (ws' := [(a0, .inr (9, [.int 0, .int 0, w2, .int 20, .int 3, w3, w4, w5, w6, w7, w8, w9, w10, .ref a11, w12, .int (-1), w13, w14, w15, w16, w17, w18, w19, w20, w21, w22, w23, w24, w25, w26, w27, w28, .int 0, w29, .ref a30, w31, w32, w33, w34, w35, w36, w37, w38, w39, w40, w41, w42, w43, w44, w45, w46, w47, w48, w49, w50, w51, w52, w53, w54, w55, w56, w57, w58, w59, w60, w61, w62, w63, w64, w65, w66, w67, w68, w69, w70, w71])), (a11, .inl (y 2, 7, .inl (fun _ => 0))), (a30, .inl (y 0, 7, .inl (upd (upd (upd (upd (upd (upd (upd (upd (upd (upd (upd (upd (upd (upd (upd (upd (upd (upd (upd (upd (upd (fun _ => 0) 0 99999) 1 99999) 2 99999) 3 99999) 4 99999) 5 99999) 6 99999) 0 99999) 1 99999) 2 99999) 3 99999) 4 99999) 5 99999) 6 99999) 0 99999) 1 99999) 2 99999) 3 99999) 4 99999) 5 99999) 6 99999)))]) hx hb ht inlX10 tyX10 tyX10_ok nmX10 hown hK hS hW 0 rfl rfl 4 (by decide) zm_144 rfl rfl rfl (Nat.le_of_ble_eq_true rfl) rfl dX10_sides_71 (fun H locs hW hS => ?_)
      refine lv_goto (tgt := 27) hx hb dX10_sides_74 (by decide) ?_
      refine lv_aload_n hx hb dX10_sides_27 rfl (lv_at hl 4 rfl) ?_
      refine zget hx hb ht inlX10 hown hK hW 0 rfl rfl 4 (by decide) zm_144 rfl dX10_sides_28 ?_
      refine lv_iconst (v := 4) hx hb dX10_sides_31 (by decide) ?_
      refine lv_icmp_ge (tgt := 77) hx hb dX10_sides_32 (by decide) (fun c23_ => absurd c23_ (by decide)) (fun c23_ => ?_)
      refine lv_aload_n hx hb dX10_sides_35 rfl (lv_at hl 4 rfl) ?_
      refine zgo_v (wr := [(a11, .inl (y 2, 7, .inl (fun _ => 0))), (a30, .inl (y 0, 7, .inl (upd (upd (upd (upd (upd (upd (upd (upd (upd (upd (upd (upd (upd (upd (upd (upd (upd (upd (upd (upd (upd (fun _ => 0) 0 99999) 1 99999) 2 99999) 3 99999) 4 99999) 5 99999) 6 99999) 0 99999) 1 99999) 2 99999) 3 99999) 4 99999) 5 99999) 6 99999) 0 99999) 1 99999) 2 99999) 3 99999) 4 99999) 5 99999) 6 99999)))]) (zrunV (As := []) (rest := []) ⟨hx, hb, hml, hown, ht⟩ (zc_X10_layRain_0 l D y a0 (.int 0) w2 (.int 20) (.int 3) w3 w4 w5 w6 w7 w8 w9 w10 (.ref a11) w12 w13 w14 w15 w16 w17 w18 w19 w20 w21 w22 w23 w24 w25 w26 w27 w28 w29 (.ref a30) w31 w32 w33 w34 w35 w36 w37 w38 w39 w40 w41 w42 w43 w44 w45 w46 w47 w48 w49 w50 w51 w52 w53 w54 w55 w56 w57 w58 w59 w60 w61 w62 w63 w64 w65 w66 w67 w68 w69 w70 w71) (cwV 0 ht (zgV zm_377 zm_378 zm_379 zm_5 zm_380) rfl rfl rfl (by decide +kernel) ⟨(Nat.le_of_ble_eq_true rfl), (Nat.le_of_ble_eq_true rfl)⟩) hK hE hS hA hW [0] (by decide) rfl 0 rfl rfl rfl rfl hl.1 rfl (Nat.le_of_ble_eq_true rfl) dX10_sides_36 (Nat.le_of_ble_eq_true rfl) (Nat.le_of_ble_eq_true rfl)) hS hA hW [0] [1, 2] rfl rfl (by decide) (by decide) (fun u H locs hw hW hS => ?_)
      have hW : zPD D A [(a11, .inl (y 2, 7, .inl (fun _ => 0))), (a30, .inl (y 0, 7, .inl (upd (upd (upd (upd (upd (upd (upd (upd (upd (upd (upd (upd (upd (upd (upd (upd (upd (upd (upd (upd (upd (fun _ => 0) 0 99999) 1 99999) 2 99999) 3 99999) 4 99999) 5 99999) 6 99999) 0 99999) 1 99999) 2 99999) 3 99999) 4 99999) 5 99999) 6 99999) 0 99999) 1 99999) 2 99999) 3 99999) 4 99999) 5 99999) 6 99999))), (a0, .inr (9, [.int 0, .int 0, w2, .int 20, .int 3, w3, w4, w5, w6, w7, w8, w9, w10, .ref a11, w12, .int (-1), w13, w14, w15, w16, w17, w18, w19, w20, w21, w22, w23, w24, w25, w26, w27, w28, .int 0, w29, .ref a30, w31, w32, w33, w34, w35, w36, w37, w38, w39, w40, w41, w42, w43, w44, w45, w46, w47, w48, w49, w50, w51, w52, w53, w54, w55, w56, w57, w58, w59, w60, w61, w62, w63, w64, w65, w66, w67, w68, w69, w70, w71]))] H := hW
      refine lv_aload_n hx hb dX10_sides_39 rfl (lv_at hl 4 rfl) ?_
      refine zgo_i (wr := []) (zrunV (As := []) (rest := []) ⟨hx, hb, hml, hown, ht⟩ (zc_X10_costOfNone_3 l D y a0 w2 (.int 3) w3 w4 w5 w6 w7 w8 w9 w10 a11 w12 w13 w14 w15 w16 w17 w18 w19 w20 w21 w22 w23 w24 w25 w26 w27 w28 (.int 0) w29 a30 w31 w32 w33 w34 w35 w36 w37 w38 w39 w40 w41 w42 w43 w44 w45 w46 w47 w48 w49 w50 w51 w52 w53 w54 w55 w56 w57 w58 w59 w60 w61 w62 w63 w64 w65 w66 w67 w68 w69 w70 w71) (cwV 0 ht (zgV zm_975 zm_976 zm_977 zm_5 zm_978) rfl rfl rfl (by decide +kernel) ⟨(Nat.le_of_ble_eq_true rfl), (Nat.le_of_ble_eq_true rfl)⟩) hK hE hS hA hW [2, 0, 1] (by decide) rfl 0 rfl rfl rfl rfl hl.1 rfl (Nat.le_of_ble_eq_true rfl) dX10_sides_40 (Nat.le_of_ble_eq_true rfl) (Nat.le_of_ble_eq_true rfl)) hS hA hW [2, 0, 1] [] rfl rfl (by decide) (by decide) (fun r25_ u H locs hw hW hS => ?_)
      have hW : zPD D A [(a0, .inr (9, [.int 0, .int 0, w2, .int 20, .int 3, w3, w4, w5, w6, w7, w8, w9, w10, .ref a11, w12, .int (-1), w13, w14, w15, w16, w17, w18, w19, w20, w21, w22, w23, w24, w25, w26, w27, w28, .int 0, w29, .ref a30, w31, w32, w33, w34, w35, w36, w37, w38, w39, w40, w41, w42, w43, w44, w45, w46, w47, w48, w49, w50, w51, w52, w53, w54, w55, w56, w57, w58, w59, w60, w61, w62, w63, w64, w65, w66, w67, w68, w69, w70, w71])), (a11, .inl (y 2, 7, .inl (fun _ => 0))), (a30, .inl (y 0, 7, .inl (upd (upd (upd (upd (upd (upd (upd (upd (upd (upd (upd (upd (upd (upd (upd (upd (upd (upd (upd (upd (upd (upd (upd (upd (upd (upd (upd (upd (fun _ => 0) 0 99999) 1 99999) 2 99999) 3 99999) 4 99999) 5 99999) 6 99999) 0 99999) 1 99999) 2 99999) 3 99999) 4 99999) 5 99999) 6 99999) 0 99999) 1 99999) 2 99999) 3 99999) 4 99999) 5 99999) 6 99999) 0 99999) 1 99999) 2 99999) 3 99999) 4 99999) 5 99999) 6 99999)))] H := hW
      have hw : r25_ = 0 := hw
      subst hw
      refine lv_istore (lv' := [(5, .int 0), (4, .int 0), (3, .int 0), (2, .int 0), (0, .ref a0), (1, .int p1)]) hx hb dX10_sides_43 hl (by decide) rfl (fun ls hl => ?_)
      refine lv_iload hx hb dX10_sides_45 (lv_at hl 0 rfl) ?_
      refine lv_iload hx hb dX10_sides_47 (lv_at hl 1 rfl) ?_
      refine lv_icmp_gt (tgt := 55) hx hb dX10_sides_49 (by decide) (fun c26_ => absurd c26_ (by decide)) (fun c26_ => ?_)
      refine lv_goto (tgt := 64) hx hb dX10_sides_52 (by decide) ?_
      refine lv_aload_n hx hb dX10_sides_64 rfl (lv_at hl 4 rfl) ?_
      refine lv_dup hx hb dX10_sides_65 rfl ?_
      refine zget hx hb ht inlX10 hown hK hW 0 rfl rfl 4 (by decide) zm_144 rfl dX10_sides_66 ?_
      refine lv_iconst (v := 1) hx hb dX10_sides_69 (by decide) ?_
      refine lv_iadd hx hb dX10_sides_70 ?_
      refine ztop (w := .int 4) (congrArg Value.int (by decide)) ?_
      refine zput (ws' := [(a0, .inr (9, [.int 0, .int 0, w2, .int 20, .int 4, w3, w4, w5, w6, w7, w8, w9, w10, .ref a11, w12, .int (-1), w13, w14, w15, w16, w17, w18, w19, w20, w21, w22, w23, w24, w25, w26, w27, w28, .int 0, w29, .ref a30, w31, w32, w33, w34, w35, w36, w37, w38, w39, w40, w41, w42, w43, w44, w45, w46, w47, w48, w49, w50, w51, w52, w53, w54, w55, w56, w57, w58, w59, w60, w61, w62, w63, w64, w65, w66, w67, w68, w69, w70, w71])), (a11, .inl (y 2, 7, .inl (fun _ => 0))), (a30, .inl (y 0, 7, .inl (upd (upd (upd (upd (upd (upd (upd (upd (upd (upd (upd (upd (upd (upd (upd (upd (upd (upd (upd (upd (upd (upd (upd (upd (upd (upd (upd (upd (fun _ => 0) 0 99999) 1 99999) 2 99999) 3 99999) 4 99999) 5 99999) 6 99999) 0 99999) 1 99999) 2 99999) 3 99999) 4 99999) 5 99999) 6 99999) 0 99999) 1 99999) 2 99999) 3 99999) 4 99999) 5 99999) 6 99999) 0 99999) 1 99999) 2 99999) 3 99999) 4 99999) 5 99999) 6 99999)))]) hx hb ht inlX10 tyX10 tyX10_ok nmX10 hown hK hS hW 0 rfl rfl 4 (by decide) zm_144 rfl rfl rfl (Nat.le_of_ble_eq_true rfl) rfl dX10_sides_71 (fun H locs hW hS => ?_)
      refine lv_goto (tgt := 27) hx hb dX10_sides_74 (by decide) ?_
      refine lv_aload_n hx hb dX10_sides_27 rfl (lv_at hl 4 rfl) ?_
      refine zget hx hb ht inlX10 hown hK hW 0 rfl rfl 4 (by decide) zm_144 rfl dX10_sides_28 ?_
      refine lv_iconst (v := 4) hx hb dX10_sides_31 (by decide) ?_
      refine lv_icmp_ge (tgt := 77) hx hb dX10_sides_32 (by decide) (fun c27_ => ?_) (fun c27_ => absurd (by decide) c27_)
      refine lv_aload_n hx hb dX10_sides_77 rfl (lv_at hl 4 rfl) ?_
      refine lv_iload_n hx hb dX10_sides_78 rfl (lv_at hl 3 rfl) ?_
      refine zput (ws' := [(a0, .inr (9, [.int 0, .int 0, w2, .int 20, .int 0, w3, w4, w5, w6, w7, w8, w9, w10, .ref a11, w12, .int (-1), w13, w14, w15, w16, w17, w18, w19, w20, w21, w22, w23, w24, w25, w26, w27, w28, .int 0, w29, .ref a30, w31, w32, w33, w34, w35, w36, w37, w38, w39, w40, w41, w42, w43, w44, w45, w46, w47, w48, w49, w50, w51, w52, w53, w54, w55, w56, w57, w58, w59, w60, w61, w62, w63, w64, w65, w66, w67, w68, w69, w70, w71])), (a11, .inl (y 2, 7, .inl (fun _ => 0))), (a30, .inl (y 0, 7, .inl (upd (upd (upd (upd (upd (upd (upd (upd (upd (upd (upd (upd (upd (upd (upd (upd (upd (upd (upd (upd (upd (upd (upd (upd (upd (upd (upd (upd (fun _ => 0) 0 99999) 1 99999) 2 99999) 3 99999) 4 99999) 5 99999) 6 99999) 0 99999) 1 99999) 2 99999) 3 99999) 4 99999) 5 99999) 6 99999) 0 99999) 1 99999) 2 99999) 3 99999) 4 99999) 5 99999) 6 99999) 0 99999) 1 99999) 2 99999) 3 99999) 4 99999) 5 99999) 6 99999)))]) hx hb ht inlX10 tyX10 tyX10_ok nmX10 hown hK hS hW 0 rfl rfl 4 (by decide) zm_144 rfl rfl rfl (Nat.le_of_ble_eq_true rfl) rfl dX10_sides_79 (fun H locs hW hS => ?_)
      refine lv_iload_n hx hb dX10_sides_82 rfl (lv_at hl 5 rfl) ?_
      refine lv_if_ne (tgt := 90) hx hb dX10_sides_83 (by decide) (fun c28_ => ?_) (fun c28_ => ?_)
      · have b29_ : 1 ≤ Int32.toInt p1 ∧ Int32.toInt p1 ≤ 1 := (by have u0 := b9_; have u1 := (not_congr (zi_eq _ _)).mp c28_; have u2 : (0 : Int32).toInt = 0 := (by decide); omega)
        refine lv_iload hx hb dX10_sides_90 (lv_at hl 1 rfl) ?_
        exact zret_i (v := 0) hx hb hr hlocks hS () (by show _ = _; rw [if_neg c2_, if_neg c6_]) (hW.sub [] (by decide) rfl) (Nat.le_of_ble_eq_true rfl) (Nat.le_of_ble_eq_true rfl) dX10_sides_92
      · have b30_ : 0 ≤ Int32.toInt p1 ∧ Int32.toInt p1 ≤ 0 := (by have u0 := b9_; have u1 := (zi_eq _ _).mp c28_; have u2 : (0 : Int32).toInt = 0 := (by decide); omega)
        refine lv_iload_n hx hb dX10_sides_86 rfl (lv_at hl 2 rfl) ?_
        refine lv_goto (tgt := 92) hx hb dX10_sides_87 (by decide) ?_
        exact zret_i (v := 0) hx hb hr hlocks hS () (by show _ = _; rw [if_neg c2_, if_neg c6_]) (hW.sub [] (by decide) rfl) (Nat.le_of_ble_eq_true rfl) (Nat.le_of_ble_eq_true rfl) dX10_sides_92
set_option maxHeartbeats 8000000 in
set_option maxRecDepth 100000 in
theorem zc_X1_stormEnd_1 (l : Launch) (D : va_G) (y : Nat → ClassId) (a0 : Nat) (a1 : Nat) (w2 : Value) (w3 : Value) (w4 : Value) (w5 : Value) (w6 : Value) (w7 : Value) (w8 : Value) (w9 : Value) (w10 : Value) (w11 : Value) (w12 : Value) (w13 : Value) (w14 : Value) (w15 : Value) (w16 : Value) (a17 : Nat) (w18 : Value) (w19 : Value) (w20 : Value) (w21 : Value) (w22 : Value) (w23 : Value) (w24 : Value) (w25 : Value) (w26 : Value) (w27 : Value) : zM l D y yX1_stormEnd (Cond.code yX1_stormEnd cX1_stormEnd 1 (some .int) :: zT) { frames := 0, cells := 0, slots := 0, locals := 0 } [.ref a0] [(a0, .inr (1, [.ref a1, w2, .int 0, w3, w4, w5, w6, w7, w8])), (a1, .inr (6, [w9, w10, w11, w12, w13, w14, w15, w16, .ref a17, w18, w19, w20])), (a17, .inr (2, [w21, .int 15, w22, w23, w24, w25, w26, w27]))] (zQi (S := Unit) D (fun r_ _ => r_ = 15) (fun _ => [(a0, .inr (1, [.ref a1, w2, .int 0, w3, w4, w5, w6, w7, w8])), (a1, .inr (6, [w9, w10, w11, w12, w13, w14, w15, w16, .ref a17, w18, w19, w20])), (a17, .inr (2, [w21, .int 15, w22, w23, w24, w25, w26, w27]))])) := by
  refine zent (cc := cX1_stormEnd) (maxL := 1) (ret := (some .int)) (by decide) (Nat.le_of_ble_eq_true rfl) ?_
  intro p e s m below meth c A H locs ls hx hb hml hr ht hown hlocks hin hA hK hE hS hW hl
  have hown : s.vm.findClass RX1 = some m.cls := hown
  have hW : zPD D A [(a0, .inr (1, [.ref a1, w2, .int 0, w3, w4, w5, w6, w7, w8])), (a1, .inr (6, [w9, w10, w11, w12, w13, w14, w15, w16, .ref a17, w18, w19, w20])), (a17, .inr (2, [w21, .int 15, w22, w23, w24, w25, w26, w27]))] H := hW
  have hl : lv_has ls 1 [(0, .ref a0)] := hl
  refine lv_aload_n hx hb dX1_stormEnd_0 rfl (lv_at hl 0 rfl) ?_
  refine zget hx hb ht inlX1 hown hK hW 0 rfl rfl 2 (by decide) zm_110 rfl dX1_stormEnd_1 ?_
  refine lv_aload_n hx hb dX1_stormEnd_4 rfl (lv_at hl 0 rfl) ?_
  refine zget hx hb ht inlX1 hown hK hW 0 rfl rfl 0 (by decide) zm_119 rfl dX1_stormEnd_5 ?_
  refine zget hx hb ht inlX7 hown hK hW 1 rfl rfl 8 (by decide) zm_290 rfl dX1_stormEnd_8 ?_
  refine zget hx hb ht inlX2 hown hK hW 2 rfl rfl 1 (by decide) zm_291 rfl dX1_stormEnd_11 ?_
  refine lv_iadd hx hb dX1_stormEnd_14 ?_
  refine ztop (w := .int 15) (congrArg Value.int (by decide)) ?_
  exact zret_i (v := 15) hx hb hr hlocks hS () rfl hW (Nat.le_of_ble_eq_true rfl) (Nat.le_of_ble_eq_true rfl) dX1_stormEnd_15
set_option maxHeartbeats 8000000 in
set_option maxRecDepth 100000 in
theorem zc_X1_harmOfAll_2 (l : Launch) (D : va_G) (y : Nat → ClassId) (a0 : Nat) (a1 : Nat) (w2 : Value) (w3 : Value) (w4 : Value) (w5 : Value) (w6 : Value) (w7 : Value) (w8 : Value) (w9 : Value) (w10 : Value) (w11 : Value) (w12 : Value) (w13 : Value) (w14 : Value) (w15 : Value) (w16 : Value) (w17 : Value) (w18 : Value) (w19 : Value) (w20 : Value) : zM l D y yX1_harmOfAll (Cond.code yX1_harmOfAll cX1_harmOfAll 5 (some .int) :: zT) { frames := 0, cells := 0, slots := 0, locals := 0 } [.ref a0, .int 0, .int 15] [(a0, .inr (1, [.ref a1, w2, w3, w4, w5, w6, w7, w8, w9])), (a1, .inr (6, [w10, .int 0, w11, w12, w13, w14, w15, w16, w17, w18, w19, w20]))] (zQi (S := Unit) D (fun r_ _ => r_ = 0) (fun _ => [(a0, .inr (1, [.ref a1, w2, w3, w4, w5, w6, w7, w8, w9])), (a1, .inr (6, [w10, .int 0, w11, w12, w13, w14, w15, w16, w17, w18, w19, w20]))])) := by
  refine zent (cc := cX1_harmOfAll) (maxL := 5) (ret := (some .int)) (by decide) (Nat.le_of_ble_eq_true rfl) ?_
  intro p e s m below meth c A H locs ls hx hb hml hr ht hown hlocks hin hA hK hE hS hW hl
  have hown : s.vm.findClass RX1 = some m.cls := hown
  have hW : zPD D A [(a0, .inr (1, [.ref a1, w2, w3, w4, w5, w6, w7, w8, w9])), (a1, .inr (6, [w10, .int 0, w11, w12, w13, w14, w15, w16, w17, w18, w19, w20]))] H := hW
  have hl : lv_has ls 5 [(0, .ref a0), (1, .int 0), (2, .int 15)] := hl
  refine lv_iconst (v := 0) hx hb dX1_harmOfAll_0 (by decide) ?_
  refine lv_istore_n (lv' := [(3, .int 0), (0, .ref a0), (1, .int 0), (2, .int 15)]) hx hb dX1_harmOfAll_1 rfl hl (by decide) rfl (fun ls hl => ?_)
  refine lv_iconst (v := 0) hx hb dX1_harmOfAll_2 (by decide) ?_
  refine lv_istore (lv' := [(4, .int 0), (3, .int 0), (0, .ref a0), (1, .int 0), (2, .int 15)]) hx hb dX1_harmOfAll_3 hl (by decide) rfl (fun ls hl => ?_)
  refine lv_iload hx hb dX1_harmOfAll_5 (lv_at hl 0 rfl) ?_
  refine lv_aload_n hx hb dX1_harmOfAll_7 rfl (lv_at hl 2 rfl) ?_
  refine zget hx hb ht inlX1 hown hK hW 0 rfl rfl 0 (by decide) zm_119 rfl dX1_harmOfAll_8 ?_
  refine zget hx hb ht inlX7 hown hK hW 1 rfl rfl 1 (by decide) zm_284 rfl dX1_harmOfAll_11 ?_
  refine lv_icmp_ge (tgt := 34) hx hb dX1_harmOfAll_14 (by decide) (fun c1_ => ?_) (fun c1_ => absurd (by decide) c1_)
  refine lv_iload_n hx hb dX1_harmOfAll_34 rfl (lv_at hl 1 rfl) ?_
  exact zret_i (v := 0) hx hb hr hlocks hS () rfl hW (Nat.le_of_ble_eq_true rfl) (Nat.le_of_ble_eq_true rfl) dX1_harmOfAll_35
set_option maxHeartbeats 8000000 in
set_option maxRecDepth 100000 in
theorem zc_X1_cost_1 (l : Launch) (D : va_G) (y : Nat → ClassId) (a0 : Nat) (a1 : Nat) (w2 : Value) (w3 : Value) (w4 : Value) (w5 : Value) (w6 : Value) (w7 : Value) (w8 : Value) (w9 : Value) (w10 : Value) (w11 : Value) (w12 : Value) (w13 : Value) (w14 : Value) (a15 : Nat) (w16 : Value) (w17 : Value) (w18 : Value) (w19 : Value) (w20 : Value) (w21 : Value) (w22 : Value) (w23 : Value) (w24 : Value) (w25 : Value) : zM l D y yX1_cost (Cond.code yX1_cost cX1_cost 1 (some .int) :: zT) { frames := 1, cells := 0, slots := 0, locals := 24 } [.ref a0] [(a0, .inr (1, [.ref a1, w2, .int 0, w3, w4, w5, w6, w7, w8])), (a1, .inr (6, [w9, .int 0, w10, w11, .int 0, w12, w13, w14, .ref a15, w16, w17, w18])), (a15, .inr (2, [w19, .int 15, w20, w21, w22, w23, w24, w25]))] (zQi (S := Unit) D (fun r_ _ => r_ = 0) (fun _ => [(a0, .inr (1, [.ref a1, w2, .int 0, w3, w4, w5, w6, w7, w8])), (a1, .inr (6, [w9, .int 0, w10, w11, .int 0, w12, w13, w14, .ref a15, w16, w17, w18])), (a15, .inr (2, [w19, .int 15, w20, w21, w22, w23, w24, w25]))])) := by
  refine zent (cc := cX1_cost) (maxL := 1) (ret := (some .int)) (by decide) (Nat.le_of_ble_eq_true rfl) ?_
  intro p e s m below meth c A H locs ls hx hb hml hr ht hown hlocks hin hA hK hE hS hW hl
  have hown : s.vm.findClass RX1 = some m.cls := hown
  have hW : zPD D A [(a0, .inr (1, [.ref a1, w2, .int 0, w3, w4, w5, w6, w7, w8])), (a1, .inr (6, [w9, .int 0, w10, w11, .int 0, w12, w13, w14, .ref a15, w16, w17, w18])), (a15, .inr (2, [w19, .int 15, w20, w21, w22, w23, w24, w25]))] H := hW
  have hl : lv_has ls 1 [(0, .ref a0)] := hl
  refine lv_aload_n hx hb dX1_cost_0 rfl (lv_at hl 0 rfl) ?_
  refine lv_aload_n hx hb dX1_cost_1 rfl (lv_at hl 0 rfl) ?_
  refine zget hx hb ht inlX1 hown hK hW 0 rfl rfl 0 (by decide) zm_119 rfl dX1_cost_2 ?_
  refine zget hx hb ht inlX7 hown hK hW 1 rfl rfl 4 (by decide) zm_815 rfl dX1_cost_5 ?_
  refine lv_aload_n hx hb dX1_cost_8 rfl (lv_at hl 0 rfl) ?_
  refine zgo_i (wr := []) (zrunV (As := []) (rest := [.int 0, .ref a0]) ⟨hx, hb, hml, hown, ht⟩ (zc_X1_stormEnd_1 l D y a0 a1 w2 w3 w4 w5 w6 w7 w8 w9 (.int 0) w10 w11 (.int 0) w12 w13 w14 a15 w16 w17 w18 w19 w20 w21 w22 w23 w24 w25) (cwV 0 ht (zgV zm_337 zm_338 zm_339 zm_28 zm_340) rfl rfl rfl (by decide +kernel) ⟨(Nat.le_of_ble_eq_true rfl), (Nat.le_of_ble_eq_true rfl)⟩) hK hE hS hA hW [0, 1, 2] (by decide) rfl 0 rfl rfl rfl rfl hl.1 rfl (Nat.le_of_ble_eq_true rfl) dX1_cost_9 (Nat.le_of_ble_eq_true rfl) (Nat.le_of_ble_eq_true rfl)) hS hA hW [0, 1, 2] [] rfl rfl (by decide) (by decide) (fun r1_ u H locs hw hW hS => ?_)
  have hW : zPD D A [(a0, .inr (1, [.ref a1, w2, .int 0, w3, w4, w5, w6, w7, w8])), (a1, .inr (6, [w9, .int 0, w10, w11, .int 0, w12, w13, w14, .ref a15, w16, w17, w18])), (a15, .inr (2, [w19, .int 15, w20, w21, w22, w23, w24, w25]))] H := hW
  have hw : r1_ = 15 := hw
  subst hw
  refine zgo_i (wr := [(a15, .inr (2, [w19, .int 15, w20, w21, w22, w23, w24, w25]))]) (zrunV (As := [.int 0, .int 15]) (rest := []) ⟨hx, hb, hml, hown, ht⟩ (zc_X1_harmOfAll_2 l D y a0 a1 w2 (.int 0) w3 w4 w5 w6 w7 w8 w9 w10 w11 (.int 0) w12 w13 w14 (.ref a15) w16 w17 w18) (cwV 2 ht (zgV zm_831 zm_733 zm_734 zm_28 zm_735) rfl rfl rfl (by decide +kernel) ⟨(Nat.le_of_ble_eq_true rfl), (Nat.le_of_ble_eq_true rfl)⟩) hK hE hS hA hW [0, 1] (by decide) rfl 0 rfl rfl rfl rfl hl.1 rfl (Nat.le_of_ble_eq_true rfl) dX1_cost_12 (Nat.le_of_ble_eq_true rfl) (Nat.le_of_ble_eq_true rfl)) hS hA hW [0, 1] [2] rfl rfl (by decide) (by decide) (fun r2_ u H locs hw hW hS => ?_)
  have hW : zPD D A [(a15, .inr (2, [w19, .int 15, w20, w21, w22, w23, w24, w25])), (a0, .inr (1, [.ref a1, w2, .int 0, w3, w4, w5, w6, w7, w8])), (a1, .inr (6, [w9, .int 0, w10, w11, .int 0, w12, w13, w14, .ref a15, w16, w17, w18]))] H := hW
  have hw : r2_ = 0 := hw
  subst hw
  exact zret_i (v := 0) hx hb hr hlocks hS () rfl (hW.sub [1, 2, 0] (by decide) rfl) (Nat.le_of_ble_eq_true rfl) (Nat.le_of_ble_eq_true rfl) dX1_cost_15
set_option maxHeartbeats 8000000 in
set_option maxRecDepth 100000 in
theorem zc_X1_stormEnd_2 (l : Launch) (D : va_G) (y : Nat → ClassId) (a0 : Nat) (a1 : Nat) (w2 : Value) (p3 : Int32) (w4 : Value) (w5 : Value) (w6 : Value) (w7 : Value) (w8 : Value) (w9 : Value) (w10 : Value) (w11 : Value) (w12 : Value) (w13 : Value) (w14 : Value) (w15 : Value) (w16 : Value) (w17 : Value) (a18 : Nat) (w19 : Value) (w20 : Value) (w21 : Value) (w22 : Value) (w23 : Value) (w24 : Value) (w25 : Value) (w26 : Value) (w27 : Value) (w28 : Value) : zM l D y yX1_stormEnd (Cond.code yX1_stormEnd cX1_stormEnd 1 (some .int) :: zT) { frames := 0, cells := 0, slots := 0, locals := 0 } [.ref a0] [(a0, .inr (1, [.ref a1, w2, .int p3, w4, w5, w6, w7, w8, w9])), (a1, .inr (6, [w10, w11, w12, w13, w14, w15, w16, w17, .ref a18, w19, w20, w21])), (a18, .inr (2, [w22, .int 15, w23, w24, w25, w26, w27, w28]))] (zQi (S := Unit) D (fun r_ _ => r_ = (p3 + 15)) (fun _ => [(a0, .inr (1, [.ref a1, w2, .int p3, w4, w5, w6, w7, w8, w9])), (a1, .inr (6, [w10, w11, w12, w13, w14, w15, w16, w17, .ref a18, w19, w20, w21])), (a18, .inr (2, [w22, .int 15, w23, w24, w25, w26, w27, w28]))])) := by
  refine zent (cc := cX1_stormEnd) (maxL := 1) (ret := (some .int)) (by decide) (Nat.le_of_ble_eq_true rfl) ?_
  intro p e s m below meth c A H locs ls hx hb hml hr ht hown hlocks hin hA hK hE hS hW hl
  have hown : s.vm.findClass RX1 = some m.cls := hown
  have hW : zPD D A [(a0, .inr (1, [.ref a1, w2, .int p3, w4, w5, w6, w7, w8, w9])), (a1, .inr (6, [w10, w11, w12, w13, w14, w15, w16, w17, .ref a18, w19, w20, w21])), (a18, .inr (2, [w22, .int 15, w23, w24, w25, w26, w27, w28]))] H := hW
  have hl : lv_has ls 1 [(0, .ref a0)] := hl
  refine lv_aload_n hx hb dX1_stormEnd_0 rfl (lv_at hl 0 rfl) ?_
  refine zget hx hb ht inlX1 hown hK hW 0 rfl rfl 2 (by decide) zm_110 rfl dX1_stormEnd_1 ?_
  refine lv_aload_n hx hb dX1_stormEnd_4 rfl (lv_at hl 0 rfl) ?_
  refine zget hx hb ht inlX1 hown hK hW 0 rfl rfl 0 (by decide) zm_119 rfl dX1_stormEnd_5 ?_
  refine zget hx hb ht inlX7 hown hK hW 1 rfl rfl 8 (by decide) zm_290 rfl dX1_stormEnd_8 ?_
  refine zget hx hb ht inlX2 hown hK hW 2 rfl rfl 1 (by decide) zm_291 rfl dX1_stormEnd_11 ?_
  refine lv_iadd hx hb dX1_stormEnd_14 ?_
  exact zret_i (v := (p3 + 15)) hx hb hr hlocks hS () rfl hW (Nat.le_of_ble_eq_true rfl) (Nat.le_of_ble_eq_true rfl) dX1_stormEnd_15
set_option maxHeartbeats 8000000 in
set_option maxRecDepth 100000 in
theorem zc_X1_cost_2 (l : Launch) (D : va_G) (y : Nat → ClassId) (a0 : Nat) (a1 : Nat) (w2 : Value) (p3 : Int32) (w4 : Value) (w5 : Value) (w6 : Value) (w7 : Value) (w8 : Value) (w9 : Value) (w10 : Value) (w11 : Value) (w12 : Value) (w13 : Value) (w14 : Value) (w15 : Value) (a16 : Nat) (w17 : Value) (w18 : Value) (w19 : Value) (w20 : Value) (w21 : Value) (w22 : Value) (w23 : Value) (w24 : Value) (w25 : Value) (w26 : Value) : zM l D y yX1_cost (Cond.code yX1_cost cX1_cost 1 (some .int) :: zT) { frames := 1, cells := 0, slots := 0, locals := 24 } [.ref a0] [(a0, .inr (1, [.ref a1, w2, .int p3, w4, w5, w6, w7, w8, w9])), (a1, .inr (6, [w10, .int 0, w11, w12, .int 0, w13, w14, w15, .ref a16, w17, w18, w19])), (a16, .inr (2, [w20, .int 15, w21, w22, w23, w24, w25, w26]))] (zQi (S := Unit) D (fun r_ _ => r_ = 0) (fun _ => [(a0, .inr (1, [.ref a1, w2, .int p3, w4, w5, w6, w7, w8, w9])), (a1, .inr (6, [w10, .int 0, w11, w12, .int 0, w13, w14, w15, .ref a16, w17, w18, w19])), (a16, .inr (2, [w20, .int 15, w21, w22, w23, w24, w25, w26]))])) := by
  refine zent (cc := cX1_cost) (maxL := 1) (ret := (some .int)) (by decide) (Nat.le_of_ble_eq_true rfl) ?_
  intro p e s m below meth c A H locs ls hx hb hml hr ht hown hlocks hin hA hK hE hS hW hl
  have hown : s.vm.findClass RX1 = some m.cls := hown
  have hW : zPD D A [(a0, .inr (1, [.ref a1, w2, .int p3, w4, w5, w6, w7, w8, w9])), (a1, .inr (6, [w10, .int 0, w11, w12, .int 0, w13, w14, w15, .ref a16, w17, w18, w19])), (a16, .inr (2, [w20, .int 15, w21, w22, w23, w24, w25, w26]))] H := hW
  have hl : lv_has ls 1 [(0, .ref a0)] := hl
  refine lv_aload_n hx hb dX1_cost_0 rfl (lv_at hl 0 rfl) ?_
  refine lv_aload_n hx hb dX1_cost_1 rfl (lv_at hl 0 rfl) ?_
  refine zget hx hb ht inlX1 hown hK hW 0 rfl rfl 0 (by decide) zm_119 rfl dX1_cost_2 ?_
  refine zget hx hb ht inlX7 hown hK hW 1 rfl rfl 4 (by decide) zm_815 rfl dX1_cost_5 ?_
  refine lv_aload_n hx hb dX1_cost_8 rfl (lv_at hl 0 rfl) ?_
  refine zgo_i (wr := []) (zrunV (As := []) (rest := [.int 0, .ref a0]) ⟨hx, hb, hml, hown, ht⟩ (zc_X1_stormEnd_2 l D y a0 a1 w2 p3 w4 w5 w6 w7 w8 w9 w10 (.int 0) w11 w12 (.int 0) w13 w14 w15 a16 w17 w18 w19 w20 w21 w22 w23 w24 w25 w26) (cwV 0 ht (zgV zm_337 zm_338 zm_339 zm_28 zm_340) rfl rfl rfl (by decide +kernel) ⟨(Nat.le_of_ble_eq_true rfl), (Nat.le_of_ble_eq_true rfl)⟩) hK hE hS hA hW [0, 1, 2] (by decide) rfl 0 rfl rfl rfl rfl hl.1 rfl (Nat.le_of_ble_eq_true rfl) dX1_cost_9 (Nat.le_of_ble_eq_true rfl) (Nat.le_of_ble_eq_true rfl)) hS hA hW [0, 1, 2] [] rfl rfl (by decide) (by decide) (fun r1_ u H locs hw hW hS => ?_)
  have hW : zPD D A [(a0, .inr (1, [.ref a1, w2, .int p3, w4, w5, w6, w7, w8, w9])), (a1, .inr (6, [w10, .int 0, w11, w12, .int 0, w13, w14, w15, .ref a16, w17, w18, w19])), (a16, .inr (2, [w20, .int 15, w21, w22, w23, w24, w25, w26]))] H := hW
  have hw : r1_ = (p3 + 15) := hw
  subst hw
  refine zgo_i (wr := [(a16, .inr (2, [w20, .int 15, w21, w22, w23, w24, w25, w26]))]) (zrunV (As := [.int 0, .int (p3 + 15)]) (rest := []) ⟨hx, hb, hml, hown, ht⟩ (zc_X1_harmOfAll_0 l D y a0 (p3 + 15) a1 w2 (.int p3) w4 w5 w6 w7 w8 w9 w10 w11 w12 (.int 0) w13 w14 w15 (.ref a16) w17 w18 w19) (cwV 2 ht (zgV zm_831 zm_733 zm_734 zm_28 zm_735) rfl rfl rfl (by decide +kernel) ⟨(Nat.le_of_ble_eq_true rfl), (Nat.le_of_ble_eq_true rfl)⟩) hK hE hS hA hW [0, 1] (by decide) rfl 0 rfl rfl rfl rfl hl.1 rfl (Nat.le_of_ble_eq_true rfl) dX1_cost_12 (Nat.le_of_ble_eq_true rfl) (Nat.le_of_ble_eq_true rfl)) hS hA hW [0, 1] [2] rfl rfl (by decide) (by decide) (fun r2_ u H locs hw hW hS => ?_)
  have hW : zPD D A [(a16, .inr (2, [w20, .int 15, w21, w22, w23, w24, w25, w26])), (a0, .inr (1, [.ref a1, w2, .int p3, w4, w5, w6, w7, w8, w9])), (a1, .inr (6, [w10, .int 0, w11, w12, .int 0, w13, w14, w15, .ref a16, w17, w18, w19]))] H := hW
  have hw : r2_ = 0 := hw
  subst hw
  exact zret_i (v := 0) hx hb hr hlocks hS () rfl (hW.sub [1, 2, 0] (by decide) rfl) (Nat.le_of_ble_eq_true rfl) (Nat.le_of_ble_eq_true rfl) dX1_cost_15
set_option maxHeartbeats 8000000 in
set_option maxRecDepth 100000 in
theorem zc_X9_begin_0 (l : Launch) (D : va_G) (y : Nat → ClassId) (a0 : Nat) (p1 : Int32) (w2 : Value) (w3 : Value) (w4 : Value) (w5 : Value) (w6 : Value) (w7 : Value) (a8 : Nat) (w9 : Value) (w10 : Value) (a11 : Nat) (w12 : Value) (w13 : Value) (w14 : Value) (w15 : Value) (w16 : Value) (a17 : Nat) (w18 : Value) (w19 : Value) (a20 : Nat) (a21 : Nat) (w22 : Value) (w23 : Value) (w24 : Value) (w25 : Value) (w26 : Value) (w27 : Value) (w28 : Value) (w29 : Value) (w30 : Value) (w31 : Value) (w32 : Value) : zM l D y yX9_begin (Cond.code yX9_begin cX9_begin 6 (some .int) :: zT) { frames := 2, cells := 0, slots := 0, locals := 50 } [.ref a0, .int p1] [(a0, .inr (8, [w2, w3, w4, w5, w6, w7, .ref a8, w9, w10])), (a8, .inr (1, [.ref a11, .int 0, .int 0, w12, w13, w14, w15, w16, .ref a17])), (a11, .inr (6, [w18, .int 0, .int 20, .int 0, .int 0, w19, .int 0, .int 0, .ref a20, .ref a21, w22, w23])), (a17, .inl (y 2, 4, .inl (fun _ => 0))), (a20, .inr (2, [w24, .int 15, w25, w26, w27, w28, w29, w30])), (a21, .inr (5, [.int 0, w31, w32]))] (zQi (S := Unit) D (fun r_ _ => r_ = (if p1 < 0 then (-1) else (if 1 < p1 then (-1) else 0))) (fun _ => [])) := by
  refine zent (cc := cX9_begin) (maxL := 6) (ret := (some .int)) (by decide) (Nat.le_of_ble_eq_true rfl) ?_
  intro p e s m below meth c A H locs ls hx hb hml hr ht hown hlocks hin hA hK hE hS hW hl
  have hown : s.vm.findClass RX9 = some m.cls := hown
  replace hW : zPD D A [(a0, .inr (8, [w2, w3, w4, w5, w6, w7, .ref a8, w9, w10])), (a8, .inr (1, [.ref a11, .int 0, .int 0, w12, w13, w14, w15, w16, .ref a17])), (a11, .inr (6, [w18, .int 0, .int 20, .int 0, .int 0, w19, .int 0, .int 0, .ref a20, .ref a21, w22, w23])), (a17, .inl (y 2, 4, .inl (fun _ => 0))), (a20, .inr (2, [w24, .int 15, w25, w26, w27, w28, w29, w30])), (a21, .inr (5, [.int 0, w31, w32]))] H := hW
  replace hl : lv_has ls 6 [(0, .ref a0), (1, .int p1)] := hl
  refine lv_iload_n hx hb dX9_begin_0 rfl (lv_at hl 1 rfl) ?_
  refine lv_iconst (v := 0) hx hb dX9_begin_1 (by decide) ?_
  refine lv_iconst (v := 1) hx hb dX9_begin_2 (by decide) ?_
  refine zgo0_i (zrunS (As := [.int p1, .int 0, .int 1]) (rest := []) ⟨hx, hb, hml, hown, ht⟩ (zc_X9_within_10 l D y p1) (va_cwS 3 ht (zgS zm_222 zm_223 zm_2 zm_224) rfl rfl rfl (by decide +kernel) ⟨(Nat.le_of_ble_eq_true rfl), (Nat.le_of_ble_eq_true rfl)⟩) hK hE hS hA hW [] (by decide) rfl rfl hl.1 rfl (Nat.le_of_ble_eq_true rfl) dX9_begin_3 (Nat.le_of_ble_eq_true rfl) (Nat.le_of_ble_eq_true rfl)) hS hA hW (fun r1_ u H locs hw hW hS => ?_)
  have hw : r1_ = (if p1 < 0 then 0 else (if 1 < p1 then 0 else 1)) := hw
  by_cases c2_ : p1 < 0
  · have b3_ : (-2147483648) ≤ Int32.toInt p1 ∧ Int32.toInt p1 ≤ (-1) := (by have u0 := zbnd p1; have u1 := (zi_lt _ _).mp c2_; have u2 : (0 : Int32).toInt = 0 := (by decide); omega)
    rw [if_pos c2_] at hw
    subst hw
    refine lv_if_ne (tgt := 11) hx hb dX9_begin_6 (by decide) (fun c4_ => absurd (by decide) c4_) (fun c4_ => ?_)
    refine lv_iconst (v := (-1)) hx hb dX9_begin_9 (by decide) ?_
    exact zret_i (v := (-1)) hx hb hr hlocks hS () (by show _ = _; rw [if_pos c2_]) (hW.sub [] (by decide) rfl) (Nat.le_of_ble_eq_true rfl) (Nat.le_of_ble_eq_true rfl) dX9_begin_10
  · have b5_ : 0 ≤ Int32.toInt p1 ∧ Int32.toInt p1 ≤ 2147483647 := (by have u0 := zbnd p1; have u1 := (not_congr (zi_lt _ _)).mp c2_; have u2 : (0 : Int32).toInt = 0 := (by decide); omega)
    rw [if_neg c2_] at hw
    by_cases c6_ : 1 < p1
    · have b7_ : 2 ≤ Int32.toInt p1 ∧ Int32.toInt p1 ≤ 2147483647 := (by have u0 := b5_; have u1 := (zi_lt _ _).mp c6_; have u2 : (1 : Int32).toInt = 1 := (by decide); omega)
      rw [if_pos c6_] at hw
      subst hw
      refine lv_if_ne (tgt := 11) hx hb dX9_begin_6 (by decide) (fun c8_ => absurd (by decide) c8_) (fun c8_ => ?_)
      refine lv_iconst (v := (-1)) hx hb dX9_begin_9 (by decide) ?_
      exact zret_i (v := (-1)) hx hb hr hlocks hS () (by show _ = _; rw [if_neg c2_, if_pos c6_]) (hW.sub [] (by decide) rfl) (Nat.le_of_ble_eq_true rfl) (Nat.le_of_ble_eq_true rfl) dX9_begin_10
    · have b9_ : 0 ≤ Int32.toInt p1 ∧ Int32.toInt p1 ≤ 1 := (by have u0 := b5_; have u1 := (not_congr (zi_lt _ _)).mp c6_; have u2 : (1 : Int32).toInt = 1 := (by decide); omega)
      rw [if_neg c6_] at hw
      subst hw
      refine lv_if_ne (tgt := 11) hx hb dX9_begin_6 (by decide) (fun c10_ => ?_) (fun c10_ => absurd c10_ (by decide))
      refine lv_aload_n hx hb dX9_begin_11 rfl (lv_at hl 0 rfl) ?_
      refine zget hx hb ht inlX9 hown hK hW 0 rfl rfl 6 (by decide) zm_29 rfl dX9_begin_12 ?_
      refine zgo_v (wr := [(a0, .inr (8, [w2, w3, w4, w5, w6, w7, .ref a8, w9, w10])), (a20, .inr (2, [w24, .int 15, w25, w26, w27, w28, w29, w30])), (a21, .inr (5, [.int 0, w31, w32]))]) (zrunV (As := []) (rest := []) ⟨hx, hb, hml, hown, ht⟩ (zc_X1_beginFromNow_0 l D y a8 a11 w12 w13 w14 w15 w16 a17 w18 (.int 0) w19 (.int 0) (.int 0) (.ref a20) (.ref a21) w22 w23) (cwV 0 ht (zgV zm_274 zm_275 zm_276 zm_28 zm_277) rfl rfl rfl (by decide +kernel) ⟨(Nat.le_of_ble_eq_true rfl), (Nat.le_of_ble_eq_true rfl)⟩) hK hE hS hA hW [1, 2, 3] (by decide) rfl 0 rfl rfl rfl rfl hl.1 rfl (Nat.le_of_ble_eq_true rfl) dX9_begin_15 (Nat.le_of_ble_eq_true rfl) (Nat.le_of_ble_eq_true rfl)) hS hA hW [1, 2, 3] [0, 4, 5] rfl rfl (by decide) (by decide) (fun u H locs hw hW hS => ?_)
      replace hW : zPD D A [(a0, .inr (8, [w2, w3, w4, w5, w6, w7, .ref a8, w9, w10])), (a20, .inr (2, [w24, .int 15, w25, w26, w27, w28, w29, w30])), (a21, .inr (5, [.int 0, w31, w32])), (a8, .inr (1, [.ref a11, .int 0, .int 20, w12, w13, w14, w15, w16, .ref a17])), (a11, .inr (6, [w18, .int 0, .int 20, .int 0, .int 0, w19, .int 0, .int 0, .ref a20, .ref a21, w22, w23])), (a17, .inl (y 2, 4, .inl (upd (fun _ => 0) 0 1)))] H := hW
      refine lv_aload_n hx hb dX9_begin_18 rfl (lv_at hl 0 rfl) ?_
      refine zget hx hb ht inlX9 hown hK hW 0 rfl rfl 6 (by decide) zm_29 rfl dX9_begin_19 ?_
      refine lv_iconst (v := 0) hx hb dX9_begin_22 (by decide) ?_
      refine zgo_i (wr := [(a0, .inr (8, [w2, w3, w4, w5, w6, w7, .ref a8, w9, w10])), (a20, .inr (2, [w24, .int 15, w25, w26, w27, w28, w29, w30])), (a17, .inl (y 2, 4, .inl (upd (fun _ => 0) 0 1)))]) (zrunV (As := [.int 0]) (rest := []) ⟨hx, hb, hml, hown, ht⟩ (zc_X1_goRound_0 l D y a8 a11 (.int 0) (.int 20) w12 w13 w14 w15 w16 (.ref a17) w18 (.int 0) (.int 20) (.int 0) w19 (.ref a20) a21 w22 w23 w31 w32) (cwV 1 ht (zgV zm_809 zm_810 zm_811 zm_28 zm_812) rfl rfl rfl (by decide +kernel) ⟨(Nat.le_of_ble_eq_true rfl), (Nat.le_of_ble_eq_true rfl)⟩) hK hE hS hA hW [3, 4, 2] (by decide) rfl 0 rfl rfl rfl rfl hl.1 rfl (Nat.le_of_ble_eq_true rfl) dX9_begin_23 (Nat.le_of_ble_eq_true rfl) (Nat.le_of_ble_eq_true rfl)) hS hA hW [3, 4, 2] [0, 1, 5] rfl rfl (by decide) (by decide) (fun r12_ u H locs hw hW hS => ?_)
      replace hW : zPD D A [(a0, .inr (8, [w2, w3, w4, w5, w6, w7, .ref a8, w9, w10])), (a20, .inr (2, [w24, .int 15, w25, w26, w27, w28, w29, w30])), (a17, .inl (y 2, 4, .inl (upd (fun _ => 0) 0 1))), (a8, .inr (1, [.ref a11, .int 0, .int 20, w12, w13, w14, w15, w16, .ref a17])), (a11, .inr (6, [w18, .int 0, .int 20, .int 0, .int 0, w19, .int 0, .int 0, .ref a20, .ref a21, w22, w23])), (a21, .inr (5, [.int 0, w31, w32]))] H := hW
      have hw : r12_ = 0 := hw
      subst hw
      refine lv_pop hx hb dX9_begin_26 rfl ?_
      refine lv_iconst (v := 0) hx hb dX9_begin_27 (by decide) ?_
      refine lv_istore_n (lv' := [(2, .int 0), (0, .ref a0), (1, .int p1)]) hx hb dX9_begin_28 rfl hl (by decide) rfl (fun ls hl => ?_)
      refine lv_iconst (v := (-1)) hx hb dX9_begin_29 (by decide) ?_
      refine lv_istore_n (lv' := [(3, .int (-1)), (2, .int 0), (0, .ref a0), (1, .int p1)]) hx hb dX9_begin_30 rfl hl (by decide) rfl (fun ls hl => ?_)
      refine lv_iconst (v := 0) hx hb dX9_begin_31 (by decide) ?_
      refine lv_istore (lv' := [(4, .int 0), (3, .int (-1)), (2, .int 0), (0, .ref a0), (1, .int p1)]) hx hb dX9_begin_32 hl (by decide) rfl (fun ls hl => ?_)
      refine lv_iload hx hb dX9_begin_34 (lv_at hl 0 rfl) ?_
      refine lv_bipush (v := 99) hx hb dX9_begin_36 (by decide) ?_
      refine lv_icmp_gt (tgt := 77) hx hb dX9_begin_38 (by decide) (fun c13_ => absurd c13_ (by decide)) (fun c13_ => ?_)
      refine lv_aload_n hx hb dX9_begin_41 rfl (lv_at hl 3 rfl) ?_
      refine zget hx hb ht inlX9 hown hK hW 0 rfl rfl 6 (by decide) zm_29 rfl dX9_begin_42 ?_
      refine lv_iload hx hb dX9_begin_45 (lv_at hl 0 rfl) ?_
      refine zput (ws' := [(a0, .inr (8, [w2, w3, w4, w5, w6, w7, .ref a8, w9, w10])), (a20, .inr (2, [w24, .int 15, w25, w26, w27, w28, w29, w30])), (a17, .inl (y 2, 4, .inl (upd (fun _ => 0) 0 1))), (a8, .inr (1, [.ref a11, .int 0, .int 0, w12, w13, w14, w15, w16, .ref a17])), (a11, .inr (6, [w18, .int 0, .int 20, .int 0, .int 0, w19, .int 0, .int 0, .ref a20, .ref a21, w22, w23])), (a21, .inr (5, [.int 0, w31, w32]))]) hx hb ht inlX1 tyX1 tyX1_ok nmX1 hown hK hS hW 3 rfl rfl 2 (by decide) zm_992 rfl rfl rfl (Nat.le_of_ble_eq_true rfl) rfl dX9_begin_47 (fun H locs hW hS => ?_)
      refine lv_aload_n hx hb dX9_begin_50 rfl (lv_at hl 3 rfl) ?_
      refine zget hx hb ht inlX9 hown hK hW 0 rfl rfl 6 (by decide) zm_29 rfl dX9_begin_51 ?_
      refine zgo_i (wr := [(a0, .inr (8, [w2, w3, w4, w5, w6, w7, .ref a8, w9, w10])), (a17, .inl (y 2, 4, .inl (upd (fun _ => 0) 0 1))), (a21, .inr (5, [.int 0, w31, w32]))]) (zrunV (As := []) (rest := []) ⟨hx, hb, hml, hown, ht⟩ (zc_X1_cost_1 l D y a8 a11 (.int 0) w12 w13 w14 w15 w16 (.ref a17) w18 (.int 20) (.int 0) w19 (.int 0) (.int 0) a20 (.ref a21) w22 w23 w24 w25 w26 w27 w28 w29 w30) (cwV 0 ht (zgV zm_827 zm_828 zm_829 zm_28 zm_830) rfl rfl rfl (by decide +kernel) ⟨(Nat.le_of_ble_eq_true rfl), (Nat.le_of_ble_eq_true rfl)⟩) hK hE hS hA hW [3, 4, 1] (by decide) rfl 0 rfl rfl rfl rfl hl.1 rfl (Nat.le_of_ble_eq_true rfl) dX9_begin_54 (Nat.le_of_ble_eq_true rfl) (Nat.le_of_ble_eq_true rfl)) hS hA hW [3, 4, 1] [0, 2, 5] rfl rfl (by decide) (by decide) (fun r14_ u H locs hw hW hS => ?_)
      replace hW : zPD D A [(a0, .inr (8, [w2, w3, w4, w5, w6, w7, .ref a8, w9, w10])), (a17, .inl (y 2, 4, .inl (upd (fun _ => 0) 0 1))), (a21, .inr (5, [.int 0, w31, w32])), (a8, .inr (1, [.ref a11, .int 0, .int 0, w12, w13, w14, w15, w16, .ref a17])), (a11, .inr (6, [w18, .int 0, .int 20, .int 0, .int 0, w19, .int 0, .int 0, .ref a20, .ref a21, w22, w23])), (a20, .inr (2, [w24, .int 15, w25, w26, w27, w28, w29, w30]))] H := hW
      have hw : r14_ = 0 := hw
      subst hw
      refine lv_istore (lv' := [(5, .int 0), (4, .int 0), (3, .int (-1)), (2, .int 0), (0, .ref a0), (1, .int p1)]) hx hb dX9_begin_57 hl (by decide) rfl (fun ls hl => ?_)
      refine lv_iload hx hb dX9_begin_59 (lv_at hl 0 rfl) ?_
      refine lv_iload_n hx hb dX9_begin_61 rfl (lv_at hl 2 rfl) ?_
      refine lv_icmp_le (tgt := 71) hx hb dX9_begin_62 (by decide) (fun c15_ => absurd c15_ (by decide)) (fun c15_ => ?_)
      refine lv_iload hx hb dX9_begin_65 (lv_at hl 0 rfl) ?_
      refine lv_istore_n (lv' := [(3, .int 0), (5, .int 0), (4, .int 0), (2, .int 0), (0, .ref a0), (1, .int p1)]) hx hb dX9_begin_67 rfl hl (by decide) rfl (fun ls hl => ?_)
      refine lv_iload hx hb dX9_begin_68 (lv_at hl 2 rfl) ?_
      refine lv_istore_n (lv' := [(2, .int 0), (3, .int 0), (5, .int 0), (4, .int 0), (0, .ref a0), (1, .int p1)]) hx hb dX9_begin_70 rfl hl (by decide) rfl (fun ls hl => ?_)
      refine lv_iinc (k := 3) (v := 1) (lv' := [(4, .int 1), (2, .int 0), (3, .int 0), (5, .int 0), (0, .ref a0), (1, .int p1)]) hx hb dX9_begin_71 hl rfl (by decide) (by decide) rfl (fun ls hl => ?_)
      refine lv_goto (tgt := 34) hx hb dX9_begin_74 (by decide) ?_
      obtain ⟨x16_, ex16_⟩ : ∃ z : Int32, z = 1 := ⟨_, rfl⟩
      obtain ⟨x17_, ex17_⟩ : ∃ z : Int32, z = 0 := ⟨_, rfl⟩
      obtain ⟨n34_, hI34_⟩ : ∃ n : Nat, (1 ≤ Int32.toInt x16_ ∧ Int32.toInt x16_ ≤ 100) ∧ (0 ≤ Int32.toInt x17_ ∧ Int32.toInt x17_ ≤ 99) ∧ (100 - Int32.toInt x16_ < (n : Int)) ∧ zPD D A [(a0, .inr (8, [w2, w3, w4, w5, w6, w7, .ref a8, w9, w10])), (a17, .inl (y 2, 4, .inl (upd (fun _ => 0) 0 1))), (a21, .inr (5, [.int 0, w31, w32])), (a8, .inr (1, [.ref a11, .int 0, .int x17_, w12, w13, w14, w15, w16, .ref a17])), (a11, .inr (6, [w18, .int 0, .int 20, .int 0, .int 0, w19, .int 0, .int 0, .ref a20, .ref a21, w22, w23])), (a20, .inr (2, [w24, .int 15, w25, w26, w27, w28, w29, w30]))] H ∧ va_S A s.heap H locs ∧ lv_has ls 6 [(4, .int x16_), (2, .int 0), (3, .int 0), (5, .int 0), (0, .ref a0), (1, .int p1)] := ⟨(100 - Int32.toInt x16_ + 1).toNat, by rw [ex16_]; exact (by decide), by rw [ex17_]; exact (by decide), by omega, by (try rw [ex16_]); (try rw [ex17_]); exact hW, hS, by (try rw [ex16_]); (try rw [ex17_]); exact hl⟩
      clear hW hS hl ex16_ ex17_
      induction n34_ generalizing x16_ x17_ H locs ls with
      | zero => obtain ⟨bx16_, bx17_, hn, -⟩ := hI34_; exact absurd hn (by omega)
      | succ n ih =>
        obtain ⟨bx16_, bx17_, hn, hW, hS, hl⟩ := hI34_
        refine lv_iload hx hb dX9_begin_34 (lv_at hl 0 rfl) ?_
        refine lv_bipush (v := 99) hx hb dX9_begin_36 (by decide) ?_
        refine lv_icmp_gt (tgt := 77) hx hb dX9_begin_38 (by decide) (fun c18_ => ?_) (fun c18_ => ?_)
        · have b19_ : 100 ≤ Int32.toInt x16_ ∧ Int32.toInt x16_ ≤ 100 := (by have u0 := bx16_; have u1 := (zi_lt _ _).mp c18_; have u2 : (99 : Int32).toInt = 99 := (by decide); omega)
          refine lv_iload_n hx hb dX9_begin_77 rfl (lv_at hl 5 rfl) ?_
          refine lv_if_ne (tgt := 85) hx hb dX9_begin_78 (by decide) (fun c20_ => ?_) (fun c20_ => ?_)
          · have b21_ : 1 ≤ Int32.toInt p1 ∧ Int32.toInt p1 ≤ 1 := (by have u0 := b9_; have u1 := (not_congr (zi_eq _ _)).mp c20_; have u2 : (0 : Int32).toInt = 0 := (by decide); omega)
            refine lv_iload_n hx hb dX9_begin_85 rfl (lv_at hl 2 rfl) ?_
            exact zret_i (v := 0) hx hb hr hlocks hS () (by show _ = _; rw [if_neg c2_, if_neg c6_]) (hW.sub [] (by decide) rfl) (Nat.le_of_ble_eq_true rfl) (Nat.le_of_ble_eq_true rfl) dX9_begin_86
          · have b22_ : 0 ≤ Int32.toInt p1 ∧ Int32.toInt p1 ≤ 0 := (by have u0 := b9_; have u1 := (zi_eq _ _).mp c20_; have u2 : (0 : Int32).toInt = 0 := (by decide); omega)
            refine lv_iload_n hx hb dX9_begin_81 rfl (lv_at hl 1 rfl) ?_
            refine lv_goto (tgt := 86) hx hb dX9_begin_82 (by decide) ?_
            exact zret_i (v := 0) hx hb hr hlocks hS () (by show _ = _; rw [if_neg c2_, if_neg c6_]) (hW.sub [] (by decide) rfl) (Nat.le_of_ble_eq_true rfl) (Nat.le_of_ble_eq_true rfl) dX9_begin_86
        · have b23_ : 1 ≤ Int32.toInt x16_ ∧ Int32.toInt x16_ ≤ 99 := (by have u0 := bx16_; have u1 := (not_congr (zi_lt _ _)).mp c18_; have u2 : (99 : Int32).toInt = 99 := (by decide); omega)
          refine lv_aload_n hx hb dX9_begin_41 rfl (lv_at hl 4 rfl) ?_
          refine zget hx hb ht inlX9 hown hK hW 0 rfl rfl 6 (by decide) zm_29 rfl dX9_begin_42 ?_
          refine lv_iload hx hb dX9_begin_45 (lv_at hl 0 rfl) ?_
          refine zput (ws' := [(a0, .inr (8, [w2, w3, w4, w5, w6, w7, .ref a8, w9, w10])), (a17, .inl (y 2, 4, .inl (upd (fun _ => 0) 0 1))), (a21, .inr (5, [.int 0, w31, w32])), (a8, .inr (1, [.ref a11, .int 0, .int x16_, w12, w13, w14, w15, w16, .ref a17])), (a11, .inr (6, [w18, .int 0, .int 20, .int 0, .int 0, w19, .int 0, .int 0, .ref a20, .ref a21, w22, w23])), (a20, .inr (2, [w24, .int 15, w25, w26, w27, w28, w29, w30]))]) hx hb ht inlX1 tyX1 tyX1_ok nmX1 hown hK hS hW 3 rfl rfl 2 (by decide) zm_992 rfl rfl rfl (Nat.le_of_ble_eq_true rfl) rfl dX9_begin_47 (fun H locs hW hS => ?_)
          refine lv_aload_n hx hb dX9_begin_50 rfl (lv_at hl 4 rfl) ?_
          refine zget hx hb ht inlX9 hown hK hW 0 rfl rfl 6 (by decide) zm_29 rfl dX9_begin_51 ?_
          refine zgo_i (wr := [(a0, .inr (8, [w2, w3, w4, w5, w6, w7, .ref a8, w9, w10])), (a17, .inl (y 2, 4, .inl (upd (fun _ => 0) 0 1))), (a21, .inr (5, [.int 0, w31, w32]))]) (zrunV (As := []) (rest := []) ⟨hx, hb, hml, hown, ht⟩ (zc_X1_cost_2 l D y a8 a11 (.int 0) x16_ w12 w13 w14 w15 w16 (.ref a17) w18 (.int 20) (.int 0) w19 (.int 0) (.int 0) a20 (.ref a21) w22 w23 w24 w25 w26 w27 w28 w29 w30) (cwV 0 ht (zgV zm_827 zm_828 zm_829 zm_28 zm_830) rfl rfl rfl (by decide +kernel) ⟨(Nat.le_of_ble_eq_true rfl), (Nat.le_of_ble_eq_true rfl)⟩) hK hE hS hA hW [3, 4, 5] (by decide) rfl 0 rfl rfl rfl rfl hl.1 rfl (Nat.le_of_ble_eq_true rfl) dX9_begin_54 (Nat.le_of_ble_eq_true rfl) (Nat.le_of_ble_eq_true rfl)) hS hA hW [3, 4, 5] [0, 1, 2] rfl rfl (by decide) (by decide) (fun r24_ u H locs hw hW hS => ?_)
          replace hW : zPD D A [(a0, .inr (8, [w2, w3, w4, w5, w6, w7, .ref a8, w9, w10])), (a17, .inl (y 2, 4, .inl (upd (fun _ => 0) 0 1))), (a21, .inr (5, [.int 0, w31, w32])), (a8, .inr (1, [.ref a11, .int 0, .int x16_, w12, w13, w14, w15, w16, .ref a17])), (a11, .inr (6, [w18, .int 0, .int 20, .int 0, .int 0, w19, .int 0, .int 0, .ref a20, .ref a21, w22, w23])), (a20, .inr (2, [w24, .int 15, w25, w26, w27, w28, w29, w30]))] H := hW
          have hw : r24_ = 0 := hw
          subst hw
          refine lv_istore (lv' := [(5, .int 0), (4, .int x16_), (2, .int 0), (3, .int 0), (0, .ref a0), (1, .int p1)]) hx hb dX9_begin_57 hl (by decide) rfl (fun ls hl => ?_)
          refine lv_iload hx hb dX9_begin_59 (lv_at hl 0 rfl) ?_
          refine lv_iload_n hx hb dX9_begin_61 rfl (lv_at hl 3 rfl) ?_
          refine lv_icmp_le (tgt := 71) hx hb dX9_begin_62 (by decide) (fun c25_ => ?_) (fun c25_ => absurd (by decide) c25_)
          refine lv_iinc (k := 1) (v := (x16_ + 1)) (lv' := [(4, .int (x16_ + 1)), (5, .int 0), (2, .int 0), (3, .int 0), (0, .ref a0), (1, .int p1)]) hx hb dX9_begin_71 hl rfl (by rfl) (by decide) rfl (fun ls hl => ?_)
          refine lv_goto (tgt := 34) hx hb dX9_begin_74 (by decide) ?_
          have b26_ : 2 ≤ Int32.toInt (x16_ + 1) ∧ Int32.toInt (x16_ + 1) ≤ 100 := by have u0 := b23_; have u1 := zadd_1 x16_ (by omega); omega
          exact ih _ _ _ _ _ ⟨(by have u0 := b26_; omega), (by have u0 := b23_; omega), by have u0 := zadd_1 x16_ (by have u0 := b23_; omega); omega, hW, hS, (lv_sub hl [0, 2, 3, 1, 4, 5] rfl)⟩
set_option maxHeartbeats 8000000 in
set_option maxRecDepth 100000 in
theorem zc_X10_harmFrom_2 (l : Launch) (D : va_G) (y : Nat → ClassId) (a0 : Nat) (w1 : Value) (w2 : Value) (w3 : Value) (w4 : Value) (w5 : Value) (w6 : Value) (w7 : Value) (w8 : Value) (w9 : Value) (w10 : Value) (w11 : Value) (w12 : Value) (w13 : Value) (w14 : Value) (w15 : Value) (w16 : Value) (w17 : Value) (w18 : Value) (w19 : Value) (w20 : Value) (w21 : Value) (w22 : Value) (w23 : Value) (w24 : Value) (w25 : Value) (w26 : Value) (w27 : Value) (w28 : Value) (w29 : Value) (w30 : Value) (w31 : Value) (w32 : Value) (w33 : Value) (w34 : Value) (w35 : Value) (w36 : Value) (w37 : Value) (w38 : Value) (w39 : Value) (w40 : Value) (w41 : Value) (w42 : Value) (w43 : Value) (w44 : Value) (w45 : Value) (w46 : Value) (w47 : Value) (w48 : Value) (w49 : Value) (w50 : Value) (w51 : Value) (w52 : Value) (w53 : Value) (w54 : Value) (w55 : Value) (w56 : Value) (w57 : Value) (w58 : Value) (w59 : Value) (w60 : Value) (w61 : Value) (w62 : Value) (w63 : Value) (w64 : Value) (w65 : Value) (w66 : Value) (w67 : Value) (w68 : Value) (w69 : Value) (w70 : Value) (w71 : Value) (w72 : Value) (w73 : Value) : zM l D y yX10_harmFrom (Cond.code yX10_harmFrom cX10_harmFrom 5 (some .int) :: zT) { frames := 3, cells := 0, slots := 0, locals := 64 } [.ref a0, .int 0, .int 15] [(a0, .inr (9, [.int 0, w1, w2, .int 0, w3, w4, w5, w6, w7, w8, w9, w10, w11, w12, w13, .int (-1), w14, w15, w16, w17, w18, w19, w20, w21, w22, w23, w24, w25, w26, w27, w28, w29, w30, w31, w32, w33, w34, w35, w36, w37, w38, w39, w40, w41, w42, w43, w44, w45, w46, w47, w48, w49, w50, w51, w52, w53, w54, w55, w56, w57, w58, w59, w60, w61, w62, w63, w64, w65, w66, w67, w68, w69, w70, w71, w72, w73]))] (zQi (S := Unit) D (fun r_ _ => r_ = 0) (fun _ => [(a0, .inr (9, [.int 0, w1, w2, .int 0, w3, w4, w5, w6, w7, w8, w9, w10, w11, w12, w13, .int (-1), w14, w15, w16, w17, w18, w19, w20, w21, w22, w23, w24, w25, w26, w27, w28, w29, w30, w31, w32, w33, w34, w35, w36, w37, w38, w39, w40, w41, w42, w43, w44, w45, w46, w47, w48, w49, w50, w51, w52, w53, w54, w55, w56, w57, w58, w59, w60, w61, w62, w63, w64, w65, w66, w67, w68, w69, w70, w71, w72, w73]))])) := by
  refine zent (cc := cX10_harmFrom) (maxL := 5) (ret := (some .int)) (by decide) (Nat.le_of_ble_eq_true rfl) ?_
  intro p e s m below meth c A H locs ls hx hb hml hr ht hown hlocks hin hA hK hE hS hW hl
  have hown : s.vm.findClass RX10 = some m.cls := hown
  replace hW : zPD D A [(a0, .inr (9, [.int 0, w1, w2, .int 0, w3, w4, w5, w6, w7, w8, w9, w10, w11, w12, w13, .int (-1), w14, w15, w16, w17, w18, w19, w20, w21, w22, w23, w24, w25, w26, w27, w28, w29, w30, w31, w32, w33, w34, w35, w36, w37, w38, w39, w40, w41, w42, w43, w44, w45, w46, w47, w48, w49, w50, w51, w52, w53, w54, w55, w56, w57, w58, w59, w60, w61, w62, w63, w64, w65, w66, w67, w68, w69, w70, w71, w72, w73]))] H := hW
  replace hl : lv_has ls 5 [(0, .ref a0), (1, .int 0), (2, .int 15)] := hl
  refine lv_iconst (v := 0) hx hb dX10_harmFrom_0 (by decide) ?_
  refine lv_istore_n (lv' := [(3, .int 0), (0, .ref a0), (1, .int 0), (2, .int 15)]) hx hb dX10_harmFrom_1 rfl hl (by decide) rfl (fun ls hl => ?_)
  refine lv_iload_n hx hb dX10_harmFrom_2 rfl (lv_at hl 2 rfl) ?_
  refine lv_aload_n hx hb dX10_harmFrom_3 rfl (lv_at hl 1 rfl) ?_
  refine zget hx hb ht inlX10 hown hK hW 0 rfl rfl 3 (by decide) zm_143 rfl dX10_harmFrom_4 ?_
  refine lv_icmp_ge (tgt := 17) hx hb dX10_harmFrom_7 (by decide) (fun c1_ => ?_) (fun c1_ => absurd (by decide) c1_)
  refine lv_iload_n hx hb dX10_harmFrom_17 rfl (lv_at hl 2 rfl) ?_
  refine lv_istore (lv' := [(4, .int 0), (3, .int 0), (0, .ref a0), (1, .int 0), (2, .int 15)]) hx hb dX10_harmFrom_18 hl (by decide) rfl (fun ls hl => ?_)
  obtain ⟨x2_, ex2_⟩ : ∃ z : Int32, z = 0 := ⟨_, rfl⟩
  obtain ⟨n20_, hI20_⟩ : ∃ n : Nat, (0 ≤ Int32.toInt x2_ ∧ Int32.toInt x2_ ≤ 250) ∧ (250 - Int32.toInt x2_ < (n : Int)) ∧ zPD D A [(a0, .inr (9, [.int 0, w1, w2, .int 0, w3, w4, w5, w6, w7, w8, w9, w10, w11, w12, w13, .int (-1), w14, w15, w16, w17, w18, w19, w20, w21, w22, w23, w24, w25, w26, w27, w28, w29, w30, w31, w32, w33, w34, w35, w36, w37, w38, w39, w40, w41, w42, w43, w44, w45, w46, w47, w48, w49, w50, w51, w52, w53, w54, w55, w56, w57, w58, w59, w60, w61, w62, w63, w64, w65, w66, w67, w68, w69, w70, w71, w72, w73]))] H ∧ va_S A s.heap H locs ∧ lv_has ls 5 [(4, .int x2_), (3, .int 0), (0, .ref a0), (1, .int 0), (2, .int 15)] := ⟨(250 - Int32.toInt x2_ + 1).toNat, by rw [ex2_]; exact (by decide), by omega, by (try rw [ex2_]); exact hW, hS, by (try rw [ex2_]); exact hl⟩
  clear hW hS hl ex2_
  induction n20_ generalizing x2_ H locs ls with
  | zero => obtain ⟨bx2_, hn, -⟩ := hI20_; exact absurd hn (by omega)
  | succ n ih =>
    obtain ⟨bx2_, hn, hW, hS, hl⟩ := hI20_
    refine lv_iload hx hb dX10_harmFrom_20 (lv_at hl 0 rfl) ?_
    refine lv_iload_n hx hb dX10_harmFrom_22 rfl (lv_at hl 4 rfl) ?_
    refine lv_icmp_ge (tgt := 55) hx hb dX10_harmFrom_23 (by decide) (fun c3_ => ?_) (fun c3_ => ?_)
    · have b4_ : 15 ≤ Int32.toInt x2_ ∧ Int32.toInt x2_ ≤ 250 := (by have u0 := bx2_; have u1 := (zi_le _ _).mp c3_; have u2 : (15 : Int32).toInt = 15 := (by decide); omega)
      refine lv_iload_n hx hb dX10_harmFrom_55 rfl (lv_at hl 1 rfl) ?_
      exact zret_i (v := 0) hx hb hr hlocks hS () rfl hW (Nat.le_of_ble_eq_true rfl) (Nat.le_of_ble_eq_true rfl) dX10_harmFrom_56
    · have b5_ : 0 ≤ Int32.toInt x2_ ∧ Int32.toInt x2_ ≤ 14 := (by have u0 := bx2_; have u1 := (not_congr (zi_le _ _)).mp c3_; have u2 : (15 : Int32).toInt = 15 := (by decide); omega)
      refine lv_iload hx hb dX10_harmFrom_26 (lv_at hl 0 rfl) ?_
      refine lv_aload_n hx hb dX10_harmFrom_28 rfl (lv_at hl 2 rfl) ?_
      refine zget hx hb ht inlX10 hown hK hW 0 rfl rfl 3 (by decide) zm_143 rfl dX10_harmFrom_29 ?_
      refine lv_aload_n hx hb dX10_harmFrom_32 rfl (lv_at hl 2 rfl) ?_
      refine zgo_i (wr := []) (zrunV (As := []) (rest := [.int 0, .int x2_]) ⟨hx, hb, hml, hown, ht⟩ (zc_X10_lastNow_0 l D y a0 (.int 0) w1 w2 (.int 0) w3 w4 w5 w6 w7 w8 w9 w10 w11 w12 w13 w14 w15 w16 w17 w18 w19 w20 w21 w22 w23 w24 w25 w26 w27 w28 w29 w30 w31 w32 w33 w34 w35 w36 w37 w38 w39 w40 w41 w42 w43 w44 w45 w46 w47 w48 w49 w50 w51 w52 w53 w54 w55 w56 w57 w58 w59 w60 w61 w62 w63 w64 w65 w66 w67 w68 w69 w70 w71 w72 w73) (cwV 0 ht (zgV zm_381 zm_382 zm_383 zm_5 zm_384) rfl rfl rfl (by decide +kernel) ⟨(Nat.le_of_ble_eq_true rfl), (Nat.le_of_ble_eq_true rfl)⟩) hK hE hS hA hW [0] (by decide) rfl 0 rfl rfl rfl rfl hl.1 rfl (Nat.le_of_ble_eq_true rfl) dX10_harmFrom_33 (Nat.le_of_ble_eq_true rfl) (Nat.le_of_ble_eq_true rfl)) hS hA hW [0] [] rfl rfl (by decide) (by decide) (fun r6_ u H locs hw hW hS => ?_)
      replace hW : zPD D A [(a0, .inr (9, [.int 0, w1, w2, .int 0, w3, w4, w5, w6, w7, w8, w9, w10, w11, w12, w13, .int (-1), w14, w15, w16, w17, w18, w19, w20, w21, w22, w23, w24, w25, w26, w27, w28, w29, w30, w31, w32, w33, w34, w35, w36, w37, w38, w39, w40, w41, w42, w43, w44, w45, w46, w47, w48, w49, w50, w51, w52, w53, w54, w55, w56, w57, w58, w59, w60, w61, w62, w63, w64, w65, w66, w67, w68, w69, w70, w71, w72, w73]))] H := hW
      have hw : r6_ = 15 := hw
      subst hw
      refine lv_iadd hx hb dX10_harmFrom_36 ?_
      refine ztop (w := .int 15) (congrArg Value.int (by decide)) ?_
      refine lv_icmp_ge (tgt := 55) hx hb dX10_harmFrom_37 (by decide) (fun c7_ => absurd c7_ c3_) (fun c7_ => ?_)
      refine lv_iload_n hx hb dX10_harmFrom_40 rfl (lv_at hl 1 rfl) ?_
      refine lv_aload_n hx hb dX10_harmFrom_41 rfl (lv_at hl 2 rfl) ?_
      refine lv_iload hx hb dX10_harmFrom_42 (lv_at hl 0 rfl) ?_
      refine zgo_i (wr := []) (zrunV (As := [.int x2_]) (rest := [.int 0]) ⟨hx, hb, hml, hown, ht⟩ (zc_X10_harmAt_0 l D y a0 x2_ w1 w2 (.int 0) w3 w4 w5 w6 w7 w8 w9 w10 w11 w12 w13 (.int (-1)) w14 w15 w16 w17 w18 w19 w20 w21 w22 w23 w24 w25 w26 w27 w28 w29 w30 w31 w32 w33 w34 w35 w36 w37 w38 w39 w40 w41 w42 w43 w44 w45 w46 w47 w48 w49 w50 w51 w52 w53 w54 w55 w56 w57 w58 w59 w60 w61 w62 w63 w64 w65 w66 w67 w68 w69 w70 w71 w72 w73) (cwV 1 ht (zgV zm_750 zm_751 zm_752 zm_5 zm_753) rfl rfl rfl (by decide +kernel) ⟨(Nat.le_of_ble_eq_true rfl), (Nat.le_of_ble_eq_true rfl)⟩) hK hE hS hA hW [0] (by decide) rfl 0 rfl rfl rfl rfl hl.1 rfl (Nat.le_of_ble_eq_true rfl) dX10_harmFrom_44 (Nat.le_of_ble_eq_true rfl) (Nat.le_of_ble_eq_true rfl)) hS hA hW [0] [] rfl rfl (by decide) (by decide) (fun r8_ u H locs hw hW hS => ?_)
      replace hW : zPD D A [(a0, .inr (9, [.int 0, w1, w2, .int 0, w3, w4, w5, w6, w7, w8, w9, w10, w11, w12, w13, .int (-1), w14, w15, w16, w17, w18, w19, w20, w21, w22, w23, w24, w25, w26, w27, w28, w29, w30, w31, w32, w33, w34, w35, w36, w37, w38, w39, w40, w41, w42, w43, w44, w45, w46, w47, w48, w49, w50, w51, w52, w53, w54, w55, w56, w57, w58, w59, w60, w61, w62, w63, w64, w65, w66, w67, w68, w69, w70, w71, w72, w73]))] H := hW
      have hw : r8_ = 0 := hw
      subst hw
      refine lv_iadd hx hb dX10_harmFrom_47 ?_
      refine ztop (w := .int 0) (congrArg Value.int (by decide)) ?_
      refine lv_istore_n (lv' := [(3, .int 0), (4, .int x2_), (0, .ref a0), (1, .int 0), (2, .int 15)]) hx hb dX10_harmFrom_48 rfl hl (by decide) rfl (fun ls hl => ?_)
      refine lv_iinc (k := 1) (v := (x2_ + 1)) (lv' := [(4, .int (x2_ + 1)), (3, .int 0), (0, .ref a0), (1, .int 0), (2, .int 15)]) hx hb dX10_harmFrom_49 hl rfl (by rfl) (by decide) rfl (fun ls hl => ?_)
      refine lv_goto (tgt := 20) hx hb dX10_harmFrom_52 (by decide) ?_
      have b9_ : 1 ≤ Int32.toInt (x2_ + 1) ∧ Int32.toInt (x2_ + 1) ≤ 15 := by have u0 := b5_; have u1 := zadd_1 x2_ (by omega); omega
      exact ih _ _ _ _ ⟨(by have u0 := b9_; omega), by have u0 := zadd_1 x2_ (by have u0 := b5_; omega); omega, hW, hS, (lv_sub hl [0, 1, 2, 3, 4] rfl)⟩
set_option maxHeartbeats 8000000 in
set_option maxRecDepth 100000 in
theorem zc_X10_harmTillEnd_1 (l : Launch) (D : va_G) (y : Nat → ClassId) (a0 : Nat) (w1 : Value) (w2 : Value) (w3 : Value) (w4 : Value) (w5 : Value) (w6 : Value) (w7 : Value) (w8 : Value) (w9 : Value) (w10 : Value) (w11 : Value) (w12 : Value) (w13 : Value) (w14 : Value) (w15 : Value) (w16 : Value) (w17 : Value) (w18 : Value) (w19 : Value) (w20 : Value) (w21 : Value) (w22 : Value) (w23 : Value) (w24 : Value) (w25 : Value) (w26 : Value) (w27 : Value) (w28 : Value) (w29 : Value) (w30 : Value) (w31 : Value) (w32 : Value) (w33 : Value) (w34 : Value) (w35 : Value) (w36 : Value) (w37 : Value) (w38 : Value) (w39 : Value) (w40 : Value) (w41 : Value) (w42 : Value) (w43 : Value) (w44 : Value) (w45 : Value) (w46 : Value) (w47 : Value) (w48 : Value) (w49 : Value) (w50 : Value) (w51 : Value) (w52 : Value) (w53 : Value) (w54 : Value) (w55 : Value) (w56 : Value) (w57 : Value) (w58 : Value) (w59 : Value) (w60 : Value) (w61 : Value) (w62 : Value) (w63 : Value) (w64 : Value) (w65 : Value) (w66 : Value) (w67 : Value) (w68 : Value) (w69 : Value) (w70 : Value) (w71 : Value) (w72 : Value) : zM l D y yX10_harmTillEnd (Cond.code yX10_harmTillEnd cX10_harmTillEnd 1 (some .int) :: zT) { frames := 4, cells := 0, slots := 0, locals := 88 } [.ref a0] [(a0, .inr (9, [.int 0, .int 0, w1, .int 0, w2, w3, w4, w5, w6, w7, w8, w9, w10, w11, w12, .int (-1), w13, w14, w15, w16, w17, w18, w19, w20, w21, w22, w23, w24, w25, w26, w27, w28, w29, w30, w31, w32, w33, w34, w35, w36, w37, w38, w39, w40, w41, w42, w43, w44, w45, w46, w47, w48, w49, w50, w51, w52, w53, w54, w55, w56, w57, w58, w59, w60, w61, w62, w63, w64, w65, w66, w67, w68, w69, w70, w71, w72]))] (zQi (S := Unit) D (fun r_ _ => r_ = 0) (fun _ => [(a0, .inr (9, [.int 0, .int 0, w1, .int 0, w2, w3, w4, w5, w6, w7, w8, w9, w10, w11, w12, .int (-1), w13, w14, w15, w16, w17, w18, w19, w20, w21, w22, w23, w24, w25, w26, w27, w28, w29, w30, w31, w32, w33, w34, w35, w36, w37, w38, w39, w40, w41, w42, w43, w44, w45, w46, w47, w48, w49, w50, w51, w52, w53, w54, w55, w56, w57, w58, w59, w60, w61, w62, w63, w64, w65, w66, w67, w68, w69, w70, w71, w72]))])) := by
  refine zent (cc := cX10_harmTillEnd) (maxL := 1) (ret := (some .int)) (by decide) (Nat.le_of_ble_eq_true rfl) ?_
  intro p e s m below meth c A H locs ls hx hb hml hr ht hown hlocks hin hA hK hE hS hW hl
  have hown : s.vm.findClass RX10 = some m.cls := hown
  have hW : zPD D A [(a0, .inr (9, [.int 0, .int 0, w1, .int 0, w2, w3, w4, w5, w6, w7, w8, w9, w10, w11, w12, .int (-1), w13, w14, w15, w16, w17, w18, w19, w20, w21, w22, w23, w24, w25, w26, w27, w28, w29, w30, w31, w32, w33, w34, w35, w36, w37, w38, w39, w40, w41, w42, w43, w44, w45, w46, w47, w48, w49, w50, w51, w52, w53, w54, w55, w56, w57, w58, w59, w60, w61, w62, w63, w64, w65, w66, w67, w68, w69, w70, w71, w72]))] H := hW
  have hl : lv_has ls 1 [(0, .ref a0)] := hl
  refine lv_aload_n hx hb dX10_harmTillEnd_0 rfl (lv_at hl 0 rfl) ?_
  refine lv_aload_n hx hb dX10_harmTillEnd_1 rfl (lv_at hl 0 rfl) ?_
  refine zget hx hb ht inlX10 hown hK hW 0 rfl rfl 1 (by decide) zm_141 rfl dX10_harmTillEnd_2 ?_
  refine lv_aload_n hx hb dX10_harmTillEnd_5 rfl (lv_at hl 0 rfl) ?_
  refine zget hx hb ht inlX10 hown hK hW 0 rfl rfl 3 (by decide) zm_143 rfl dX10_harmTillEnd_6 ?_
  refine lv_aload_n hx hb dX10_harmTillEnd_9 rfl (lv_at hl 0 rfl) ?_
  refine zgo_i (wr := []) (zrunV (As := []) (rest := [.int 0, .int 0, .ref a0]) ⟨hx, hb, hml, hown, ht⟩ (zc_X10_lastNow_0 l D y a0 (.int 0) (.int 0) w1 (.int 0) w2 w3 w4 w5 w6 w7 w8 w9 w10 w11 w12 w13 w14 w15 w16 w17 w18 w19 w20 w21 w22 w23 w24 w25 w26 w27 w28 w29 w30 w31 w32 w33 w34 w35 w36 w37 w38 w39 w40 w41 w42 w43 w44 w45 w46 w47 w48 w49 w50 w51 w52 w53 w54 w55 w56 w57 w58 w59 w60 w61 w62 w63 w64 w65 w66 w67 w68 w69 w70 w71 w72) (cwV 0 ht (zgV zm_381 zm_382 zm_383 zm_5 zm_384) rfl rfl rfl (by decide +kernel) ⟨(Nat.le_of_ble_eq_true rfl), (Nat.le_of_ble_eq_true rfl)⟩) hK hE hS hA hW [0] (by decide) rfl 0 rfl rfl rfl rfl hl.1 rfl (Nat.le_of_ble_eq_true rfl) dX10_harmTillEnd_10 (Nat.le_of_ble_eq_true rfl) (Nat.le_of_ble_eq_true rfl)) hS hA hW [0] [] rfl rfl (by decide) (by decide) (fun r1_ u H locs hw hW hS => ?_)
  have hW : zPD D A [(a0, .inr (9, [.int 0, .int 0, w1, .int 0, w2, w3, w4, w5, w6, w7, w8, w9, w10, w11, w12, .int (-1), w13, w14, w15, w16, w17, w18, w19, w20, w21, w22, w23, w24, w25, w26, w27, w28, w29, w30, w31, w32, w33, w34, w35, w36, w37, w38, w39, w40, w41, w42, w43, w44, w45, w46, w47, w48, w49, w50, w51, w52, w53, w54, w55, w56, w57, w58, w59, w60, w61, w62, w63, w64, w65, w66, w67, w68, w69, w70, w71, w72]))] H := hW
  have hw : r1_ = 15 := hw
  subst hw
  refine lv_iadd hx hb dX10_harmTillEnd_13 ?_
  refine ztop (w := .int 15) (congrArg Value.int (by decide)) ?_
  refine zgo_i (wr := []) (zrunV (As := [.int 0, .int 15]) (rest := []) ⟨hx, hb, hml, hown, ht⟩ (zc_X10_harmFrom_2 l D y a0 (.int 0) w1 w2 w3 w4 w5 w6 w7 w8 w9 w10 w11 w12 w13 w14 w15 w16 w17 w18 w19 w20 w21 w22 w23 w24 w25 w26 w27 w28 w29 w30 w31 w32 w33 w34 w35 w36 w37 w38 w39 w40 w41 w42 w43 w44 w45 w46 w47 w48 w49 w50 w51 w52 w53 w54 w55 w56 w57 w58 w59 w60 w61 w62 w63 w64 w65 w66 w67 w68 w69 w70 w71 w72) (cwV 2 ht (zgV zm_746 zm_747 zm_748 zm_5 zm_749) rfl rfl rfl (by decide +kernel) ⟨(Nat.le_of_ble_eq_true rfl), (Nat.le_of_ble_eq_true rfl)⟩) hK hE hS hA hW [0] (by decide) rfl 0 rfl rfl rfl rfl hl.1 rfl (Nat.le_of_ble_eq_true rfl) dX10_harmTillEnd_14 (Nat.le_of_ble_eq_true rfl) (Nat.le_of_ble_eq_true rfl)) hS hA hW [0] [] rfl rfl (by decide) (by decide) (fun r2_ u H locs hw hW hS => ?_)
  have hW : zPD D A [(a0, .inr (9, [.int 0, .int 0, w1, .int 0, w2, w3, w4, w5, w6, w7, w8, w9, w10, w11, w12, .int (-1), w13, w14, w15, w16, w17, w18, w19, w20, w21, w22, w23, w24, w25, w26, w27, w28, w29, w30, w31, w32, w33, w34, w35, w36, w37, w38, w39, w40, w41, w42, w43, w44, w45, w46, w47, w48, w49, w50, w51, w52, w53, w54, w55, w56, w57, w58, w59, w60, w61, w62, w63, w64, w65, w66, w67, w68, w69, w70, w71, w72]))] H := hW
  have hw : r2_ = 0 := hw
  subst hw
  exact zret_i (v := 0) hx hb hr hlocks hS () rfl hW (Nat.le_of_ble_eq_true rfl) (Nat.le_of_ble_eq_true rfl) dX10_harmTillEnd_17
set_option maxHeartbeats 8000000 in
set_option maxRecDepth 100000 in
theorem zc_X10_costOfPath_2 (l : Launch) (D : va_G) (y : Nat → ClassId) (a0 : Nat) (w1 : Value) (w2 : Value) (w3 : Value) (w4 : Value) (w5 : Value) (w6 : Value) (w7 : Value) (w8 : Value) (a9 : Nat) (w10 : Value) (w11 : Value) (w12 : Value) (w13 : Value) (w14 : Value) (w15 : Value) (w16 : Value) (w17 : Value) (w18 : Value) (w19 : Value) (w20 : Value) (w21 : Value) (w22 : Value) (w23 : Value) (w24 : Value) (w25 : Value) (w26 : Value) (w27 : Value) (w28 : Value) (a29 : Nat) (w30 : Value) (w31 : Value) (w32 : Value) (w33 : Value) (w34 : Value) (w35 : Value) (w36 : Value) (w37 : Value) (w38 : Value) (w39 : Value) (w40 : Value) (w41 : Value) (w42 : Value) (w43 : Value) (w44 : Value) (w45 : Value) (w46 : Value) (w47 : Value) (w48 : Value) (w49 : Value) (w50 : Value) (w51 : Value) (w52 : Value) (w53 : Value) (w54 : Value) (w55 : Value) (w56 : Value) (w57 : Value) (w58 : Value) (w59 : Value) (w60 : Value) (w61 : Value) (w62 : Value) (w63 : Value) (w64 : Value) (w65 : Value) (w66 : Value) (w67 : Value) (w68 : Value) (w69 : Value) : zM l D y yX10_costOfPath (Cond.code yX10_costOfPath cX10_costOfPath 3 (some .int) :: zT) { frames := 5, cells := 0, slots := 0, locals := 108 } [.ref a0, .int 0] [(a0, .inr (9, [.int 0, .int 0, w1, .int 0, w2, .int 0, .int 0, w3, w4, w5, w6, w7, w8, .ref a9, w10, .int (-1), w11, w12, w13, w14, w15, w16, w17, w18, w19, w20, w21, w22, w23, w24, w25, w26, w27, w28, .ref a29, .int 0, w30, w31, w32, w33, w34, w35, w36, w37, w38, w39, w40, w41, w42, w43, w44, w45, w46, w47, w48, w49, w50, w51, w52, w53, w54, w55, w56, w57, w58, w59, w60, w61, w62, w63, w64, w65, w66, w67, w68, w69])), (a9, .inl (y 2, 7, .inl (fun _ => 0))), (a29, .inl (y 0, 7, .inl (fun _ => 0)))] (zQi (S := Unit) D (fun r_ _ => r_ = 0) (fun _ => [(a0, .inr (9, [.int 0, .int 0, w1, .int 0, w2, .int 0, .int 0, w3, w4, w5, w6, w7, w8, .ref a9, w10, .int (-1), w11, w12, w13, w14, w15, w16, w17, w18, w19, w20, w21, w22, w23, w24, w25, w26, w27, w28, .ref a29, .int 0, w30, w31, w32, w33, w34, w35, w36, w37, w38, w39, w40, w41, w42, w43, w44, w45, w46, w47, w48, w49, w50, w51, w52, w53, w54, w55, w56, w57, w58, w59, w60, w61, w62, w63, w64, w65, w66, w67, w68, w69])), (a9, .inl (y 2, 7, .inl (fun _ => 0))), (a29, .inl (y 0, 7, .inl (upd (upd (upd (upd (upd (upd (upd (fun _ => 0) 0 99999) 1 99999) 2 99999) 3 99999) 4 99999) 5 99999) 6 99999)))])) := by
  refine zent (cc := cX10_costOfPath) (maxL := 3) (ret := (some .int)) (by decide) (Nat.le_of_ble_eq_true rfl) ?_
  intro p e s m below meth c A H locs ls hx hb hml hr ht hown hlocks hin hA hK hE hS hW hl
  have hown : s.vm.findClass RX10 = some m.cls := hown
  have hW : zPD D A [(a0, .inr (9, [.int 0, .int 0, w1, .int 0, w2, .int 0, .int 0, w3, w4, w5, w6, w7, w8, .ref a9, w10, .int (-1), w11, w12, w13, w14, w15, w16, w17, w18, w19, w20, w21, w22, w23, w24, w25, w26, w27, w28, .ref a29, .int 0, w30, w31, w32, w33, w34, w35, w36, w37, w38, w39, w40, w41, w42, w43, w44, w45, w46, w47, w48, w49, w50, w51, w52, w53, w54, w55, w56, w57, w58, w59, w60, w61, w62, w63, w64, w65, w66, w67, w68, w69])), (a9, .inl (y 2, 7, .inl (fun _ => 0))), (a29, .inl (y 0, 7, .inl (fun _ => 0)))] H := hW
  have hl : lv_has ls 3 [(0, .ref a0), (1, .int 0)] := hl
  refine lv_aload_n hx hb dX10_costOfPath_0 rfl (lv_at hl 0 rfl) ?_
  refine zgo_v (wr := []) (zrunV (As := []) (rest := []) ⟨hx, hb, hml, hown, ht⟩ (zc_X10_layOpen_0 l D y a0 (.int 0) (.int 0) w1 (.int 0) w2 (.int 0) (.int 0) w3 w4 w5 w6 w7 w8 a9 w10 (.int (-1)) w11 w12 w13 w14 w15 w16 w17 w18 w19 w20 w21 w22 w23 w24 w25 w26 w27 w28 a29 (.int 0) w30 w31 w32 w33 w34 w35 w36 w37 w38 w39 w40 w41 w42 w43 w44 w45 w46 w47 w48 w49 w50 w51 w52 w53 w54 w55 w56 w57 w58 w59 w60 w61 w62 w63 w64 w65 w66 w67 w68 w69) (cwV 0 ht (zgV zm_397 zm_398 zm_399 zm_5 zm_400) rfl rfl rfl (by decide +kernel) ⟨(Nat.le_of_ble_eq_true rfl), (Nat.le_of_ble_eq_true rfl)⟩) hK hE hS hA hW [0, 1, 2] (by decide) rfl 0 rfl rfl rfl rfl hl.1 rfl (Nat.le_of_ble_eq_true rfl) dX10_costOfPath_1 (Nat.le_of_ble_eq_true rfl) (Nat.le_of_ble_eq_true rfl)) hS hA hW [0, 1, 2] [] rfl rfl (by decide) (by decide) (fun u H locs hw hW hS => ?_)
  have hW : zPD D A [(a0, .inr (9, [.int 0, .int 0, w1, .int 0, w2, .int 0, .int 0, w3, w4, w5, w6, w7, w8, .ref a9, w10, .int (-1), w11, w12, w13, w14, w15, w16, w17, w18, w19, w20, w21, w22, w23, w24, w25, w26, w27, w28, .ref a29, .int 0, w30, w31, w32, w33, w34, w35, w36, w37, w38, w39, w40, w41, w42, w43, w44, w45, w46, w47, w48, w49, w50, w51, w52, w53, w54, w55, w56, w57, w58, w59, w60, w61, w62, w63, w64, w65, w66, w67, w68, w69])), (a9, .inl (y 2, 7, .inl (fun _ => 0))), (a29, .inl (y 0, 7, .inl (upd (upd (upd (upd (upd (upd (upd (fun _ => 0) 0 99999) 1 99999) 2 99999) 3 99999) 4 99999) 5 99999) 6 99999)))] H := hW
  refine lv_aload_n hx hb dX10_costOfPath_4 rfl (lv_at hl 0 rfl) ?_
  refine lv_iconst (v := 0) hx hb dX10_costOfPath_5 (by decide) ?_
  refine lv_aload_n hx hb dX10_costOfPath_6 rfl (lv_at hl 0 rfl) ?_
  refine zget hx hb ht inlX10 hown hK hW 0 rfl rfl 35 (by decide) zm_175 rfl dX10_costOfPath_7 ?_
  refine lv_aload_n hx hb dX10_costOfPath_10 rfl (lv_at hl 0 rfl) ?_
  refine zget hx hb ht inlX10 hown hK hW 0 rfl rfl 1 (by decide) zm_141 rfl dX10_costOfPath_11 ?_
  refine lv_iload_n hx hb dX10_costOfPath_14 rfl (lv_at hl 1 rfl) ?_
  refine lv_iadd hx hb dX10_costOfPath_15 ?_
  refine ztop (w := .int 0) (congrArg Value.int (by decide)) ?_
  refine zgo_i (wr := [(a9, .inl (y 2, 7, .inl (fun _ => 0))), (a29, .inl (y 0, 7, .inl (upd (upd (upd (upd (upd (upd (upd (fun _ => 0) 0 99999) 1 99999) 2 99999) 3 99999) 4 99999) 5 99999) 6 99999)))]) (zrunV (As := [.int 0, .int 0, .int 0]) (rest := []) ⟨hx, hb, hml, hown, ht⟩ (zc_X10_goes_0 l D y a0 (.int 0) (.int 0) w1 (.int 0) w2 w3 w4 w5 w6 w7 w8 (.ref a9) w10 (.int (-1)) w11 w12 w13 w14 w15 w16 w17 w18 w19 w20 w21 w22 w23 w24 w25 w26 w27 w28 (.ref a29) (.int 0) w30 w31 w32 w33 w34 w35 w36 w37 w38 w39 w40 w41 w42 w43 w44 w45 w46 w47 w48 w49 w50 w51 w52 w53 w54 w55 w56 w57 w58 w59 w60 w61 w62 w63 w64 w65 w66 w67 w68 w69) (cwV 3 ht (zgV zm_852 zm_853 zm_854 zm_5 zm_855) rfl rfl rfl (by decide +kernel) ⟨(Nat.le_of_ble_eq_true rfl), (Nat.le_of_ble_eq_true rfl)⟩) hK hE hS hA hW [0] (by decide) rfl 0 rfl rfl rfl rfl hl.1 rfl (Nat.le_of_ble_eq_true rfl) dX10_costOfPath_16 (Nat.le_of_ble_eq_true rfl) (Nat.le_of_ble_eq_true rfl)) hS hA hW [0] [1, 2] rfl rfl (by decide) (by decide) (fun r2_ u H locs hw hW hS => ?_)
  have hW : zPD D A [(a9, .inl (y 2, 7, .inl (fun _ => 0))), (a29, .inl (y 0, 7, .inl (upd (upd (upd (upd (upd (upd (upd (fun _ => 0) 0 99999) 1 99999) 2 99999) 3 99999) 4 99999) 5 99999) 6 99999))), (a0, .inr (9, [.int 0, .int 0, w1, .int 0, w2, .int 0, .int 0, w3, w4, w5, w6, w7, w8, .ref a9, w10, .int (-1), w11, w12, w13, w14, w15, w16, w17, w18, w19, w20, w21, w22, w23, w24, w25, w26, w27, w28, .ref a29, .int 0, w30, w31, w32, w33, w34, w35, w36, w37, w38, w39, w40, w41, w42, w43, w44, w45, w46, w47, w48, w49, w50, w51, w52, w53, w54, w55, w56, w57, w58, w59, w60, w61, w62, w63, w64, w65, w66, w67, w68, w69]))] H := hW
  have hw : r2_ = 0 := hw
  subst hw
  refine lv_istore_n (lv' := [(2, .int 0), (0, .ref a0), (1, .int 0)]) hx hb dX10_costOfPath_19 rfl hl (by decide) rfl (fun ls hl => ?_)
  refine lv_aload_n hx hb dX10_costOfPath_20 rfl (lv_at hl 1 rfl) ?_
  refine zgo_i (wr := [(a9, .inl (y 2, 7, .inl (fun _ => 0))), (a29, .inl (y 0, 7, .inl (upd (upd (upd (upd (upd (upd (upd (fun _ => 0) 0 99999) 1 99999) 2 99999) 3 99999) 4 99999) 5 99999) 6 99999)))]) (zrunV (As := []) (rest := []) ⟨hx, hb, hml, hown, ht⟩ (zc_X10_harmTillEnd_1 l D y a0 w1 w2 (.int 0) (.int 0) w3 w4 w5 w6 w7 w8 (.ref a9) w10 w11 w12 w13 w14 w15 w16 w17 w18 w19 w20 w21 w22 w23 w24 w25 w26 w27 w28 (.ref a29) (.int 0) w30 w31 w32 w33 w34 w35 w36 w37 w38 w39 w40 w41 w42 w43 w44 w45 w46 w47 w48 w49 w50 w51 w52 w53 w54 w55 w56 w57 w58 w59 w60 w61 w62 w63 w64 w65 w66 w67 w68 w69) (cwV 0 ht (zgV zm_856 zm_857 zm_858 zm_5 zm_859) rfl rfl rfl (by decide +kernel) ⟨(Nat.le_of_ble_eq_true rfl), (Nat.le_of_ble_eq_true rfl)⟩) hK hE hS hA hW [2] (by decide) rfl 0 rfl rfl rfl rfl hl.1 rfl (Nat.le_of_ble_eq_true rfl) dX10_costOfPath_21 (Nat.le_of_ble_eq_true rfl) (Nat.le_of_ble_eq_true rfl)) hS hA hW [2] [0, 1] rfl rfl (by decide) (by decide) (fun r3_ u H locs hw hW hS => ?_)
  have hW : zPD D A [(a9, .inl (y 2, 7, .inl (fun _ => 0))), (a29, .inl (y 0, 7, .inl (upd (upd (upd (upd (upd (upd (upd (fun _ => 0) 0 99999) 1 99999) 2 99999) 3 99999) 4 99999) 5 99999) 6 99999))), (a0, .inr (9, [.int 0, .int 0, w1, .int 0, w2, .int 0, .int 0, w3, w4, w5, w6, w7, w8, .ref a9, w10, .int (-1), w11, w12, w13, w14, w15, w16, w17, w18, w19, w20, w21, w22, w23, w24, w25, w26, w27, w28, .ref a29, .int 0, w30, w31, w32, w33, w34, w35, w36, w37, w38, w39, w40, w41, w42, w43, w44, w45, w46, w47, w48, w49, w50, w51, w52, w53, w54, w55, w56, w57, w58, w59, w60, w61, w62, w63, w64, w65, w66, w67, w68, w69]))] H := hW
  have hw : r3_ = 0 := hw
  subst hw
  exact zret_i (v := 0) hx hb hr hlocks hS () rfl (hW.sub [2, 0, 1] (by decide) rfl) (Nat.le_of_ble_eq_true rfl) (Nat.le_of_ble_eq_true rfl) dX10_costOfPath_24
set_option maxHeartbeats 8000000 in
set_option maxRecDepth 100000 in
theorem zc_X10_layOpen_4 (l : Launch) (D : va_G) (y : Nat → ClassId) (a0 : Nat) (w1 : Value) (w2 : Value) (w3 : Value) (w4 : Value) (w5 : Value) (w6 : Value) (w7 : Value) (w8 : Value) (w9 : Value) (w10 : Value) (w11 : Value) (w12 : Value) (w13 : Value) (a14 : Nat) (w15 : Value) (w16 : Value) (w17 : Value) (w18 : Value) (w19 : Value) (w20 : Value) (w21 : Value) (w22 : Value) (w23 : Value) (w24 : Value) (w25 : Value) (w26 : Value) (w27 : Value) (w28 : Value) (w29 : Value) (w30 : Value) (w31 : Value) (w32 : Value) (w33 : Value) (w34 : Value) (a35 : Nat) (w36 : Value) (w37 : Value) (w38 : Value) (w39 : Value) (w40 : Value) (w41 : Value) (w42 : Value) (w43 : Value) (w44 : Value) (w45 : Value) (w46 : Value) (w47 : Value) (w48 : Value) (w49 : Value) (w50 : Value) (w51 : Value) (w52 : Value) (w53 : Value) (w54 : Value) (w55 : Value) (w56 : Value) (w57 : Value) (w58 : Value) (w59 : Value) (w60 : Value) (w61 : Value) (w62 : Value) (w63 : Value) (w64 : Value) (w65 : Value) (w66 : Value) (w67 : Value) (w68 : Value) (w69 : Value) (w70 : Value) (w71 : Value) (w72 : Value) (w73 : Value) (w74 : Value) (w75 : Value) (w76 : Value) (f77 : Nat → Int32) : zM l D y yX10_layOpen (Cond.code yX10_layOpen cX10_layOpen 2 none :: zT) { frames := 0, cells := 0, slots := 0, locals := 0 } [.ref a0] [(a0, .inr (9, [w1, w2, w3, w4, w5, w6, w7, w8, w9, w10, w11, w12, w13, .ref a14, w15, w16, w17, w18, w19, w20, w21, w22, w23, w24, w25, w26, w27, w28, w29, w30, w31, w32, w33, w34, .ref a35, w36, w37, w38, w39, w40, w41, w42, w43, w44, w45, w46, w47, w48, w49, w50, w51, w52, w53, w54, w55, w56, w57, w58, w59, w60, w61, w62, w63, w64, w65, w66, w67, w68, w69, w70, w71, w72, w73, w74, w75, w76])), (a14, .inl (y 2, 7, .inl (fun _ => 0))), (a35, .inl (y 0, 7, .inl f77))] (zQv (S := Unit) D (fun _ => True) (fun _ => [(a0, .inr (9, [w1, w2, w3, w4, w5, w6, w7, w8, w9, w10, w11, w12, w13, .ref a14, w15, w16, w17, w18, w19, w20, w21, w22, w23, w24, w25, w26, w27, w28, w29, w30, w31, w32, w33, w34, .ref a35, w36, w37, w38, w39, w40, w41, w42, w43, w44, w45, w46, w47, w48, w49, w50, w51, w52, w53, w54, w55, w56, w57, w58, w59, w60, w61, w62, w63, w64, w65, w66, w67, w68, w69, w70, w71, w72, w73, w74, w75, w76])), (a14, .inl (y 2, 7, .inl (fun _ => 0))), (a35, .inl (y 0, 7, .inl (upd (upd (upd (upd (upd (upd (upd f77 0 99999) 1 99999) 2 99999) 3 99999) 4 99999) 5 99999) 6 99999)))])) := by
  refine zent (cc := cX10_layOpen) (maxL := 2) (ret := none) (by decide) (Nat.le_of_ble_eq_true rfl) ?_
  intro p e s m below meth c A H locs ls hx hb hml hr ht hown hlocks hin hA hK hE hS hW hl
  have hown : s.vm.findClass RX10 = some m.cls := hown
  have hW : zPD D A [(a0, .inr (9, [w1, w2, w3, w4, w5, w6, w7, w8, w9, w10, w11, w12, w13, .ref a14, w15, w16, w17, w18, w19, w20, w21, w22, w23, w24, w25, w26, w27, w28, w29, w30, w31, w32, w33, w34, .ref a35, w36, w37, w38, w39, w40, w41, w42, w43, w44, w45, w46, w47, w48, w49, w50, w51, w52, w53, w54, w55, w56, w57, w58, w59, w60, w61, w62, w63, w64, w65, w66, w67, w68, w69, w70, w71, w72, w73, w74, w75, w76])), (a14, .inl (y 2, 7, .inl (fun _ => 0))), (a35, .inl (y 0, 7, .inl f77))] H := hW
  have hl : lv_has ls 2 [(0, .ref a0)] := hl
  refine lv_iconst (v := 0) hx hb dX10_layOpen_0 (by decide) ?_
  refine lv_istore_n (lv' := [(1, .int 0), (0, .ref a0)]) hx hb dX10_layOpen_1 rfl hl (by decide) rfl (fun ls hl => ?_)
  refine lv_iload_n hx hb dX10_layOpen_2 rfl (lv_at hl 0 rfl) ?_
  refine lv_bipush (v := 7) hx hb dX10_layOpen_3 (by decide) ?_
  refine lv_icmp_ge (tgt := 36) hx hb dX10_layOpen_5 (by decide) (fun c1_ => absurd c1_ (by decide)) (fun c1_ => ?_)
  refine lv_aload_n hx hb dX10_layOpen_8 rfl (lv_at hl 1 rfl) ?_
  refine zget hx hb ht inlX10 hown hK hW 0 rfl rfl 34 (by decide) zm_174 rfl dX10_layOpen_9 ?_
  refine lv_iload_n hx hb dX10_layOpen_12 rfl (lv_at hl 0 rfl) ?_
  refine lv_aload_n hx hb dX10_layOpen_13 rfl (lv_at hl 1 rfl) ?_
  refine zget hx hb ht inlX10 hown hK hW 0 rfl rfl 13 (by decide) zm_153 rfl dX10_layOpen_14 ?_
  refine lv_iload_n hx hb dX10_layOpen_17 rfl (lv_at hl 0 rfl) ?_
  refine zzald (v := 0) hx hb hK hW 1 rfl (by unfold vp_in; decide) rfl dX10_layOpen_18 ?_
  refine lv_if_eq (tgt := 26) hx hb dX10_layOpen_19 (by decide) (fun c2_ => ?_) (fun c2_ => absurd (by decide) c2_)
  refine lv_ldcw (v := 99999) hx hb hown (ht _ zm_401) dX10_layOpen_26 ?_
  refine ziast (ws' := [(a0, .inr (9, [w1, w2, w3, w4, w5, w6, w7, w8, w9, w10, w11, w12, w13, .ref a14, w15, w16, w17, w18, w19, w20, w21, w22, w23, w24, w25, w26, w27, w28, w29, w30, w31, w32, w33, w34, .ref a35, w36, w37, w38, w39, w40, w41, w42, w43, w44, w45, w46, w47, w48, w49, w50, w51, w52, w53, w54, w55, w56, w57, w58, w59, w60, w61, w62, w63, w64, w65, w66, w67, w68, w69, w70, w71, w72, w73, w74, w75, w76])), (a14, .inl (y 2, 7, .inl (fun _ => 0))), (a35, .inl (y 0, 7, .inl (upd f77 0 99999)))]) hx hb hK hS hW 2 rfl (by unfold vp_in; decide) rfl rfl dX10_layOpen_29 (fun H locs hW hS => ?_)
  refine lv_iinc (k := 0) (v := 1) (lv' := [(1, .int 1), (0, .ref a0)]) hx hb dX10_layOpen_30 hl rfl (by decide) (by decide) rfl (fun ls hl => ?_)
  refine lv_goto (tgt := 2) hx hb dX10_layOpen_33 (by decide) ?_
  refine lv_iload_n hx hb dX10_layOpen_2 rfl (lv_at hl 0 rfl) ?_
  refine lv_bipush (v := 7) hx hb dX10_layOpen_3 (by decide) ?_
  refine lv_icmp_ge (tgt := 36) hx hb dX10_layOpen_5 (by decide) (fun c3_ => absurd c3_ (by decide)) (fun c3_ => ?_)
  refine lv_aload_n hx hb dX10_layOpen_8 rfl (lv_at hl 1 rfl) ?_
  refine zget hx hb ht inlX10 hown hK hW 0 rfl rfl 34 (by decide) zm_174 rfl dX10_layOpen_9 ?_
  refine lv_iload_n hx hb dX10_layOpen_12 rfl (lv_at hl 0 rfl) ?_
  refine lv_aload_n hx hb dX10_layOpen_13 rfl (lv_at hl 1 rfl) ?_
  refine zget hx hb ht inlX10 hown hK hW 0 rfl rfl 13 (by decide) zm_153 rfl dX10_layOpen_14 ?_
  refine lv_iload_n hx hb dX10_layOpen_17 rfl (lv_at hl 0 rfl) ?_
  refine zzald (v := 0) hx hb hK hW 1 rfl (by unfold vp_in; decide) rfl dX10_layOpen_18 ?_
  refine lv_if_eq (tgt := 26) hx hb dX10_layOpen_19 (by decide) (fun c4_ => ?_) (fun c4_ => absurd (by decide) c4_)
  refine lv_ldcw (v := 99999) hx hb hown (ht _ zm_401) dX10_layOpen_26 ?_
  refine ziast (ws' := [(a0, .inr (9, [w1, w2, w3, w4, w5, w6, w7, w8, w9, w10, w11, w12, w13, .ref a14, w15, w16, w17, w18, w19, w20, w21, w22, w23, w24, w25, w26, w27, w28, w29, w30, w31, w32, w33, w34, .ref a35, w36, w37, w38, w39, w40, w41, w42, w43, w44, w45, w46, w47, w48, w49, w50, w51, w52, w53, w54, w55, w56, w57, w58, w59, w60, w61, w62, w63, w64, w65, w66, w67, w68, w69, w70, w71, w72, w73, w74, w75, w76])), (a14, .inl (y 2, 7, .inl (fun _ => 0))), (a35, .inl (y 0, 7, .inl (upd (upd f77 0 99999) 1 99999)))]) hx hb hK hS hW 2 rfl (by unfold vp_in; decide) rfl rfl dX10_layOpen_29 (fun H locs hW hS => ?_)
  refine lv_iinc (k := 0) (v := 2) (lv' := [(1, .int 2), (0, .ref a0)]) hx hb dX10_layOpen_30 hl rfl (by decide) (by decide) rfl (fun ls hl => ?_)
  refine lv_goto (tgt := 2) hx hb dX10_layOpen_33 (by decide) ?_
  refine lv_iload_n hx hb dX10_layOpen_2 rfl (lv_at hl 0 rfl) ?_
  refine lv_bipush (v := 7) hx hb dX10_layOpen_3 (by decide) ?_
  refine lv_icmp_ge (tgt := 36) hx hb dX10_layOpen_5 (by decide) (fun c5_ => absurd c5_ (by decide)) (fun c5_ => ?_)
  refine lv_aload_n hx hb dX10_layOpen_8 rfl (lv_at hl 1 rfl) ?_
  refine zget hx hb ht inlX10 hown hK hW 0 rfl rfl 34 (by decide) zm_174 rfl dX10_layOpen_9 ?_
  refine lv_iload_n hx hb dX10_layOpen_12 rfl (lv_at hl 0 rfl) ?_
  refine lv_aload_n hx hb dX10_layOpen_13 rfl (lv_at hl 1 rfl) ?_
  refine zget hx hb ht inlX10 hown hK hW 0 rfl rfl 13 (by decide) zm_153 rfl dX10_layOpen_14 ?_
  refine lv_iload_n hx hb dX10_layOpen_17 rfl (lv_at hl 0 rfl) ?_
  refine zzald (v := 0) hx hb hK hW 1 rfl (by unfold vp_in; decide) rfl dX10_layOpen_18 ?_
  refine lv_if_eq (tgt := 26) hx hb dX10_layOpen_19 (by decide) (fun c6_ => ?_) (fun c6_ => absurd (by decide) c6_)
  refine lv_ldcw (v := 99999) hx hb hown (ht _ zm_401) dX10_layOpen_26 ?_
  refine ziast (ws' := [(a0, .inr (9, [w1, w2, w3, w4, w5, w6, w7, w8, w9, w10, w11, w12, w13, .ref a14, w15, w16, w17, w18, w19, w20, w21, w22, w23, w24, w25, w26, w27, w28, w29, w30, w31, w32, w33, w34, .ref a35, w36, w37, w38, w39, w40, w41, w42, w43, w44, w45, w46, w47, w48, w49, w50, w51, w52, w53, w54, w55, w56, w57, w58, w59, w60, w61, w62, w63, w64, w65, w66, w67, w68, w69, w70, w71, w72, w73, w74, w75, w76])), (a14, .inl (y 2, 7, .inl (fun _ => 0))), (a35, .inl (y 0, 7, .inl (upd (upd (upd f77 0 99999) 1 99999) 2 99999)))]) hx hb hK hS hW 2 rfl (by unfold vp_in; decide) rfl rfl dX10_layOpen_29 (fun H locs hW hS => ?_)
  refine lv_iinc (k := 0) (v := 3) (lv' := [(1, .int 3), (0, .ref a0)]) hx hb dX10_layOpen_30 hl rfl (by decide) (by decide) rfl (fun ls hl => ?_)
  refine lv_goto (tgt := 2) hx hb dX10_layOpen_33 (by decide) ?_
  refine lv_iload_n hx hb dX10_layOpen_2 rfl (lv_at hl 0 rfl) ?_
  refine lv_bipush (v := 7) hx hb dX10_layOpen_3 (by decide) ?_
  refine lv_icmp_ge (tgt := 36) hx hb dX10_layOpen_5 (by decide) (fun c7_ => absurd c7_ (by decide)) (fun c7_ => ?_)
  refine lv_aload_n hx hb dX10_layOpen_8 rfl (lv_at hl 1 rfl) ?_
  refine zget hx hb ht inlX10 hown hK hW 0 rfl rfl 34 (by decide) zm_174 rfl dX10_layOpen_9 ?_
  refine lv_iload_n hx hb dX10_layOpen_12 rfl (lv_at hl 0 rfl) ?_
  refine lv_aload_n hx hb dX10_layOpen_13 rfl (lv_at hl 1 rfl) ?_
  refine zget hx hb ht inlX10 hown hK hW 0 rfl rfl 13 (by decide) zm_153 rfl dX10_layOpen_14 ?_
  refine lv_iload_n hx hb dX10_layOpen_17 rfl (lv_at hl 0 rfl) ?_
  refine zzald (v := 0) hx hb hK hW 1 rfl (by unfold vp_in; decide) rfl dX10_layOpen_18 ?_
  refine lv_if_eq (tgt := 26) hx hb dX10_layOpen_19 (by decide) (fun c8_ => ?_) (fun c8_ => absurd (by decide) c8_)
  refine lv_ldcw (v := 99999) hx hb hown (ht _ zm_401) dX10_layOpen_26 ?_
  refine ziast (ws' := [(a0, .inr (9, [w1, w2, w3, w4, w5, w6, w7, w8, w9, w10, w11, w12, w13, .ref a14, w15, w16, w17, w18, w19, w20, w21, w22, w23, w24, w25, w26, w27, w28, w29, w30, w31, w32, w33, w34, .ref a35, w36, w37, w38, w39, w40, w41, w42, w43, w44, w45, w46, w47, w48, w49, w50, w51, w52, w53, w54, w55, w56, w57, w58, w59, w60, w61, w62, w63, w64, w65, w66, w67, w68, w69, w70, w71, w72, w73, w74, w75, w76])), (a14, .inl (y 2, 7, .inl (fun _ => 0))), (a35, .inl (y 0, 7, .inl (upd (upd (upd (upd f77 0 99999) 1 99999) 2 99999) 3 99999)))]) hx hb hK hS hW 2 rfl (by unfold vp_in; decide) rfl rfl dX10_layOpen_29 (fun H locs hW hS => ?_)
  refine lv_iinc (k := 0) (v := 4) (lv' := [(1, .int 4), (0, .ref a0)]) hx hb dX10_layOpen_30 hl rfl (by decide) (by decide) rfl (fun ls hl => ?_)
  refine lv_goto (tgt := 2) hx hb dX10_layOpen_33 (by decide) ?_
  refine lv_iload_n hx hb dX10_layOpen_2 rfl (lv_at hl 0 rfl) ?_
  refine lv_bipush (v := 7) hx hb dX10_layOpen_3 (by decide) ?_
  refine lv_icmp_ge (tgt := 36) hx hb dX10_layOpen_5 (by decide) (fun c9_ => absurd c9_ (by decide)) (fun c9_ => ?_)
  refine lv_aload_n hx hb dX10_layOpen_8 rfl (lv_at hl 1 rfl) ?_
  refine zget hx hb ht inlX10 hown hK hW 0 rfl rfl 34 (by decide) zm_174 rfl dX10_layOpen_9 ?_
  refine lv_iload_n hx hb dX10_layOpen_12 rfl (lv_at hl 0 rfl) ?_
  refine lv_aload_n hx hb dX10_layOpen_13 rfl (lv_at hl 1 rfl) ?_
  refine zget hx hb ht inlX10 hown hK hW 0 rfl rfl 13 (by decide) zm_153 rfl dX10_layOpen_14 ?_
  refine lv_iload_n hx hb dX10_layOpen_17 rfl (lv_at hl 0 rfl) ?_
  refine zzald (v := 0) hx hb hK hW 1 rfl (by unfold vp_in; decide) rfl dX10_layOpen_18 ?_
  refine lv_if_eq (tgt := 26) hx hb dX10_layOpen_19 (by decide) (fun c10_ => ?_) (fun c10_ => absurd (by decide) c10_)
  refine lv_ldcw (v := 99999) hx hb hown (ht _ zm_401) dX10_layOpen_26 ?_
  refine ziast (ws' := [(a0, .inr (9, [w1, w2, w3, w4, w5, w6, w7, w8, w9, w10, w11, w12, w13, .ref a14, w15, w16, w17, w18, w19, w20, w21, w22, w23, w24, w25, w26, w27, w28, w29, w30, w31, w32, w33, w34, .ref a35, w36, w37, w38, w39, w40, w41, w42, w43, w44, w45, w46, w47, w48, w49, w50, w51, w52, w53, w54, w55, w56, w57, w58, w59, w60, w61, w62, w63, w64, w65, w66, w67, w68, w69, w70, w71, w72, w73, w74, w75, w76])), (a14, .inl (y 2, 7, .inl (fun _ => 0))), (a35, .inl (y 0, 7, .inl (upd (upd (upd (upd (upd f77 0 99999) 1 99999) 2 99999) 3 99999) 4 99999)))]) hx hb hK hS hW 2 rfl (by unfold vp_in; decide) rfl rfl dX10_layOpen_29 (fun H locs hW hS => ?_)
  refine lv_iinc (k := 0) (v := 5) (lv' := [(1, .int 5), (0, .ref a0)]) hx hb dX10_layOpen_30 hl rfl (by decide) (by decide) rfl (fun ls hl => ?_)
  refine lv_goto (tgt := 2) hx hb dX10_layOpen_33 (by decide) ?_
  refine lv_iload_n hx hb dX10_layOpen_2 rfl (lv_at hl 0 rfl) ?_
  refine lv_bipush (v := 7) hx hb dX10_layOpen_3 (by decide) ?_
  refine lv_icmp_ge (tgt := 36) hx hb dX10_layOpen_5 (by decide) (fun c11_ => absurd c11_ (by decide)) (fun c11_ => ?_)
  refine lv_aload_n hx hb dX10_layOpen_8 rfl (lv_at hl 1 rfl) ?_
  refine zget hx hb ht inlX10 hown hK hW 0 rfl rfl 34 (by decide) zm_174 rfl dX10_layOpen_9 ?_
  refine lv_iload_n hx hb dX10_layOpen_12 rfl (lv_at hl 0 rfl) ?_
  refine lv_aload_n hx hb dX10_layOpen_13 rfl (lv_at hl 1 rfl) ?_
  refine zget hx hb ht inlX10 hown hK hW 0 rfl rfl 13 (by decide) zm_153 rfl dX10_layOpen_14 ?_
  refine lv_iload_n hx hb dX10_layOpen_17 rfl (lv_at hl 0 rfl) ?_
  refine zzald (v := 0) hx hb hK hW 1 rfl (by unfold vp_in; decide) rfl dX10_layOpen_18 ?_
  refine lv_if_eq (tgt := 26) hx hb dX10_layOpen_19 (by decide) (fun c12_ => ?_) (fun c12_ => absurd (by decide) c12_)
  refine lv_ldcw (v := 99999) hx hb hown (ht _ zm_401) dX10_layOpen_26 ?_
  refine ziast (ws' := [(a0, .inr (9, [w1, w2, w3, w4, w5, w6, w7, w8, w9, w10, w11, w12, w13, .ref a14, w15, w16, w17, w18, w19, w20, w21, w22, w23, w24, w25, w26, w27, w28, w29, w30, w31, w32, w33, w34, .ref a35, w36, w37, w38, w39, w40, w41, w42, w43, w44, w45, w46, w47, w48, w49, w50, w51, w52, w53, w54, w55, w56, w57, w58, w59, w60, w61, w62, w63, w64, w65, w66, w67, w68, w69, w70, w71, w72, w73, w74, w75, w76])), (a14, .inl (y 2, 7, .inl (fun _ => 0))), (a35, .inl (y 0, 7, .inl (upd (upd (upd (upd (upd (upd f77 0 99999) 1 99999) 2 99999) 3 99999) 4 99999) 5 99999)))]) hx hb hK hS hW 2 rfl (by unfold vp_in; decide) rfl rfl dX10_layOpen_29 (fun H locs hW hS => ?_)
  refine lv_iinc (k := 0) (v := 6) (lv' := [(1, .int 6), (0, .ref a0)]) hx hb dX10_layOpen_30 hl rfl (by decide) (by decide) rfl (fun ls hl => ?_)
  refine lv_goto (tgt := 2) hx hb dX10_layOpen_33 (by decide) ?_
  refine lv_iload_n hx hb dX10_layOpen_2 rfl (lv_at hl 0 rfl) ?_
  refine lv_bipush (v := 7) hx hb dX10_layOpen_3 (by decide) ?_
  refine lv_icmp_ge (tgt := 36) hx hb dX10_layOpen_5 (by decide) (fun c13_ => absurd c13_ (by decide)) (fun c13_ => ?_)
  refine lv_aload_n hx hb dX10_layOpen_8 rfl (lv_at hl 1 rfl) ?_
  refine zget hx hb ht inlX10 hown hK hW 0 rfl rfl 34 (by decide) zm_174 rfl dX10_layOpen_9 ?_
  refine lv_iload_n hx hb dX10_layOpen_12 rfl (lv_at hl 0 rfl) ?_
  refine lv_aload_n hx hb dX10_layOpen_13 rfl (lv_at hl 1 rfl) ?_
  refine zget hx hb ht inlX10 hown hK hW 0 rfl rfl 13 (by decide) zm_153 rfl dX10_layOpen_14 ?_
  refine lv_iload_n hx hb dX10_layOpen_17 rfl (lv_at hl 0 rfl) ?_
  refine zzald (v := 0) hx hb hK hW 1 rfl (by unfold vp_in; decide) rfl dX10_layOpen_18 ?_
  refine lv_if_eq (tgt := 26) hx hb dX10_layOpen_19 (by decide) (fun c14_ => ?_) (fun c14_ => absurd (by decide) c14_)
  refine lv_ldcw (v := 99999) hx hb hown (ht _ zm_401) dX10_layOpen_26 ?_
  refine ziast (ws' := [(a0, .inr (9, [w1, w2, w3, w4, w5, w6, w7, w8, w9, w10, w11, w12, w13, .ref a14, w15, w16, w17, w18, w19, w20, w21, w22, w23, w24, w25, w26, w27, w28, w29, w30, w31, w32, w33, w34, .ref a35, w36, w37, w38, w39, w40, w41, w42, w43, w44, w45, w46, w47, w48, w49, w50, w51, w52, w53, w54, w55, w56, w57, w58, w59, w60, w61, w62, w63, w64, w65, w66, w67, w68, w69, w70, w71, w72, w73, w74, w75, w76])), (a14, .inl (y 2, 7, .inl (fun _ => 0))), (a35, .inl (y 0, 7, .inl (upd (upd (upd (upd (upd (upd (upd f77 0 99999) 1 99999) 2 99999) 3 99999) 4 99999) 5 99999) 6 99999)))]) hx hb hK hS hW 2 rfl (by unfold vp_in; decide) rfl rfl dX10_layOpen_29 (fun H locs hW hS => ?_)
  refine lv_iinc (k := 0) (v := 7) (lv' := [(1, .int 7), (0, .ref a0)]) hx hb dX10_layOpen_30 hl rfl (by decide) (by decide) rfl (fun ls hl => ?_)
  refine lv_goto (tgt := 2) hx hb dX10_layOpen_33 (by decide) ?_
  refine lv_iload_n hx hb dX10_layOpen_2 rfl (lv_at hl 0 rfl) ?_
  refine lv_bipush (v := 7) hx hb dX10_layOpen_3 (by decide) ?_
  refine lv_icmp_ge (tgt := 36) hx hb dX10_layOpen_5 (by decide) (fun c15_ => ?_) (fun c15_ => absurd (by decide) c15_)
  exact zret_v hx hb hr hlocks hS () trivial hW (Nat.le_of_ble_eq_true rfl) (Nat.le_of_ble_eq_true rfl) dX10_layOpen_36
set_option maxHeartbeats 8000000 in
set_option maxRecDepth 100000 in
theorem zc_X10_harmFrom_3 (l : Launch) (D : va_G) (y : Nat → ClassId) (a0 : Nat) (p1 : Int32) (w2 : Value) (w3 : Value) (p4 : Int32) (w5 : Value) (w6 : Value) (w7 : Value) (w8 : Value) (w9 : Value) (w10 : Value) (w11 : Value) (w12 : Value) (w13 : Value) (w14 : Value) (w15 : Value) (w16 : Value) (w17 : Value) (w18 : Value) (w19 : Value) (w20 : Value) (w21 : Value) (w22 : Value) (w23 : Value) (w24 : Value) (w25 : Value) (w26 : Value) (w27 : Value) (w28 : Value) (w29 : Value) (w30 : Value) (w31 : Value) (w32 : Value) (w33 : Value) (w34 : Value) (w35 : Value) (w36 : Value) (w37 : Value) (w38 : Value) (w39 : Value) (w40 : Value) (w41 : Value) (w42 : Value) (w43 : Value) (w44 : Value) (w45 : Value) (w46 : Value) (w47 : Value) (w48 : Value) (w49 : Value) (w50 : Value) (w51 : Value) (w52 : Value) (w53 : Value) (w54 : Value) (w55 : Value) (w56 : Value) (w57 : Value) (w58 : Value) (w59 : Value) (w60 : Value) (w61 : Value) (w62 : Value) (w63 : Value) (w64 : Value) (w65 : Value) (w66 : Value) (w67 : Value) (w68 : Value) (w69 : Value) (w70 : Value) (w71 : Value) (w72 : Value) (w73 : Value) (w74 : Value) (w75 : Value) (hp1 : 16 ≤ Int32.toInt p1 ∧ Int32.toInt p1 ≤ 114) (hp4 : 1 ≤ Int32.toInt p4 ∧ Int32.toInt p4 ≤ 99) : zM l D y yX10_harmFrom (Cond.code yX10_harmFrom cX10_harmFrom 5 (some .int) :: zT) { frames := 3, cells := 0, slots := 0, locals := 64 } [.ref a0, .int 0, .int p1] [(a0, .inr (9, [.int 0, w2, w3, .int p4, w5, w6, w7, w8, w9, w10, w11, w12, w13, w14, w15, .int (-1), w16, w17, w18, w19, w20, w21, w22, w23, w24, w25, w26, w27, w28, w29, w30, w31, w32, w33, w34, w35, w36, w37, w38, w39, w40, w41, w42, w43, w44, w45, w46, w47, w48, w49, w50, w51, w52, w53, w54, w55, w56, w57, w58, w59, w60, w61, w62, w63, w64, w65, w66, w67, w68, w69, w70, w71, w72, w73, w74, w75]))] (zQi (S := Unit) D (fun r_ _ => r_ = 0) (fun _ => [(a0, .inr (9, [.int 0, w2, w3, .int p4, w5, w6, w7, w8, w9, w10, w11, w12, w13, w14, w15, .int (-1), w16, w17, w18, w19, w20, w21, w22, w23, w24, w25, w26, w27, w28, w29, w30, w31, w32, w33, w34, w35, w36, w37, w38, w39, w40, w41, w42, w43, w44, w45, w46, w47, w48, w49, w50, w51, w52, w53, w54, w55, w56, w57, w58, w59, w60, w61, w62, w63, w64, w65, w66, w67, w68, w69, w70, w71, w72, w73, w74, w75]))])) := by
  refine zent (cc := cX10_harmFrom) (maxL := 5) (ret := (some .int)) (by decide) (Nat.le_of_ble_eq_true rfl) ?_
  intro p e s m below meth c A H locs ls hx hb hml hr ht hown hlocks hin hA hK hE hS hW hl
  have hown : s.vm.findClass RX10 = some m.cls := hown
  replace hW : zPD D A [(a0, .inr (9, [.int 0, w2, w3, .int p4, w5, w6, w7, w8, w9, w10, w11, w12, w13, w14, w15, .int (-1), w16, w17, w18, w19, w20, w21, w22, w23, w24, w25, w26, w27, w28, w29, w30, w31, w32, w33, w34, w35, w36, w37, w38, w39, w40, w41, w42, w43, w44, w45, w46, w47, w48, w49, w50, w51, w52, w53, w54, w55, w56, w57, w58, w59, w60, w61, w62, w63, w64, w65, w66, w67, w68, w69, w70, w71, w72, w73, w74, w75]))] H := hW
  replace hl : lv_has ls 5 [(0, .ref a0), (1, .int 0), (2, .int p1)] := hl
  refine lv_iconst (v := 0) hx hb dX10_harmFrom_0 (by decide) ?_
  refine lv_istore_n (lv' := [(3, .int 0), (0, .ref a0), (1, .int 0), (2, .int p1)]) hx hb dX10_harmFrom_1 rfl hl (by decide) rfl (fun ls hl => ?_)
  refine lv_iload_n hx hb dX10_harmFrom_2 rfl (lv_at hl 2 rfl) ?_
  refine lv_aload_n hx hb dX10_harmFrom_3 rfl (lv_at hl 1 rfl) ?_
  refine zget hx hb ht inlX10 hown hK hW 0 rfl rfl 3 (by decide) zm_143 rfl dX10_harmFrom_4 ?_
  refine lv_icmp_ge (tgt := 17) hx hb dX10_harmFrom_7 (by decide) (fun c1_ => absurd c1_ (by have z0 := hp4; have e0 : (0 : Int32).toInt = 0 := (by decide); rw [zi_le]; omega)) (fun c1_ => ?_)
  refine lv_aload_n hx hb dX10_harmFrom_10 rfl (lv_at hl 1 rfl) ?_
  refine zget hx hb ht inlX10 hown hK hW 0 rfl rfl 3 (by decide) zm_143 rfl dX10_harmFrom_11 ?_
  refine lv_goto (tgt := 18) hx hb dX10_harmFrom_14 (by decide) ?_
  refine lv_istore (lv' := [(4, .int p4), (3, .int 0), (0, .ref a0), (1, .int 0), (2, .int p1)]) hx hb dX10_harmFrom_18 hl (by decide) rfl (fun ls hl => ?_)
  obtain ⟨x2_, ex2_⟩ : ∃ z : Int32, z = p4 := ⟨_, rfl⟩
  obtain ⟨n20_, hI20_⟩ : ∃ n : Nat, (0 ≤ Int32.toInt x2_ ∧ Int32.toInt x2_ ≤ 250) ∧ (250 - Int32.toInt x2_ < (n : Int)) ∧ zPD D A [(a0, .inr (9, [.int 0, w2, w3, .int p4, w5, w6, w7, w8, w9, w10, w11, w12, w13, w14, w15, .int (-1), w16, w17, w18, w19, w20, w21, w22, w23, w24, w25, w26, w27, w28, w29, w30, w31, w32, w33, w34, w35, w36, w37, w38, w39, w40, w41, w42, w43, w44, w45, w46, w47, w48, w49, w50, w51, w52, w53, w54, w55, w56, w57, w58, w59, w60, w61, w62, w63, w64, w65, w66, w67, w68, w69, w70, w71, w72, w73, w74, w75]))] H ∧ va_S A s.heap H locs ∧ lv_has ls 5 [(4, .int x2_), (3, .int 0), (0, .ref a0), (1, .int 0), (2, .int p1)] := ⟨(250 - Int32.toInt x2_ + 1).toNat, by rw [ex2_]; exact (by have u0 := hp4; omega), by omega, by (try rw [ex2_]); exact hW, hS, by (try rw [ex2_]); exact hl⟩
  clear hW hS hl ex2_
  induction n20_ generalizing x2_ H locs ls with
  | zero => obtain ⟨bx2_, hn, -⟩ := hI20_; exact absurd hn (by omega)
  | succ n ih =>
    obtain ⟨bx2_, hn, hW, hS, hl⟩ := hI20_
    refine lv_iload hx hb dX10_harmFrom_20 (lv_at hl 0 rfl) ?_
    refine lv_iload_n hx hb dX10_harmFrom_22 rfl (lv_at hl 4 rfl) ?_
    refine lv_icmp_ge (tgt := 55) hx hb dX10_harmFrom_23 (by decide) (fun c3_ => ?_) (fun c3_ => ?_)
    · have b4_ : 16 ≤ Int32.toInt x2_ ∧ Int32.toInt x2_ ≤ 250 := (by have u0 := bx2_; have u1 := (zi_le _ _).mp c3_; have u2 := hp1; omega)
      refine lv_iload_n hx hb dX10_harmFrom_55 rfl (lv_at hl 1 rfl) ?_
      exact zret_i (v := 0) hx hb hr hlocks hS () rfl hW (Nat.le_of_ble_eq_true rfl) (Nat.le_of_ble_eq_true rfl) dX10_harmFrom_56
    · have b5_ : 0 ≤ Int32.toInt x2_ ∧ Int32.toInt x2_ ≤ 113 := (by have u0 := bx2_; have u1 := (not_congr (zi_le _ _)).mp c3_; have u2 := hp1; omega)
      refine lv_iload hx hb dX10_harmFrom_26 (lv_at hl 0 rfl) ?_
      refine lv_aload_n hx hb dX10_harmFrom_28 rfl (lv_at hl 2 rfl) ?_
      refine zget hx hb ht inlX10 hown hK hW 0 rfl rfl 3 (by decide) zm_143 rfl dX10_harmFrom_29 ?_
      refine lv_aload_n hx hb dX10_harmFrom_32 rfl (lv_at hl 2 rfl) ?_
      refine zgo_i (wr := []) (zrunV (As := []) (rest := [.int p4, .int x2_]) ⟨hx, hb, hml, hown, ht⟩ (zc_X10_lastNow_0 l D y a0 (.int 0) w2 w3 (.int p4) w5 w6 w7 w8 w9 w10 w11 w12 w13 w14 w15 w16 w17 w18 w19 w20 w21 w22 w23 w24 w25 w26 w27 w28 w29 w30 w31 w32 w33 w34 w35 w36 w37 w38 w39 w40 w41 w42 w43 w44 w45 w46 w47 w48 w49 w50 w51 w52 w53 w54 w55 w56 w57 w58 w59 w60 w61 w62 w63 w64 w65 w66 w67 w68 w69 w70 w71 w72 w73 w74 w75) (cwV 0 ht (zgV zm_381 zm_382 zm_383 zm_5 zm_384) rfl rfl rfl (by decide +kernel) ⟨(Nat.le_of_ble_eq_true rfl), (Nat.le_of_ble_eq_true rfl)⟩) hK hE hS hA hW [0] (by decide) rfl 0 rfl rfl rfl rfl hl.1 rfl (Nat.le_of_ble_eq_true rfl) dX10_harmFrom_33 (Nat.le_of_ble_eq_true rfl) (Nat.le_of_ble_eq_true rfl)) hS hA hW [0] [] rfl rfl (by decide) (by decide) (fun r6_ u H locs hw hW hS => ?_)
      replace hW : zPD D A [(a0, .inr (9, [.int 0, w2, w3, .int p4, w5, w6, w7, w8, w9, w10, w11, w12, w13, w14, w15, .int (-1), w16, w17, w18, w19, w20, w21, w22, w23, w24, w25, w26, w27, w28, w29, w30, w31, w32, w33, w34, w35, w36, w37, w38, w39, w40, w41, w42, w43, w44, w45, w46, w47, w48, w49, w50, w51, w52, w53, w54, w55, w56, w57, w58, w59, w60, w61, w62, w63, w64, w65, w66, w67, w68, w69, w70, w71, w72, w73, w74, w75]))] H := hW
      have hw : r6_ = 15 := hw
      subst hw
      refine lv_iadd hx hb dX10_harmFrom_36 ?_
      have b7_ : 16 ≤ Int32.toInt (p4 + 15) ∧ Int32.toInt (p4 + 15) ≤ 114 := by have u0 := hp4; have u1 := (show (15 : Int32).toInt = 15 from (by decide)); have u2 := zadd p4 15 (by omega) (by omega); omega
      refine lv_icmp_ge (tgt := 55) hx hb dX10_harmFrom_37 (by decide) (fun c8_ => ?_) (fun c8_ => ?_)
      · have b9_ : 16 ≤ Int32.toInt (p4 + 15) ∧ Int32.toInt (p4 + 15) ≤ 113 := (by have u0 := b7_; have u1 := (zi_le _ _).mp c8_; have u2 := b5_; omega)
        have b10_ : 16 ≤ Int32.toInt x2_ ∧ Int32.toInt x2_ ≤ 113 := (by have u0 := b5_; have u1 := (zi_le _ _).mp c8_; have u2 := b9_; omega)
        refine lv_iload_n hx hb dX10_harmFrom_55 rfl (lv_at hl 1 rfl) ?_
        exact zret_i (v := 0) hx hb hr hlocks hS () rfl hW (Nat.le_of_ble_eq_true rfl) (Nat.le_of_ble_eq_true rfl) dX10_harmFrom_56
      · refine lv_iload_n hx hb dX10_harmFrom_40 rfl (lv_at hl 1 rfl) ?_
        refine lv_aload_n hx hb dX10_harmFrom_41 rfl (lv_at hl 2 rfl) ?_
        refine lv_iload hx hb dX10_harmFrom_42 (lv_at hl 0 rfl) ?_
        refine zgo_i (wr := []) (zrunV (As := [.int x2_]) (rest := [.int 0]) ⟨hx, hb, hml, hown, ht⟩ (zc_X10_harmAt_0 l D y a0 x2_ w2 w3 (.int p4) w5 w6 w7 w8 w9 w10 w11 w12 w13 w14 w15 (.int (-1)) w16 w17 w18 w19 w20 w21 w22 w23 w24 w25 w26 w27 w28 w29 w30 w31 w32 w33 w34 w35 w36 w37 w38 w39 w40 w41 w42 w43 w44 w45 w46 w47 w48 w49 w50 w51 w52 w53 w54 w55 w56 w57 w58 w59 w60 w61 w62 w63 w64 w65 w66 w67 w68 w69 w70 w71 w72 w73 w74 w75) (cwV 1 ht (zgV zm_750 zm_751 zm_752 zm_5 zm_753) rfl rfl rfl (by decide +kernel) ⟨(Nat.le_of_ble_eq_true rfl), (Nat.le_of_ble_eq_true rfl)⟩) hK hE hS hA hW [0] (by decide) rfl 0 rfl rfl rfl rfl hl.1 rfl (Nat.le_of_ble_eq_true rfl) dX10_harmFrom_44 (Nat.le_of_ble_eq_true rfl) (Nat.le_of_ble_eq_true rfl)) hS hA hW [0] [] rfl rfl (by decide) (by decide) (fun r11_ u H locs hw hW hS => ?_)
        replace hW : zPD D A [(a0, .inr (9, [.int 0, w2, w3, .int p4, w5, w6, w7, w8, w9, w10, w11, w12, w13, w14, w15, .int (-1), w16, w17, w18, w19, w20, w21, w22, w23, w24, w25, w26, w27, w28, w29, w30, w31, w32, w33, w34, w35, w36, w37, w38, w39, w40, w41, w42, w43, w44, w45, w46, w47, w48, w49, w50, w51, w52, w53, w54, w55, w56, w57, w58, w59, w60, w61, w62, w63, w64, w65, w66, w67, w68, w69, w70, w71, w72, w73, w74, w75]))] H := hW
        have hw : r11_ = 0 := hw
        subst hw
        refine lv_iadd hx hb dX10_harmFrom_47 ?_
        refine ztop (w := .int 0) (congrArg Value.int (by decide)) ?_
        refine lv_istore_n (lv' := [(3, .int 0), (4, .int x2_), (0, .ref a0), (1, .int 0), (2, .int p1)]) hx hb dX10_harmFrom_48 rfl hl (by decide) rfl (fun ls hl => ?_)
        refine lv_iinc (k := 1) (v := (x2_ + 1)) (lv' := [(4, .int (x2_ + 1)), (3, .int 0), (0, .ref a0), (1, .int 0), (2, .int p1)]) hx hb dX10_harmFrom_49 hl rfl (by rfl) (by decide) rfl (fun ls hl => ?_)
        refine lv_goto (tgt := 20) hx hb dX10_harmFrom_52 (by decide) ?_
        have b12_ : 1 ≤ Int32.toInt (x2_ + 1) ∧ Int32.toInt (x2_ + 1) ≤ 114 := by have u0 := b5_; have u1 := zadd_1 x2_ (by omega); omega
        exact ih _ _ _ _ ⟨(by have u0 := b12_; omega), by have u0 := zadd_1 x2_ (by have u0 := b5_; omega); omega, hW, hS, (lv_sub hl [0, 1, 2, 3, 4] rfl)⟩
set_option maxHeartbeats 8000000 in
set_option maxRecDepth 100000 in
theorem zc_X10_harmTillEnd_2 (l : Launch) (D : va_G) (y : Nat → ClassId) (a0 : Nat) (w1 : Value) (p2 : Int32) (w3 : Value) (w4 : Value) (w5 : Value) (w6 : Value) (w7 : Value) (w8 : Value) (w9 : Value) (w10 : Value) (w11 : Value) (w12 : Value) (w13 : Value) (w14 : Value) (w15 : Value) (w16 : Value) (w17 : Value) (w18 : Value) (w19 : Value) (w20 : Value) (w21 : Value) (w22 : Value) (w23 : Value) (w24 : Value) (w25 : Value) (w26 : Value) (w27 : Value) (w28 : Value) (w29 : Value) (w30 : Value) (w31 : Value) (w32 : Value) (w33 : Value) (w34 : Value) (w35 : Value) (w36 : Value) (w37 : Value) (w38 : Value) (w39 : Value) (w40 : Value) (w41 : Value) (w42 : Value) (w43 : Value) (w44 : Value) (w45 : Value) (w46 : Value) (w47 : Value) (w48 : Value) (w49 : Value) (w50 : Value) (w51 : Value) (w52 : Value) (w53 : Value) (w54 : Value) (w55 : Value) (w56 : Value) (w57 : Value) (w58 : Value) (w59 : Value) (w60 : Value) (w61 : Value) (w62 : Value) (w63 : Value) (w64 : Value) (w65 : Value) (w66 : Value) (w67 : Value) (w68 : Value) (w69 : Value) (w70 : Value) (w71 : Value) (w72 : Value) (w73 : Value) (hp2 : 1 ≤ Int32.toInt p2 ∧ Int32.toInt p2 ≤ 99) : zM l D y yX10_harmTillEnd (Cond.code yX10_harmTillEnd cX10_harmTillEnd 1 (some .int) :: zT) { frames := 4, cells := 0, slots := 0, locals := 88 } [.ref a0] [(a0, .inr (9, [.int 0, .int 0, w1, .int p2, w3, w4, w5, w6, w7, w8, w9, w10, w11, w12, w13, .int (-1), w14, w15, w16, w17, w18, w19, w20, w21, w22, w23, w24, w25, w26, w27, w28, w29, w30, w31, w32, w33, w34, w35, w36, w37, w38, w39, w40, w41, w42, w43, w44, w45, w46, w47, w48, w49, w50, w51, w52, w53, w54, w55, w56, w57, w58, w59, w60, w61, w62, w63, w64, w65, w66, w67, w68, w69, w70, w71, w72, w73]))] (zQi (S := Unit) D (fun r_ _ => r_ = 0) (fun _ => [(a0, .inr (9, [.int 0, .int 0, w1, .int p2, w3, w4, w5, w6, w7, w8, w9, w10, w11, w12, w13, .int (-1), w14, w15, w16, w17, w18, w19, w20, w21, w22, w23, w24, w25, w26, w27, w28, w29, w30, w31, w32, w33, w34, w35, w36, w37, w38, w39, w40, w41, w42, w43, w44, w45, w46, w47, w48, w49, w50, w51, w52, w53, w54, w55, w56, w57, w58, w59, w60, w61, w62, w63, w64, w65, w66, w67, w68, w69, w70, w71, w72, w73]))])) := by
  refine zent (cc := cX10_harmTillEnd) (maxL := 1) (ret := (some .int)) (by decide) (Nat.le_of_ble_eq_true rfl) ?_
  intro p e s m below meth c A H locs ls hx hb hml hr ht hown hlocks hin hA hK hE hS hW hl
  have hown : s.vm.findClass RX10 = some m.cls := hown
  have hW : zPD D A [(a0, .inr (9, [.int 0, .int 0, w1, .int p2, w3, w4, w5, w6, w7, w8, w9, w10, w11, w12, w13, .int (-1), w14, w15, w16, w17, w18, w19, w20, w21, w22, w23, w24, w25, w26, w27, w28, w29, w30, w31, w32, w33, w34, w35, w36, w37, w38, w39, w40, w41, w42, w43, w44, w45, w46, w47, w48, w49, w50, w51, w52, w53, w54, w55, w56, w57, w58, w59, w60, w61, w62, w63, w64, w65, w66, w67, w68, w69, w70, w71, w72, w73]))] H := hW
  have hl : lv_has ls 1 [(0, .ref a0)] := hl
  refine lv_aload_n hx hb dX10_harmTillEnd_0 rfl (lv_at hl 0 rfl) ?_
  refine lv_aload_n hx hb dX10_harmTillEnd_1 rfl (lv_at hl 0 rfl) ?_
  refine zget hx hb ht inlX10 hown hK hW 0 rfl rfl 1 (by decide) zm_141 rfl dX10_harmTillEnd_2 ?_
  refine lv_aload_n hx hb dX10_harmTillEnd_5 rfl (lv_at hl 0 rfl) ?_
  refine zget hx hb ht inlX10 hown hK hW 0 rfl rfl 3 (by decide) zm_143 rfl dX10_harmTillEnd_6 ?_
  refine lv_aload_n hx hb dX10_harmTillEnd_9 rfl (lv_at hl 0 rfl) ?_
  refine zgo_i (wr := []) (zrunV (As := []) (rest := [.int p2, .int 0, .ref a0]) ⟨hx, hb, hml, hown, ht⟩ (zc_X10_lastNow_0 l D y a0 (.int 0) (.int 0) w1 (.int p2) w3 w4 w5 w6 w7 w8 w9 w10 w11 w12 w13 w14 w15 w16 w17 w18 w19 w20 w21 w22 w23 w24 w25 w26 w27 w28 w29 w30 w31 w32 w33 w34 w35 w36 w37 w38 w39 w40 w41 w42 w43 w44 w45 w46 w47 w48 w49 w50 w51 w52 w53 w54 w55 w56 w57 w58 w59 w60 w61 w62 w63 w64 w65 w66 w67 w68 w69 w70 w71 w72 w73) (cwV 0 ht (zgV zm_381 zm_382 zm_383 zm_5 zm_384) rfl rfl rfl (by decide +kernel) ⟨(Nat.le_of_ble_eq_true rfl), (Nat.le_of_ble_eq_true rfl)⟩) hK hE hS hA hW [0] (by decide) rfl 0 rfl rfl rfl rfl hl.1 rfl (Nat.le_of_ble_eq_true rfl) dX10_harmTillEnd_10 (Nat.le_of_ble_eq_true rfl) (Nat.le_of_ble_eq_true rfl)) hS hA hW [0] [] rfl rfl (by decide) (by decide) (fun r1_ u H locs hw hW hS => ?_)
  have hW : zPD D A [(a0, .inr (9, [.int 0, .int 0, w1, .int p2, w3, w4, w5, w6, w7, w8, w9, w10, w11, w12, w13, .int (-1), w14, w15, w16, w17, w18, w19, w20, w21, w22, w23, w24, w25, w26, w27, w28, w29, w30, w31, w32, w33, w34, w35, w36, w37, w38, w39, w40, w41, w42, w43, w44, w45, w46, w47, w48, w49, w50, w51, w52, w53, w54, w55, w56, w57, w58, w59, w60, w61, w62, w63, w64, w65, w66, w67, w68, w69, w70, w71, w72, w73]))] H := hW
  have hw : r1_ = 15 := hw
  subst hw
  refine lv_iadd hx hb dX10_harmTillEnd_13 ?_
  have b2_ : 16 ≤ Int32.toInt (p2 + 15) ∧ Int32.toInt (p2 + 15) ≤ 114 := by have u0 := hp2; have u1 := (show (15 : Int32).toInt = 15 from (by decide)); have u2 := zadd p2 15 (by omega) (by omega); omega
  refine zgo_i (wr := []) (zrunV (As := [.int 0, .int (p2 + 15)]) (rest := []) ⟨hx, hb, hml, hown, ht⟩ (zc_X10_harmFrom_3 l D y a0 (p2 + 15) (.int 0) w1 p2 w3 w4 w5 w6 w7 w8 w9 w10 w11 w12 w13 w14 w15 w16 w17 w18 w19 w20 w21 w22 w23 w24 w25 w26 w27 w28 w29 w30 w31 w32 w33 w34 w35 w36 w37 w38 w39 w40 w41 w42 w43 w44 w45 w46 w47 w48 w49 w50 w51 w52 w53 w54 w55 w56 w57 w58 w59 w60 w61 w62 w63 w64 w65 w66 w67 w68 w69 w70 w71 w72 w73 b2_ hp2) (cwV 2 ht (zgV zm_746 zm_747 zm_748 zm_5 zm_749) rfl rfl rfl (by decide +kernel) ⟨(Nat.le_of_ble_eq_true rfl), (Nat.le_of_ble_eq_true rfl)⟩) hK hE hS hA hW [0] (by decide) rfl 0 rfl rfl rfl rfl hl.1 rfl (Nat.le_of_ble_eq_true rfl) dX10_harmTillEnd_14 (Nat.le_of_ble_eq_true rfl) (Nat.le_of_ble_eq_true rfl)) hS hA hW [0] [] rfl rfl (by decide) (by decide) (fun r3_ u H locs hw hW hS => ?_)
  have hW : zPD D A [(a0, .inr (9, [.int 0, .int 0, w1, .int p2, w3, w4, w5, w6, w7, w8, w9, w10, w11, w12, w13, .int (-1), w14, w15, w16, w17, w18, w19, w20, w21, w22, w23, w24, w25, w26, w27, w28, w29, w30, w31, w32, w33, w34, w35, w36, w37, w38, w39, w40, w41, w42, w43, w44, w45, w46, w47, w48, w49, w50, w51, w52, w53, w54, w55, w56, w57, w58, w59, w60, w61, w62, w63, w64, w65, w66, w67, w68, w69, w70, w71, w72, w73]))] H := hW
  have hw : r3_ = 0 := hw
  subst hw
  exact zret_i (v := 0) hx hb hr hlocks hS () rfl hW (Nat.le_of_ble_eq_true rfl) (Nat.le_of_ble_eq_true rfl) dX10_harmTillEnd_17
set_option maxHeartbeats 8000000 in
set_option maxRecDepth 100000 in
theorem zc_X10_costOfPath_3 (l : Launch) (D : va_G) (y : Nat → ClassId) (a0 : Nat) (w1 : Value) (p2 : Int32) (w3 : Value) (w4 : Value) (w5 : Value) (w6 : Value) (w7 : Value) (w8 : Value) (w9 : Value) (a10 : Nat) (w11 : Value) (w12 : Value) (w13 : Value) (w14 : Value) (w15 : Value) (w16 : Value) (w17 : Value) (w18 : Value) (w19 : Value) (w20 : Value) (w21 : Value) (w22 : Value) (w23 : Value) (w24 : Value) (w25 : Value) (w26 : Value) (w27 : Value) (w28 : Value) (w29 : Value) (a30 : Nat) (w31 : Value) (w32 : Value) (w33 : Value) (w34 : Value) (w35 : Value) (w36 : Value) (w37 : Value) (w38 : Value) (w39 : Value) (w40 : Value) (w41 : Value) (w42 : Value) (w43 : Value) (w44 : Value) (w45 : Value) (w46 : Value) (w47 : Value) (w48 : Value) (w49 : Value) (w50 : Value) (w51 : Value) (w52 : Value) (w53 : Value) (w54 : Value) (w55 : Value) (w56 : Value) (w57 : Value) (w58 : Value) (w59 : Value) (w60 : Value) (w61 : Value) (w62 : Value) (w63 : Value) (w64 : Value) (w65 : Value) (w66 : Value) (w67 : Value) (w68 : Value) (w69 : Value) (w70 : Value) (f71 : Nat → Int32) (hp2 : 1 ≤ Int32.toInt p2 ∧ Int32.toInt p2 ≤ 99) : zM l D y yX10_costOfPath (Cond.code yX10_costOfPath cX10_costOfPath 3 (some .int) :: zT) { frames := 5, cells := 0, slots := 0, locals := 108 } [.ref a0, .int 0] [(a0, .inr (9, [.int 0, .int 0, w1, .int p2, w3, .int 0, .int 0, w4, w5, w6, w7, w8, w9, .ref a10, w11, .int (-1), w12, w13, w14, w15, w16, w17, w18, w19, w20, w21, w22, w23, w24, w25, w26, w27, w28, w29, .ref a30, .int 0, w31, w32, w33, w34, w35, w36, w37, w38, w39, w40, w41, w42, w43, w44, w45, w46, w47, w48, w49, w50, w51, w52, w53, w54, w55, w56, w57, w58, w59, w60, w61, w62, w63, w64, w65, w66, w67, w68, w69, w70])), (a10, .inl (y 2, 7, .inl (fun _ => 0))), (a30, .inl (y 0, 7, .inl f71))] (zQi (S := Unit) D (fun r_ _ => r_ = 0) (fun _ => [(a0, .inr (9, [.int 0, .int 0, w1, .int p2, w3, .int 0, .int 0, w4, w5, w6, w7, w8, w9, .ref a10, w11, .int (-1), w12, w13, w14, w15, w16, w17, w18, w19, w20, w21, w22, w23, w24, w25, w26, w27, w28, w29, .ref a30, .int 0, w31, w32, w33, w34, w35, w36, w37, w38, w39, w40, w41, w42, w43, w44, w45, w46, w47, w48, w49, w50, w51, w52, w53, w54, w55, w56, w57, w58, w59, w60, w61, w62, w63, w64, w65, w66, w67, w68, w69, w70])), (a10, .inl (y 2, 7, .inl (fun _ => 0))), (a30, .inl (y 0, 7, .inl (upd (upd (upd (upd (upd (upd (upd f71 0 99999) 1 99999) 2 99999) 3 99999) 4 99999) 5 99999) 6 99999)))])) := by
  refine zent (cc := cX10_costOfPath) (maxL := 3) (ret := (some .int)) (by decide) (Nat.le_of_ble_eq_true rfl) ?_
  intro p e s m below meth c A H locs ls hx hb hml hr ht hown hlocks hin hA hK hE hS hW hl
  have hown : s.vm.findClass RX10 = some m.cls := hown
  have hW : zPD D A [(a0, .inr (9, [.int 0, .int 0, w1, .int p2, w3, .int 0, .int 0, w4, w5, w6, w7, w8, w9, .ref a10, w11, .int (-1), w12, w13, w14, w15, w16, w17, w18, w19, w20, w21, w22, w23, w24, w25, w26, w27, w28, w29, .ref a30, .int 0, w31, w32, w33, w34, w35, w36, w37, w38, w39, w40, w41, w42, w43, w44, w45, w46, w47, w48, w49, w50, w51, w52, w53, w54, w55, w56, w57, w58, w59, w60, w61, w62, w63, w64, w65, w66, w67, w68, w69, w70])), (a10, .inl (y 2, 7, .inl (fun _ => 0))), (a30, .inl (y 0, 7, .inl f71))] H := hW
  have hl : lv_has ls 3 [(0, .ref a0), (1, .int 0)] := hl
  refine lv_aload_n hx hb dX10_costOfPath_0 rfl (lv_at hl 0 rfl) ?_
  refine zgo_v (wr := []) (zrunV (As := []) (rest := []) ⟨hx, hb, hml, hown, ht⟩ (zc_X10_layOpen_4 l D y a0 (.int 0) (.int 0) w1 (.int p2) w3 (.int 0) (.int 0) w4 w5 w6 w7 w8 w9 a10 w11 (.int (-1)) w12 w13 w14 w15 w16 w17 w18 w19 w20 w21 w22 w23 w24 w25 w26 w27 w28 w29 a30 (.int 0) w31 w32 w33 w34 w35 w36 w37 w38 w39 w40 w41 w42 w43 w44 w45 w46 w47 w48 w49 w50 w51 w52 w53 w54 w55 w56 w57 w58 w59 w60 w61 w62 w63 w64 w65 w66 w67 w68 w69 w70 f71) (cwV 0 ht (zgV zm_397 zm_398 zm_399 zm_5 zm_400) rfl rfl rfl (by decide +kernel) ⟨(Nat.le_of_ble_eq_true rfl), (Nat.le_of_ble_eq_true rfl)⟩) hK hE hS hA hW [0, 1, 2] (by decide) rfl 0 rfl rfl rfl rfl hl.1 rfl (Nat.le_of_ble_eq_true rfl) dX10_costOfPath_1 (Nat.le_of_ble_eq_true rfl) (Nat.le_of_ble_eq_true rfl)) hS hA hW [0, 1, 2] [] rfl rfl (by decide) (by decide) (fun u H locs hw hW hS => ?_)
  have hW : zPD D A [(a0, .inr (9, [.int 0, .int 0, w1, .int p2, w3, .int 0, .int 0, w4, w5, w6, w7, w8, w9, .ref a10, w11, .int (-1), w12, w13, w14, w15, w16, w17, w18, w19, w20, w21, w22, w23, w24, w25, w26, w27, w28, w29, .ref a30, .int 0, w31, w32, w33, w34, w35, w36, w37, w38, w39, w40, w41, w42, w43, w44, w45, w46, w47, w48, w49, w50, w51, w52, w53, w54, w55, w56, w57, w58, w59, w60, w61, w62, w63, w64, w65, w66, w67, w68, w69, w70])), (a10, .inl (y 2, 7, .inl (fun _ => 0))), (a30, .inl (y 0, 7, .inl (upd (upd (upd (upd (upd (upd (upd f71 0 99999) 1 99999) 2 99999) 3 99999) 4 99999) 5 99999) 6 99999)))] H := hW
  refine lv_aload_n hx hb dX10_costOfPath_4 rfl (lv_at hl 0 rfl) ?_
  refine lv_iconst (v := 0) hx hb dX10_costOfPath_5 (by decide) ?_
  refine lv_aload_n hx hb dX10_costOfPath_6 rfl (lv_at hl 0 rfl) ?_
  refine zget hx hb ht inlX10 hown hK hW 0 rfl rfl 35 (by decide) zm_175 rfl dX10_costOfPath_7 ?_
  refine lv_aload_n hx hb dX10_costOfPath_10 rfl (lv_at hl 0 rfl) ?_
  refine zget hx hb ht inlX10 hown hK hW 0 rfl rfl 1 (by decide) zm_141 rfl dX10_costOfPath_11 ?_
  refine lv_iload_n hx hb dX10_costOfPath_14 rfl (lv_at hl 1 rfl) ?_
  refine lv_iadd hx hb dX10_costOfPath_15 ?_
  refine ztop (w := .int 0) (congrArg Value.int (by decide)) ?_
  refine zgo_i (wr := [(a10, .inl (y 2, 7, .inl (fun _ => 0))), (a30, .inl (y 0, 7, .inl (upd (upd (upd (upd (upd (upd (upd f71 0 99999) 1 99999) 2 99999) 3 99999) 4 99999) 5 99999) 6 99999)))]) (zrunV (As := [.int 0, .int 0, .int 0]) (rest := []) ⟨hx, hb, hml, hown, ht⟩ (zc_X10_goes_0 l D y a0 (.int 0) (.int 0) w1 (.int p2) w3 w4 w5 w6 w7 w8 w9 (.ref a10) w11 (.int (-1)) w12 w13 w14 w15 w16 w17 w18 w19 w20 w21 w22 w23 w24 w25 w26 w27 w28 w29 (.ref a30) (.int 0) w31 w32 w33 w34 w35 w36 w37 w38 w39 w40 w41 w42 w43 w44 w45 w46 w47 w48 w49 w50 w51 w52 w53 w54 w55 w56 w57 w58 w59 w60 w61 w62 w63 w64 w65 w66 w67 w68 w69 w70) (cwV 3 ht (zgV zm_852 zm_853 zm_854 zm_5 zm_855) rfl rfl rfl (by decide +kernel) ⟨(Nat.le_of_ble_eq_true rfl), (Nat.le_of_ble_eq_true rfl)⟩) hK hE hS hA hW [0] (by decide) rfl 0 rfl rfl rfl rfl hl.1 rfl (Nat.le_of_ble_eq_true rfl) dX10_costOfPath_16 (Nat.le_of_ble_eq_true rfl) (Nat.le_of_ble_eq_true rfl)) hS hA hW [0] [1, 2] rfl rfl (by decide) (by decide) (fun r2_ u H locs hw hW hS => ?_)
  have hW : zPD D A [(a10, .inl (y 2, 7, .inl (fun _ => 0))), (a30, .inl (y 0, 7, .inl (upd (upd (upd (upd (upd (upd (upd f71 0 99999) 1 99999) 2 99999) 3 99999) 4 99999) 5 99999) 6 99999))), (a0, .inr (9, [.int 0, .int 0, w1, .int p2, w3, .int 0, .int 0, w4, w5, w6, w7, w8, w9, .ref a10, w11, .int (-1), w12, w13, w14, w15, w16, w17, w18, w19, w20, w21, w22, w23, w24, w25, w26, w27, w28, w29, .ref a30, .int 0, w31, w32, w33, w34, w35, w36, w37, w38, w39, w40, w41, w42, w43, w44, w45, w46, w47, w48, w49, w50, w51, w52, w53, w54, w55, w56, w57, w58, w59, w60, w61, w62, w63, w64, w65, w66, w67, w68, w69, w70]))] H := hW
  have hw : r2_ = 0 := hw
  subst hw
  refine lv_istore_n (lv' := [(2, .int 0), (0, .ref a0), (1, .int 0)]) hx hb dX10_costOfPath_19 rfl hl (by decide) rfl (fun ls hl => ?_)
  refine lv_aload_n hx hb dX10_costOfPath_20 rfl (lv_at hl 1 rfl) ?_
  refine zgo_i (wr := [(a10, .inl (y 2, 7, .inl (fun _ => 0))), (a30, .inl (y 0, 7, .inl (upd (upd (upd (upd (upd (upd (upd f71 0 99999) 1 99999) 2 99999) 3 99999) 4 99999) 5 99999) 6 99999)))]) (zrunV (As := []) (rest := []) ⟨hx, hb, hml, hown, ht⟩ (zc_X10_harmTillEnd_2 l D y a0 w1 p2 w3 (.int 0) (.int 0) w4 w5 w6 w7 w8 w9 (.ref a10) w11 w12 w13 w14 w15 w16 w17 w18 w19 w20 w21 w22 w23 w24 w25 w26 w27 w28 w29 (.ref a30) (.int 0) w31 w32 w33 w34 w35 w36 w37 w38 w39 w40 w41 w42 w43 w44 w45 w46 w47 w48 w49 w50 w51 w52 w53 w54 w55 w56 w57 w58 w59 w60 w61 w62 w63 w64 w65 w66 w67 w68 w69 w70 hp2) (cwV 0 ht (zgV zm_856 zm_857 zm_858 zm_5 zm_859) rfl rfl rfl (by decide +kernel) ⟨(Nat.le_of_ble_eq_true rfl), (Nat.le_of_ble_eq_true rfl)⟩) hK hE hS hA hW [2] (by decide) rfl 0 rfl rfl rfl rfl hl.1 rfl (Nat.le_of_ble_eq_true rfl) dX10_costOfPath_21 (Nat.le_of_ble_eq_true rfl) (Nat.le_of_ble_eq_true rfl)) hS hA hW [2] [0, 1] rfl rfl (by decide) (by decide) (fun r3_ u H locs hw hW hS => ?_)
  have hW : zPD D A [(a10, .inl (y 2, 7, .inl (fun _ => 0))), (a30, .inl (y 0, 7, .inl (upd (upd (upd (upd (upd (upd (upd f71 0 99999) 1 99999) 2 99999) 3 99999) 4 99999) 5 99999) 6 99999))), (a0, .inr (9, [.int 0, .int 0, w1, .int p2, w3, .int 0, .int 0, w4, w5, w6, w7, w8, w9, .ref a10, w11, .int (-1), w12, w13, w14, w15, w16, w17, w18, w19, w20, w21, w22, w23, w24, w25, w26, w27, w28, w29, .ref a30, .int 0, w31, w32, w33, w34, w35, w36, w37, w38, w39, w40, w41, w42, w43, w44, w45, w46, w47, w48, w49, w50, w51, w52, w53, w54, w55, w56, w57, w58, w59, w60, w61, w62, w63, w64, w65, w66, w67, w68, w69, w70]))] H := hW
  have hw : r3_ = 0 := hw
  subst hw
  exact zret_i (v := 0) hx hb hr hlocks hS () rfl (hW.sub [2, 0, 1] (by decide) rfl) (Nat.le_of_ble_eq_true rfl) (Nat.le_of_ble_eq_true rfl) dX10_costOfPath_24
set_option maxHeartbeats 8000000 in
set_option maxRecDepth 100000 in
theorem zc_X10_begin_0 (l : Launch) (D : va_G) (y : Nat → ClassId) (a0 : Nat) (p1 : Int32) (w2 : Value) (w3 : Value) (w4 : Value) (w5 : Value) (w6 : Value) (w7 : Value) (w8 : Value) (w9 : Value) (a10 : Nat) (w11 : Value) (w12 : Value) (w13 : Value) (w14 : Value) (w15 : Value) (w16 : Value) (w17 : Value) (w18 : Value) (w19 : Value) (w20 : Value) (w21 : Value) (w22 : Value) (w23 : Value) (w24 : Value) (w25 : Value) (w26 : Value) (w27 : Value) (w28 : Value) (a29 : Nat) (a30 : Nat) (a31 : Nat) (w32 : Value) (w33 : Value) (w34 : Value) (w35 : Value) (w36 : Value) (w37 : Value) (w38 : Value) (w39 : Value) (w40 : Value) (w41 : Value) (w42 : Value) (w43 : Value) (w44 : Value) (w45 : Value) (w46 : Value) (w47 : Value) (w48 : Value) (w49 : Value) (w50 : Value) (w51 : Value) (w52 : Value) (w53 : Value) (w54 : Value) (w55 : Value) (w56 : Value) (w57 : Value) (w58 : Value) (w59 : Value) (w60 : Value) (w61 : Value) (w62 : Value) (w63 : Value) (w64 : Value) (w65 : Value) (w66 : Value) (w67 : Value) (w68 : Value) : zM l D y yX10_begin (Cond.code yX10_begin cX10_begin 6 (some .int) :: zT) { frames := 6, cells := 0, slots := 0, locals := 130 } [.ref a0, .int p1] [(a0, .inr (9, [.int 0, .int 0, w2, .int 20, w3, .int 0, .int 0, w4, w5, w6, w7, w8, w9, .ref a10, w11, .int (-1), w12, w13, w14, w15, w16, w17, w18, w19, w20, w21, w22, w23, w24, w25, w26, w27, .int 0, w28, .ref a29, .int 0, .ref a30, .int 0, .ref a31, w32, w33, w34, w35, w36, w37, w38, w39, w40, w41, w42, w43, w44, w45, w46, w47, w48, w49, w50, w51, w52, w53, w54, w55, w56, w57, w58, w59, w60, w61, w62, w63, w64, w65, w66, w67, w68])), (a10, .inl (y 2, 7, .inl (fun _ => 0))), (a29, .inl (y 0, 7, .inl (fun _ => 0))), (a30, .inl (y 0, 7, .inl (fun _ => 0))), (a31, .inl (y 0, 7, .inl (fun _ => 0)))] (zQi (S := Unit) D (fun r_ _ => r_ = (if p1 < 0 then (-1) else (if 1 < p1 then (-1) else 0))) (fun _ => [])) := by
  refine zent (cc := cX10_begin) (maxL := 6) (ret := (some .int)) (by decide) (Nat.le_of_ble_eq_true rfl) ?_
  intro p e s m below meth c A H locs ls hx hb hml hr ht hown hlocks hin hA hK hE hS hW hl
  have hown : s.vm.findClass RX10 = some m.cls := hown
  replace hW : zPD D A [(a0, .inr (9, [.int 0, .int 0, w2, .int 20, w3, .int 0, .int 0, w4, w5, w6, w7, w8, w9, .ref a10, w11, .int (-1), w12, w13, w14, w15, w16, w17, w18, w19, w20, w21, w22, w23, w24, w25, w26, w27, .int 0, w28, .ref a29, .int 0, .ref a30, .int 0, .ref a31, w32, w33, w34, w35, w36, w37, w38, w39, w40, w41, w42, w43, w44, w45, w46, w47, w48, w49, w50, w51, w52, w53, w54, w55, w56, w57, w58, w59, w60, w61, w62, w63, w64, w65, w66, w67, w68])), (a10, .inl (y 2, 7, .inl (fun _ => 0))), (a29, .inl (y 0, 7, .inl (fun _ => 0))), (a30, .inl (y 0, 7, .inl (fun _ => 0))), (a31, .inl (y 0, 7, .inl (fun _ => 0)))] H := hW
  replace hl : lv_has ls 6 [(0, .ref a0), (1, .int p1)] := hl
  refine lv_aload_n hx hb dX10_begin_0 rfl (lv_at hl 0 rfl) ?_
  refine lv_iload_n hx hb dX10_begin_1 rfl (lv_at hl 1 rfl) ?_
  refine lv_iconst (v := 0) hx hb dX10_begin_2 (by decide) ?_
  refine lv_iconst (v := 1) hx hb dX10_begin_3 (by decide) ?_
  refine zgo_i (wr := [(a10, .inl (y 2, 7, .inl (fun _ => 0))), (a29, .inl (y 0, 7, .inl (fun _ => 0))), (a30, .inl (y 0, 7, .inl (fun _ => 0))), (a31, .inl (y 0, 7, .inl (fun _ => 0)))]) (zrunV (As := [.int p1, .int 0, .int 1]) (rest := []) ⟨hx, hb, hml, hown, ht⟩ (zc_X10_in_11 l D y a0 p1 (.int 0) (.int 0) w2 (.int 20) w3 (.int 0) (.int 0) w4 w5 w6 w7 w8 w9 (.ref a10) w11 (.int (-1)) w12 w13 w14 w15 w16 w17 w18 w19 w20 w21 w22 w23 w24 w25 w26 w27 (.int 0) w28 (.ref a29) (.int 0) (.ref a30) (.int 0) (.ref a31) w32 w33 w34 w35 w36 w37 w38 w39 w40 w41 w42 w43 w44 w45 w46 w47 w48 w49 w50 w51 w52 w53 w54 w55 w56 w57 w58 w59 w60 w61 w62 w63 w64 w65 w66 w67 w68) (cwV 3 ht (zgV zm_240 zm_241 zm_242 zm_5 zm_243) rfl rfl rfl (by decide +kernel) ⟨(Nat.le_of_ble_eq_true rfl), (Nat.le_of_ble_eq_true rfl)⟩) hK hE hS hA hW [0] (by decide) rfl 0 rfl rfl rfl rfl hl.1 rfl (Nat.le_of_ble_eq_true rfl) dX10_begin_4 (Nat.le_of_ble_eq_true rfl) (Nat.le_of_ble_eq_true rfl)) hS hA hW [0] [1, 2, 3, 4] rfl rfl (by decide) (by decide) (fun r1_ u H locs hw hW hS => ?_)
  replace hW : zPD D A [(a10, .inl (y 2, 7, .inl (fun _ => 0))), (a29, .inl (y 0, 7, .inl (fun _ => 0))), (a30, .inl (y 0, 7, .inl (fun _ => 0))), (a31, .inl (y 0, 7, .inl (fun _ => 0))), (a0, .inr (9, [.int 0, .int 0, w2, .int 20, w3, .int 0, .int 0, w4, w5, w6, w7, w8, w9, .ref a10, w11, .int (-1), w12, w13, w14, w15, w16, w17, w18, w19, w20, w21, w22, w23, w24, w25, w26, w27, .int 0, w28, .ref a29, .int 0, .ref a30, .int 0, .ref a31, w32, w33, w34, w35, w36, w37, w38, w39, w40, w41, w42, w43, w44, w45, w46, w47, w48, w49, w50, w51, w52, w53, w54, w55, w56, w57, w58, w59, w60, w61, w62, w63, w64, w65, w66, w67, w68]))] H := hW
  have hw : r1_ = (if p1 < 0 then 0 else (if 1 < p1 then 0 else 1)) := hw
  by_cases c2_ : p1 < 0
  · have b3_ : (-2147483648) ≤ Int32.toInt p1 ∧ Int32.toInt p1 ≤ (-1) := (by have u0 := zbnd p1; have u1 := (zi_lt _ _).mp c2_; have u2 : (0 : Int32).toInt = 0 := (by decide); omega)
    rw [if_pos c2_] at hw
    subst hw
    refine lv_if_ne (tgt := 12) hx hb dX10_begin_7 (by decide) (fun c4_ => absurd (by decide) c4_) (fun c4_ => ?_)
    refine lv_iconst (v := (-1)) hx hb dX10_begin_10 (by decide) ?_
    exact zret_i (v := (-1)) hx hb hr hlocks hS () (by show _ = _; rw [if_pos c2_]) (hW.sub [] (by decide) rfl) (Nat.le_of_ble_eq_true rfl) (Nat.le_of_ble_eq_true rfl) dX10_begin_11
  · have b5_ : 0 ≤ Int32.toInt p1 ∧ Int32.toInt p1 ≤ 2147483647 := (by have u0 := zbnd p1; have u1 := (not_congr (zi_lt _ _)).mp c2_; have u2 : (0 : Int32).toInt = 0 := (by decide); omega)
    rw [if_neg c2_] at hw
    by_cases c6_ : 1 < p1
    · have b7_ : 2 ≤ Int32.toInt p1 ∧ Int32.toInt p1 ≤ 2147483647 := (by have u0 := b5_; have u1 := (zi_lt _ _).mp c6_; have u2 : (1 : Int32).toInt = 1 := (by decide); omega)
      rw [if_pos c6_] at hw
      subst hw
      refine lv_if_ne (tgt := 12) hx hb dX10_begin_7 (by decide) (fun c8_ => absurd (by decide) c8_) (fun c8_ => ?_)
      refine lv_iconst (v := (-1)) hx hb dX10_begin_10 (by decide) ?_
      exact zret_i (v := (-1)) hx hb hr hlocks hS () (by show _ = _; rw [if_neg c2_, if_pos c6_]) (hW.sub [] (by decide) rfl) (Nat.le_of_ble_eq_true rfl) (Nat.le_of_ble_eq_true rfl) dX10_begin_11
    · have b9_ : 0 ≤ Int32.toInt p1 ∧ Int32.toInt p1 ≤ 1 := (by have u0 := b5_; have u1 := (not_congr (zi_lt _ _)).mp c6_; have u2 : (1 : Int32).toInt = 1 := (by decide); omega)
      rw [if_neg c6_] at hw
      subst hw
      refine lv_if_ne (tgt := 12) hx hb dX10_begin_7 (by decide) (fun c10_ => ?_) (fun c10_ => absurd c10_ (by decide))
      refine lv_aload_n hx hb dX10_begin_12 rfl (lv_at hl 0 rfl) ?_
      refine zget hx hb ht inlX10 hown hK hW 4 rfl rfl 3 (by decide) zm_143 rfl dX10_begin_13 ?_
      refine lv_istore_n (lv' := [(2, .int 20), (0, .ref a0), (1, .int p1)]) hx hb dX10_begin_16 rfl hl (by decide) rfl (fun ls hl => ?_)
      refine lv_iconst (v := 0) hx hb dX10_begin_17 (by decide) ?_
      refine lv_istore_n (lv' := [(3, .int 0), (2, .int 20), (0, .ref a0), (1, .int p1)]) hx hb dX10_begin_18 rfl hl (by decide) rfl (fun ls hl => ?_)
      refine lv_iconst (v := (-1)) hx hb dX10_begin_19 (by decide) ?_
      refine lv_istore (lv' := [(4, .int (-1)), (3, .int 0), (2, .int 20), (0, .ref a0), (1, .int p1)]) hx hb dX10_begin_20 hl (by decide) rfl (fun ls hl => ?_)
      refine lv_aload_n hx hb dX10_begin_22 rfl (lv_at hl 3 rfl) ?_
      refine zgo_v (wr := [(a10, .inl (y 2, 7, .inl (fun _ => 0))), (a29, .inl (y 0, 7, .inl (fun _ => 0))), (a30, .inl (y 0, 7, .inl (fun _ => 0))), (a31, .inl (y 0, 7, .inl (fun _ => 0)))]) (zrunV (As := []) (rest := []) ⟨hx, hb, hml, hown, ht⟩ (zc_X10_layRain_0 l D y a0 (.int 0) w2 (.int 20) w3 (.int 0) (.int 0) w4 w5 w6 w7 w8 w9 (.ref a10) w11 w12 w13 w14 w15 w16 w17 w18 w19 w20 w21 w22 w23 w24 w25 w26 w27 w28 (.ref a29) (.int 0) (.ref a30) (.int 0) (.ref a31) w32 w33 w34 w35 w36 w37 w38 w39 w40 w41 w42 w43 w44 w45 w46 w47 w48 w49 w50 w51 w52 w53 w54 w55 w56 w57 w58 w59 w60 w61 w62 w63 w64 w65 w66 w67 w68) (cwV 0 ht (zgV zm_377 zm_378 zm_379 zm_5 zm_380) rfl rfl rfl (by decide +kernel) ⟨(Nat.le_of_ble_eq_true rfl), (Nat.le_of_ble_eq_true rfl)⟩) hK hE hS hA hW [4] (by decide) rfl 0 rfl rfl rfl rfl hl.1 rfl (Nat.le_of_ble_eq_true rfl) dX10_begin_23 (Nat.le_of_ble_eq_true rfl) (Nat.le_of_ble_eq_true rfl)) hS hA hW [4] [0, 1, 2, 3] rfl rfl (by decide) (by decide) (fun u H locs hw hW hS => ?_)
      replace hW : zPD D A [(a10, .inl (y 2, 7, .inl (fun _ => 0))), (a29, .inl (y 0, 7, .inl (fun _ => 0))), (a30, .inl (y 0, 7, .inl (fun _ => 0))), (a31, .inl (y 0, 7, .inl (fun _ => 0))), (a0, .inr (9, [.int 0, .int 0, w2, .int 20, w3, .int 0, .int 0, w4, w5, w6, w7, w8, w9, .ref a10, w11, .int (-1), w12, w13, w14, w15, w16, w17, w18, w19, w20, w21, w22, w23, w24, w25, w26, w27, .int 0, w28, .ref a29, .int 0, .ref a30, .int 0, .ref a31, w32, w33, w34, w35, w36, w37, w38, w39, w40, w41, w42, w43, w44, w45, w46, w47, w48, w49, w50, w51, w52, w53, w54, w55, w56, w57, w58, w59, w60, w61, w62, w63, w64, w65, w66, w67, w68]))] H := hW
      refine lv_aload_n hx hb dX10_begin_26 rfl (lv_at hl 3 rfl) ?_
      refine zgo_v (wr := [(a10, .inl (y 2, 7, .inl (fun _ => 0))), (a29, .inl (y 0, 7, .inl (fun _ => 0)))]) (zrunV (As := []) (rest := []) ⟨hx, hb, hml, hown, ht⟩ (zc_X10_layRound_0 l D y a0 (.int 0) (.int 0) w2 (.int 20) w3 (.int 0) (.int 0) w4 w5 w6 w7 w8 w9 (.ref a10) w11 (.int (-1)) w12 w13 w14 w15 w16 w17 w18 w19 w20 w21 w22 w23 w24 w25 w26 w27 (.int 0) w28 (.ref a29) a30 a31 w32 w33 w34 w35 w36 w37 w38 w39 w40 w41 w42 w43 w44 w45 w46 w47 w48 w49 w50 w51 w52 w53 w54 w55 w56 w57 w58 w59 w60 w61 w62 w63 w64 w65 w66 w67 w68) (cwV 0 ht (zgV zm_844 zm_845 zm_846 zm_5 zm_847) rfl rfl rfl (by decide +kernel) ⟨(Nat.le_of_ble_eq_true rfl), (Nat.le_of_ble_eq_true rfl)⟩) hK hE hS hA hW [4, 2, 3] (by decide) rfl 0 rfl rfl rfl rfl hl.1 rfl (Nat.le_of_ble_eq_true rfl) dX10_begin_27 (Nat.le_of_ble_eq_true rfl) (Nat.le_of_ble_eq_true rfl)) hS hA hW [4, 2, 3] [0, 1] rfl rfl (by decide) (by decide) (fun u H locs hw hW hS => ?_)
      replace hW : zPD D A [(a10, .inl (y 2, 7, .inl (fun _ => 0))), (a29, .inl (y 0, 7, .inl (fun _ => 0))), (a0, .inr (9, [.int 0, .int 0, w2, .int 20, w3, .int 0, .int 0, w4, w5, w6, w7, w8, w9, .ref a10, w11, .int (-1), w12, w13, w14, w15, w16, w17, w18, w19, w20, w21, w22, w23, w24, w25, w26, w27, .int 0, w28, .ref a29, .int 0, .ref a30, .int 0, .ref a31, w32, w33, w34, w35, w36, w37, w38, w39, w40, w41, w42, w43, w44, w45, w46, w47, w48, w49, w50, w51, w52, w53, w54, w55, w56, w57, w58, w59, w60, w61, w62, w63, w64, w65, w66, w67, w68])), (a30, .inl (y 0, 7, .inl (fun _ => 0))), (a31, .inl (y 0, 7, .inl (fun _ => 0)))] H := hW
      refine lv_aload_n hx hb dX10_begin_30 rfl (lv_at hl 3 rfl) ?_
      refine lv_iconst (v := 0) hx hb dX10_begin_31 (by decide) ?_
      refine zput (ws' := [(a10, .inl (y 2, 7, .inl (fun _ => 0))), (a29, .inl (y 0, 7, .inl (fun _ => 0))), (a0, .inr (9, [.int 0, .int 0, w2, .int 0, w3, .int 0, .int 0, w4, w5, w6, w7, w8, w9, .ref a10, w11, .int (-1), w12, w13, w14, w15, w16, w17, w18, w19, w20, w21, w22, w23, w24, w25, w26, w27, .int 0, w28, .ref a29, .int 0, .ref a30, .int 0, .ref a31, w32, w33, w34, w35, w36, w37, w38, w39, w40, w41, w42, w43, w44, w45, w46, w47, w48, w49, w50, w51, w52, w53, w54, w55, w56, w57, w58, w59, w60, w61, w62, w63, w64, w65, w66, w67, w68])), (a30, .inl (y 0, 7, .inl (fun _ => 0))), (a31, .inl (y 0, 7, .inl (fun _ => 0)))]) hx hb ht inlX10 tyX10 tyX10_ok nmX10 hown hK hS hW 2 rfl rfl 3 (by decide) zm_143 rfl rfl rfl (Nat.le_of_ble_eq_true rfl) rfl dX10_begin_32 (fun H locs hW hS => ?_)
      refine lv_aload_n hx hb dX10_begin_35 rfl (lv_at hl 3 rfl) ?_
      refine zget hx hb ht inlX10 hown hK hW 2 rfl rfl 3 (by decide) zm_143 rfl dX10_begin_36 ?_
      refine lv_bipush (v := 100) hx hb dX10_begin_39 (by decide) ?_
      refine lv_icmp_ge (tgt := 83) hx hb dX10_begin_41 (by decide) (fun c13_ => absurd c13_ (by decide)) (fun c13_ => ?_)
      refine lv_aload_n hx hb dX10_begin_44 rfl (lv_at hl 3 rfl) ?_
      refine lv_iconst (v := 0) hx hb dX10_begin_45 (by decide) ?_
      refine zgo_i (wr := [(a30, .inl (y 0, 7, .inl (fun _ => 0))), (a31, .inl (y 0, 7, .inl (fun _ => 0)))]) (zrunV (As := [.int 0]) (rest := []) ⟨hx, hb, hml, hown, ht⟩ (zc_X10_costOfPath_2 l D y a0 w2 w3 w4 w5 w6 w7 w8 w9 a10 w11 w12 w13 w14 w15 w16 w17 w18 w19 w20 w21 w22 w23 w24 w25 w26 w27 (.int 0) w28 a29 (.ref a30) (.int 0) (.ref a31) w32 w33 w34 w35 w36 w37 w38 w39 w40 w41 w42 w43 w44 w45 w46 w47 w48 w49 w50 w51 w52 w53 w54 w55 w56 w57 w58 w59 w60 w61 w62 w63 w64 w65 w66 w67 w68) (cwV 1 ht (zgV zm_848 zm_849 zm_850 zm_5 zm_851) rfl rfl rfl (by decide +kernel) ⟨(Nat.le_of_ble_eq_true rfl), (Nat.le_of_ble_eq_true rfl)⟩) hK hE hS hA hW [2, 0, 1] (by decide) rfl 0 rfl rfl rfl rfl hl.1 rfl (Nat.le_of_ble_eq_true rfl) dX10_begin_46 (Nat.le_of_ble_eq_true rfl) (Nat.le_of_ble_eq_true rfl)) hS hA hW [2, 0, 1] [3, 4] rfl rfl (by decide) (by decide) (fun r14_ u H locs hw hW hS => ?_)
      replace hW : zPD D A [(a30, .inl (y 0, 7, .inl (fun _ => 0))), (a31, .inl (y 0, 7, .inl (fun _ => 0))), (a0, .inr (9, [.int 0, .int 0, w2, .int 0, w3, .int 0, .int 0, w4, w5, w6, w7, w8, w9, .ref a10, w11, .int (-1), w12, w13, w14, w15, w16, w17, w18, w19, w20, w21, w22, w23, w24, w25, w26, w27, .int 0, w28, .ref a29, .int 0, .ref a30, .int 0, .ref a31, w32, w33, w34, w35, w36, w37, w38, w39, w40, w41, w42, w43, w44, w45, w46, w47, w48, w49, w50, w51, w52, w53, w54, w55, w56, w57, w58, w59, w60, w61, w62, w63, w64, w65, w66, w67, w68])), (a10, .inl (y 2, 7, .inl (fun _ => 0))), (a29, .inl (y 0, 7, .inl (upd (upd (upd (upd (upd (upd (upd (fun _ => 0) 0 99999) 1 99999) 2 99999) 3 99999) 4 99999) 5 99999) 6 99999)))] H := hW
      have hw : r14_ = 0 := hw
      subst hw
      refine lv_istore (lv' := [(5, .int 0), (4, .int (-1)), (3, .int 0), (2, .int 20), (0, .ref a0), (1, .int p1)]) hx hb dX10_begin_49 hl (by decide) rfl (fun ls hl => ?_)
      refine lv_iload hx hb dX10_begin_51 (lv_at hl 0 rfl) ?_
      refine lv_iload hx hb dX10_begin_53 (lv_at hl 1 rfl) ?_
      refine lv_icmp_gt (tgt := 61) hx hb dX10_begin_55 (by decide) (fun c15_ => ?_) (fun c15_ => absurd (by decide) c15_)
      refine lv_aload_n hx hb dX10_begin_61 rfl (lv_at hl 4 rfl) ?_
      refine zget hx hb ht inlX10 hown hK hW 2 rfl rfl 3 (by decide) zm_143 rfl dX10_begin_62 ?_
      refine lv_istore_n (lv' := [(3, .int 0), (5, .int 0), (4, .int (-1)), (2, .int 20), (0, .ref a0), (1, .int p1)]) hx hb dX10_begin_65 rfl hl (by decide) rfl (fun ls hl => ?_)
      refine lv_iload hx hb dX10_begin_66 (lv_at hl 1 rfl) ?_
      refine lv_istore (lv' := [(4, .int 0), (3, .int 0), (5, .int 0), (2, .int 20), (0, .ref a0), (1, .int p1)]) hx hb dX10_begin_68 hl (by decide) rfl (fun ls hl => ?_)
      refine lv_aload_n hx hb dX10_begin_70 rfl (lv_at hl 4 rfl) ?_
      refine lv_dup hx hb dX10_begin_71 rfl ?_
      refine zget hx hb ht inlX10 hown hK hW 2 rfl rfl 3 (by decide) zm_143 rfl dX10_begin_72 ?_
      refine lv_iconst (v := 1) hx hb dX10_begin_75 (by decide) ?_
      refine lv_iadd hx hb dX10_begin_76 ?_
      refine ztop (w := .int 1) (congrArg Value.int (by decide)) ?_
      refine zput (ws' := [(a30, .inl (y 0, 7, .inl (fun _ => 0))), (a31, .inl (y 0, 7, .inl (fun _ => 0))), (a0, .inr (9, [.int 0, .int 0, w2, .int 1, w3, .int 0, .int 0, w4, w5, w6, w7, w8, w9, .ref a10, w11, .int (-1), w12, w13, w14, w15, w16, w17, w18, w19, w20, w21, w22, w23, w24, w25, w26, w27, .int 0, w28, .ref a29, .int 0, .ref a30, .int 0, .ref a31, w32, w33, w34, w35, w36, w37, w38, w39, w40, w41, w42, w43, w44, w45, w46, w47, w48, w49, w50, w51, w52, w53, w54, w55, w56, w57, w58, w59, w60, w61, w62, w63, w64, w65, w66, w67, w68])), (a10, .inl (y 2, 7, .inl (fun _ => 0))), (a29, .inl (y 0, 7, .inl (upd (upd (upd (upd (upd (upd (upd (fun _ => 0) 0 99999) 1 99999) 2 99999) 3 99999) 4 99999) 5 99999) 6 99999)))]) hx hb ht inlX10 tyX10 tyX10_ok nmX10 hown hK hS hW 2 rfl rfl 3 (by decide) zm_143 rfl rfl rfl (Nat.le_of_ble_eq_true rfl) rfl dX10_begin_77 (fun H locs hW hS => ?_)
      refine lv_goto (tgt := 35) hx hb dX10_begin_80 (by decide) ?_
      obtain ⟨x16_, ex16_⟩ : ∃ z : Int32, z = 1 := ⟨_, rfl⟩
      obtain ⟨g17_, eg17_⟩ : ∃ z : Nat → Int32, z = (upd (upd (upd (upd (upd (upd (upd (fun _ => 0) 0 99999) 1 99999) 2 99999) 3 99999) 4 99999) 5 99999) 6 99999) := ⟨_, rfl⟩
      obtain ⟨n35_, hI35_⟩ : ∃ n : Nat, (1 ≤ Int32.toInt x16_ ∧ Int32.toInt x16_ ≤ 100) ∧ (100 - Int32.toInt x16_ < (n : Int)) ∧ zPD D A [(a30, .inl (y 0, 7, .inl (fun _ => 0))), (a31, .inl (y 0, 7, .inl (fun _ => 0))), (a0, .inr (9, [.int 0, .int 0, w2, .int x16_, w3, .int 0, .int 0, w4, w5, w6, w7, w8, w9, .ref a10, w11, .int (-1), w12, w13, w14, w15, w16, w17, w18, w19, w20, w21, w22, w23, w24, w25, w26, w27, .int 0, w28, .ref a29, .int 0, .ref a30, .int 0, .ref a31, w32, w33, w34, w35, w36, w37, w38, w39, w40, w41, w42, w43, w44, w45, w46, w47, w48, w49, w50, w51, w52, w53, w54, w55, w56, w57, w58, w59, w60, w61, w62, w63, w64, w65, w66, w67, w68])), (a10, .inl (y 2, 7, .inl (fun _ => 0))), (a29, .inl (y 0, 7, .inl g17_))] H ∧ va_S A s.heap H locs ∧ lv_has ls 6 [(4, .int 0), (3, .int 0), (5, .int 0), (2, .int 20), (0, .ref a0), (1, .int p1)] := ⟨(100 - Int32.toInt x16_ + 1).toNat, by rw [ex16_]; exact (by decide), by omega, by (try rw [ex16_]); (try rw [eg17_]); exact hW, hS, by (try rw [ex16_]); (try rw [eg17_]); exact hl⟩
      clear hW hS hl ex16_ eg17_
      induction n35_ generalizing x16_ g17_ H locs ls with
      | zero => obtain ⟨bx16_, hn, -⟩ := hI35_; exact absurd hn (by omega)
      | succ n ih =>
        obtain ⟨bx16_, hn, hW, hS, hl⟩ := hI35_
        refine lv_aload_n hx hb dX10_begin_35 rfl (lv_at hl 4 rfl) ?_
        refine zget hx hb ht inlX10 hown hK hW 2 rfl rfl 3 (by decide) zm_143 rfl dX10_begin_36 ?_
        refine lv_bipush (v := 100) hx hb dX10_begin_39 (by decide) ?_
        refine lv_icmp_ge (tgt := 83) hx hb dX10_begin_41 (by decide) (fun c18_ => ?_) (fun c18_ => ?_)
        · have b19_ : 100 ≤ Int32.toInt x16_ ∧ Int32.toInt x16_ ≤ 100 := (by have u0 := bx16_; have u1 := (zi_le _ _).mp c18_; have u2 : (100 : Int32).toInt = 100 := (by decide); omega)
          refine lv_aload_n hx hb dX10_begin_83 rfl (lv_at hl 4 rfl) ?_
          refine lv_iload_n hx hb dX10_begin_84 rfl (lv_at hl 3 rfl) ?_
          refine zput (ws' := [(a30, .inl (y 0, 7, .inl (fun _ => 0))), (a31, .inl (y 0, 7, .inl (fun _ => 0))), (a0, .inr (9, [.int 0, .int 0, w2, .int 20, w3, .int 0, .int 0, w4, w5, w6, w7, w8, w9, .ref a10, w11, .int (-1), w12, w13, w14, w15, w16, w17, w18, w19, w20, w21, w22, w23, w24, w25, w26, w27, .int 0, w28, .ref a29, .int 0, .ref a30, .int 0, .ref a31, w32, w33, w34, w35, w36, w37, w38, w39, w40, w41, w42, w43, w44, w45, w46, w47, w48, w49, w50, w51, w52, w53, w54, w55, w56, w57, w58, w59, w60, w61, w62, w63, w64, w65, w66, w67, w68])), (a10, .inl (y 2, 7, .inl (fun _ => 0))), (a29, .inl (y 0, 7, .inl g17_))]) hx hb ht inlX10 tyX10 tyX10_ok nmX10 hown hK hS hW 2 rfl rfl 3 (by decide) zm_143 rfl rfl rfl (Nat.le_of_ble_eq_true rfl) rfl dX10_begin_85 (fun H locs hW hS => ?_)
          refine lv_iload_n hx hb dX10_begin_88 rfl (lv_at hl 5 rfl) ?_
          refine lv_if_ne (tgt := 96) hx hb dX10_begin_89 (by decide) (fun c20_ => ?_) (fun c20_ => ?_)
          · have b21_ : 1 ≤ Int32.toInt p1 ∧ Int32.toInt p1 ≤ 1 := (by have u0 := b9_; have u1 := (not_congr (zi_eq _ _)).mp c20_; have u2 : (0 : Int32).toInt = 0 := (by decide); omega)
            refine lv_iload hx hb dX10_begin_96 (lv_at hl 0 rfl) ?_
            exact zret_i (v := 0) hx hb hr hlocks hS () (by show _ = _; rw [if_neg c2_, if_neg c6_]) (hW.sub [] (by decide) rfl) (Nat.le_of_ble_eq_true rfl) (Nat.le_of_ble_eq_true rfl) dX10_begin_98
          · have b22_ : 0 ≤ Int32.toInt p1 ∧ Int32.toInt p1 ≤ 0 := (by have u0 := b9_; have u1 := (zi_eq _ _).mp c20_; have u2 : (0 : Int32).toInt = 0 := (by decide); omega)
            refine lv_iload_n hx hb dX10_begin_92 rfl (lv_at hl 1 rfl) ?_
            refine lv_goto (tgt := 98) hx hb dX10_begin_93 (by decide) ?_
            exact zret_i (v := 0) hx hb hr hlocks hS () (by show _ = _; rw [if_neg c2_, if_neg c6_]) (hW.sub [] (by decide) rfl) (Nat.le_of_ble_eq_true rfl) (Nat.le_of_ble_eq_true rfl) dX10_begin_98
        · have b23_ : 1 ≤ Int32.toInt x16_ ∧ Int32.toInt x16_ ≤ 99 := (by have u0 := bx16_; have u1 := (not_congr (zi_le _ _)).mp c18_; have u2 : (100 : Int32).toInt = 100 := (by decide); omega)
          refine lv_aload_n hx hb dX10_begin_44 rfl (lv_at hl 4 rfl) ?_
          refine lv_iconst (v := 0) hx hb dX10_begin_45 (by decide) ?_
          refine zgo_i (wr := [(a30, .inl (y 0, 7, .inl (fun _ => 0))), (a31, .inl (y 0, 7, .inl (fun _ => 0)))]) (zrunV (As := [.int 0]) (rest := []) ⟨hx, hb, hml, hown, ht⟩ (zc_X10_costOfPath_3 l D y a0 w2 x16_ w3 w4 w5 w6 w7 w8 w9 a10 w11 w12 w13 w14 w15 w16 w17 w18 w19 w20 w21 w22 w23 w24 w25 w26 w27 (.int 0) w28 a29 (.ref a30) (.int 0) (.ref a31) w32 w33 w34 w35 w36 w37 w38 w39 w40 w41 w42 w43 w44 w45 w46 w47 w48 w49 w50 w51 w52 w53 w54 w55 w56 w57 w58 w59 w60 w61 w62 w63 w64 w65 w66 w67 w68 g17_ b23_) (cwV 1 ht (zgV zm_848 zm_849 zm_850 zm_5 zm_851) rfl rfl rfl (by decide +kernel) ⟨(Nat.le_of_ble_eq_true rfl), (Nat.le_of_ble_eq_true rfl)⟩) hK hE hS hA hW [2, 3, 4] (by decide) rfl 0 rfl rfl rfl rfl hl.1 rfl (Nat.le_of_ble_eq_true rfl) dX10_begin_46 (Nat.le_of_ble_eq_true rfl) (Nat.le_of_ble_eq_true rfl)) hS hA hW [2, 3, 4] [0, 1] rfl rfl (by decide) (by decide) (fun r24_ u H locs hw hW hS => ?_)
          replace hW : zPD D A [(a30, .inl (y 0, 7, .inl (fun _ => 0))), (a31, .inl (y 0, 7, .inl (fun _ => 0))), (a0, .inr (9, [.int 0, .int 0, w2, .int x16_, w3, .int 0, .int 0, w4, w5, w6, w7, w8, w9, .ref a10, w11, .int (-1), w12, w13, w14, w15, w16, w17, w18, w19, w20, w21, w22, w23, w24, w25, w26, w27, .int 0, w28, .ref a29, .int 0, .ref a30, .int 0, .ref a31, w32, w33, w34, w35, w36, w37, w38, w39, w40, w41, w42, w43, w44, w45, w46, w47, w48, w49, w50, w51, w52, w53, w54, w55, w56, w57, w58, w59, w60, w61, w62, w63, w64, w65, w66, w67, w68])), (a10, .inl (y 2, 7, .inl (fun _ => 0))), (a29, .inl (y 0, 7, .inl (upd (upd (upd (upd (upd (upd (upd g17_ 0 99999) 1 99999) 2 99999) 3 99999) 4 99999) 5 99999) 6 99999)))] H := hW
          have hw : r24_ = 0 := hw
          subst hw
          refine lv_istore (lv' := [(5, .int 0), (4, .int 0), (3, .int 0), (2, .int 20), (0, .ref a0), (1, .int p1)]) hx hb dX10_begin_49 hl (by decide) rfl (fun ls hl => ?_)
          refine lv_iload hx hb dX10_begin_51 (lv_at hl 0 rfl) ?_
          refine lv_iload hx hb dX10_begin_53 (lv_at hl 1 rfl) ?_
          refine lv_icmp_gt (tgt := 61) hx hb dX10_begin_55 (by decide) (fun c25_ => absurd c25_ (by decide)) (fun c25_ => ?_)
          refine lv_goto (tgt := 70) hx hb dX10_begin_58 (by decide) ?_
          refine lv_aload_n hx hb dX10_begin_70 rfl (lv_at hl 4 rfl) ?_
          refine lv_dup hx hb dX10_begin_71 rfl ?_
          refine zget hx hb ht inlX10 hown hK hW 2 rfl rfl 3 (by decide) zm_143 rfl dX10_begin_72 ?_
          refine lv_iconst (v := 1) hx hb dX10_begin_75 (by decide) ?_
          refine lv_iadd hx hb dX10_begin_76 ?_
          have b26_ : 2 ≤ Int32.toInt (x16_ + 1) ∧ Int32.toInt (x16_ + 1) ≤ 100 := by have u0 := b23_; have u1 := (show (1 : Int32).toInt = 1 from (by decide)); have u2 := zadd x16_ 1 (by omega) (by omega); omega
          refine zput (ws' := [(a30, .inl (y 0, 7, .inl (fun _ => 0))), (a31, .inl (y 0, 7, .inl (fun _ => 0))), (a0, .inr (9, [.int 0, .int 0, w2, .int (x16_ + 1), w3, .int 0, .int 0, w4, w5, w6, w7, w8, w9, .ref a10, w11, .int (-1), w12, w13, w14, w15, w16, w17, w18, w19, w20, w21, w22, w23, w24, w25, w26, w27, .int 0, w28, .ref a29, .int 0, .ref a30, .int 0, .ref a31, w32, w33, w34, w35, w36, w37, w38, w39, w40, w41, w42, w43, w44, w45, w46, w47, w48, w49, w50, w51, w52, w53, w54, w55, w56, w57, w58, w59, w60, w61, w62, w63, w64, w65, w66, w67, w68])), (a10, .inl (y 2, 7, .inl (fun _ => 0))), (a29, .inl (y 0, 7, .inl (upd (upd (upd (upd (upd (upd (upd g17_ 0 99999) 1 99999) 2 99999) 3 99999) 4 99999) 5 99999) 6 99999)))]) hx hb ht inlX10 tyX10 tyX10_ok nmX10 hown hK hS hW 2 rfl rfl 3 (by decide) zm_143 rfl rfl rfl (Nat.le_of_ble_eq_true rfl) rfl dX10_begin_77 (fun H locs hW hS => ?_)
          refine lv_goto (tgt := 35) hx hb dX10_begin_80 (by decide) ?_
          exact ih _ _ _ _ _ ⟨(by have u0 := b26_; omega), by have u0 := zadd_1 x16_ (by have u0 := b23_; omega); omega, hW, hS, (lv_sub hl [1, 2, 0, 3, 4, 5] rfl)⟩
set_option maxHeartbeats 8000000 in
set_option maxRecDepth 100000 in
theorem zc_X9_appendTold_0 (l : Launch) (D : va_G) (y : Nat → ClassId) (a0 : Nat) (a1 : Nat) (p2 : Int32) (p3 : Int32) (w4 : Value) (w5 : Value) (w6 : Value) (a7 : Nat) (w8 : Value) (w9 : Value) (w10 : Value) (w11 : Value) (w12 : Value) (w13 : Value) (w14 : Value) (w15 : Value) (w16 : Value) (w17 : Value) (w18 : Value) (w19 : Value) (w20 : Value) (w21 : Value) (w22 : Value) (w23 : Value) (w24 : Value) (w25 : Value) : zM l D y yX9_appendTold (Cond.code yX9_appendTold cX9_appendTold 4 (some .int) :: zT) { frames := 1, cells := 0, slots := 0, locals := 21 } [.ref a0, .ref a1, .int p2, .int p3] [(a0, .inr (8, [w4, w5, w6, .ref a7, w8, w9, w10, w11, w12])), (a1, .inr (5, [.int 0, w13, w14])), (a7, .inr (6, [w15, .int 0, w16, w17, w18, w19, w20, w21, w22, w23, w24, w25]))] (zQi (S := Unit) D (fun r_ _ => r_ = (if p2 = (-1) then 0 else (-1))) (fun _ => [(a0, .inr (8, [w4, w5, w6, .ref a7, w8, w9, w10, w11, w12])), (a1, .inr (5, [.int 0, w13, w14])), (a7, .inr (6, [w15, .int 0, w16, w17, w18, w19, w20, w21, w22, w23, w24, w25]))])) := by
  refine zent (cc := cX9_appendTold) (maxL := 4) (ret := (some .int)) (by decide) (Nat.le_of_ble_eq_true rfl) ?_
  intro p e s m below meth c A H locs ls hx hb hml hr ht hown hlocks hin hA hK hE hS hW hl
  have hown : s.vm.findClass RX9 = some m.cls := hown
  have hW : zPD D A [(a0, .inr (8, [w4, w5, w6, .ref a7, w8, w9, w10, w11, w12])), (a1, .inr (5, [.int 0, w13, w14])), (a7, .inr (6, [w15, .int 0, w16, w17, w18, w19, w20, w21, w22, w23, w24, w25]))] H := hW
  have hl : lv_has ls 4 [(0, .ref a0), (1, .ref a1), (2, .int p2), (3, .int p3)] := hl
  refine lv_iload_n hx hb dX9_appendTold_0 rfl (lv_at hl 2 rfl) ?_
  refine lv_iconst (v := (-1)) hx hb dX9_appendTold_1 (by decide) ?_
  refine lv_icmp_ne (tgt := 10) hx hb dX9_appendTold_2 (by decide) (fun c1_ => ?_) (fun c1_ => ?_)
  · have b2_ : (-2147483648) ≤ Int32.toInt p2 ∧ Int32.toInt p2 ≤ 2147483647 := (by have u0 := zbnd p2; have u1 := (not_congr (zi_eq _ _)).mp c1_; have u2 : ((-1) : Int32).toInt = -1 := (by decide); omega)
    refine lv_aload_n hx hb dX9_appendTold_10 rfl (lv_at hl 0 rfl) ?_
    refine zget hx hb ht inlX9 hown hK hW 0 rfl rfl 3 (by decide) zm_23 rfl dX9_appendTold_11 ?_
    refine lv_iload_n hx hb dX9_appendTold_14 rfl (lv_at hl 2 rfl) ?_
    refine zgo_i (wr := [(a0, .inr (8, [w4, w5, w6, .ref a7, w8, w9, w10, w11, w12])), (a1, .inr (5, [.int 0, w13, w14]))]) (zrunV (As := [.int p2]) (rest := []) ⟨hx, hb, hml, hown, ht⟩ (zc_X7_has_0 l D y a7 p2 w15 w16 w17 w18 w19 w20 w21 w22 w23 w24 w25) (cwV 1 ht (zgV zm_263 zm_264 zm_265 zm_22 zm_266) rfl rfl rfl (by decide +kernel) ⟨(Nat.le_of_ble_eq_true rfl), (Nat.le_of_ble_eq_true rfl)⟩) hK hE hS hA hW [2] (by decide) rfl 0 rfl rfl rfl rfl hl.1 rfl (Nat.le_of_ble_eq_true rfl) dX9_appendTold_15 (Nat.le_of_ble_eq_true rfl) (Nat.le_of_ble_eq_true rfl)) hS hA hW [2] [0, 1] rfl rfl (by decide) (by decide) (fun r3_ u H locs hw hW hS => ?_)
    have hW : zPD D A [(a0, .inr (8, [w4, w5, w6, .ref a7, w8, w9, w10, w11, w12])), (a1, .inr (5, [.int 0, w13, w14])), (a7, .inr (6, [w15, .int 0, w16, w17, w18, w19, w20, w21, w22, w23, w24, w25]))] H := hW
    have hw : r3_ = 0 := hw
    subst hw
    refine lv_if_ne (tgt := 23) hx hb dX9_appendTold_18 (by decide) (fun c4_ => absurd (by decide) c4_) (fun c4_ => ?_)
    refine lv_iconst (v := (-1)) hx hb dX9_appendTold_21 (by decide) ?_
    exact zret_i (v := (-1)) hx hb hr hlocks hS () (by show _ = _; rw [if_neg c1_]) hW (Nat.le_of_ble_eq_true rfl) (Nat.le_of_ble_eq_true rfl) dX9_appendTold_22
  · have b5_ : (-1) ≤ Int32.toInt p2 ∧ Int32.toInt p2 ≤ (-1) := (by have u0 := zbnd p2; have u1 := (zi_eq _ _).mp c1_; have u2 : ((-1) : Int32).toInt = -1 := (by decide); omega)
    refine lv_aload_n hx hb dX9_appendTold_5 rfl (lv_at hl 1 rfl) ?_
    refine zgo_i (wr := [(a0, .inr (8, [w4, w5, w6, .ref a7, w8, w9, w10, w11, w12])), (a7, .inr (6, [w15, .int 0, w16, w17, w18, w19, w20, w21, w22, w23, w24, w25]))]) (zrunV (As := []) (rest := []) ⟨hx, hb, hml, hown, ht⟩ (zc_X6_clear_0 l D y a1 w13 w14) (cwV 0 ht (zgV zm_784 zm_785 zm_786 zm_78 zm_787) rfl rfl rfl (by decide +kernel) ⟨(Nat.le_of_ble_eq_true rfl), (Nat.le_of_ble_eq_true rfl)⟩) hK hE hS hA hW [1] (by decide) rfl 0 rfl rfl rfl rfl hl.1 rfl (Nat.le_of_ble_eq_true rfl) dX9_appendTold_6 (Nat.le_of_ble_eq_true rfl) (Nat.le_of_ble_eq_true rfl)) hS hA hW [1] [0, 2] rfl rfl (by decide) (by decide) (fun r6_ u H locs hw hW hS => ?_)
    have hW : zPD D A [(a0, .inr (8, [w4, w5, w6, .ref a7, w8, w9, w10, w11, w12])), (a7, .inr (6, [w15, .int 0, w16, w17, w18, w19, w20, w21, w22, w23, w24, w25])), (a1, .inr (5, [.int 0, w13, w14]))] H := hW
    have hw : r6_ = 0 := hw
    subst hw
    exact zret_i (v := 0) hx hb hr hlocks hS () (by show _ = _; rw [if_pos c1_]) (hW.sub [0, 2, 1] (by decide) rfl) (Nat.le_of_ble_eq_true rfl) (Nat.le_of_ble_eq_true rfl) dX9_appendTold_9
set_option maxHeartbeats 8000000 in
set_option maxRecDepth 100000 in
theorem zc_X9_see_0 (l : Launch) (D : va_G) (y : Nat → ClassId) (a0 : Nat) (p1 : Int32) (p2 : Int32) (w3 : Value) (w4 : Value) (w5 : Value) (a6 : Nat) (w7 : Value) (w8 : Value) (w9 : Value) (w10 : Value) (w11 : Value) (w12 : Value) (w13 : Value) (w14 : Value) (w15 : Value) (w16 : Value) (w17 : Value) (w18 : Value) (w19 : Value) (w20 : Value) (a21 : Nat) (w22 : Value) (w23 : Value) (w24 : Value) : zM l D y yX9_see (Cond.code yX9_see cX9_see 3 (some .int) :: zT) { frames := 2, cells := 0, slots := 0, locals := 44 } [.ref a0, .int p1, .int p2] [(a0, .inr (8, [w3, w4, w5, .ref a6, w7, w8, w9, w10, w11])), (a6, .inr (6, [w12, .int 0, w13, w14, w15, w16, w17, w18, w19, w20, .ref a21, w22])), (a21, .inr (5, [.int 0, w23, w24]))] (zQi (S := Unit) D (fun r_ _ => r_ = (if p1 = (-1) then 0 else (-1))) (fun _ => [])) := by
  refine zent (cc := cX9_see) (maxL := 3) (ret := (some .int)) (by decide) (Nat.le_of_ble_eq_true rfl) ?_
  intro p e s m below meth c A H locs ls hx hb hml hr ht hown hlocks hin hA hK hE hS hW hl
  have hown : s.vm.findClass RX9 = some m.cls := hown
  have hW : zPD D A [(a0, .inr (8, [w3, w4, w5, .ref a6, w7, w8, w9, w10, w11])), (a6, .inr (6, [w12, .int 0, w13, w14, w15, w16, w17, w18, w19, w20, .ref a21, w22])), (a21, .inr (5, [.int 0, w23, w24]))] H := hW
  have hl : lv_has ls 3 [(0, .ref a0), (1, .int p1), (2, .int p2)] := hl
  refine lv_aload_n hx hb dX9_see_0 rfl (lv_at hl 0 rfl) ?_
  refine lv_aload_n hx hb dX9_see_1 rfl (lv_at hl 0 rfl) ?_
  refine zget hx hb ht inlX9 hown hK hW 0 rfl rfl 3 (by decide) zm_23 rfl dX9_see_2 ?_
  refine zget hx hb ht inlX7 hown hK hW 1 rfl rfl 10 (by decide) zm_1001 rfl dX9_see_5 ?_
  refine lv_iload_n hx hb dX9_see_8 rfl (lv_at hl 1 rfl) ?_
  refine lv_iload_n hx hb dX9_see_9 rfl (lv_at hl 2 rfl) ?_
  refine zgo_i (wr := []) (zrunV (As := [.ref a21, .int p1, .int p2]) (rest := []) ⟨hx, hb, hml, hown, ht⟩ (zc_X9_appendTold_0 l D y a0 a21 p1 p2 w3 w4 w5 a6 w7 w8 w9 w10 w11 w23 w24 w12 w13 w14 w15 w16 w17 w18 w19 w20 (.ref a21) w22) (cwV 3 ht (zgV zm_1002 zm_1003 zm_1004 zm_2 zm_1005) rfl rfl rfl (by decide +kernel) ⟨(Nat.le_of_ble_eq_true rfl), (Nat.le_of_ble_eq_true rfl)⟩) hK hE hS hA hW [0, 2, 1] (by decide) rfl 0 rfl rfl rfl rfl hl.1 rfl (Nat.le_of_ble_eq_true rfl) dX9_see_10 (Nat.le_of_ble_eq_true rfl) (Nat.le_of_ble_eq_true rfl)) hS hA hW [0, 2, 1] [] rfl rfl (by decide) (by decide) (fun r1_ u H locs hw hW hS => ?_)
  have hW : zPD D A [(a0, .inr (8, [w3, w4, w5, .ref a6, w7, w8, w9, w10, w11])), (a21, .inr (5, [.int 0, w23, w24])), (a6, .inr (6, [w12, .int 0, w13, w14, w15, w16, w17, w18, w19, w20, .ref a21, w22]))] H := hW
  have hw : r1_ = (if p1 = (-1) then 0 else (-1)) := hw
  by_cases c2_ : p1 = (-1)
  · have b3_ : (-1) ≤ Int32.toInt p1 ∧ Int32.toInt p1 ≤ (-1) := (by have u0 := zbnd p1; have u1 := (zi_eq _ _).mp c2_; have u2 : ((-1) : Int32).toInt = -1 := (by decide); omega)
    rw [if_pos c2_] at hw
    subst hw
    exact zret_i (v := 0) hx hb hr hlocks hS () (by show _ = _; rw [if_pos c2_]) (hW.sub [] (by decide) rfl) (Nat.le_of_ble_eq_true rfl) (Nat.le_of_ble_eq_true rfl) dX9_see_13
  · have b4_ : (-2147483648) ≤ Int32.toInt p1 ∧ Int32.toInt p1 ≤ 2147483647 := (by have u0 := zbnd p1; have u1 := (not_congr (zi_eq _ _)).mp c2_; have u2 : ((-1) : Int32).toInt = -1 := (by decide); omega)
    rw [if_neg c2_] at hw
    subst hw
    exact zret_i (v := (-1)) hx hb hr hlocks hS () (by show _ = _; rw [if_neg c2_]) (hW.sub [] (by decide) rfl) (Nat.le_of_ble_eq_true rfl) (Nat.le_of_ble_eq_true rfl) dX9_see_13
set_option maxHeartbeats 8000000 in
set_option maxRecDepth 100000 in
theorem zc_X10_see_0 (l : Launch) (D : va_G) (y : Nat → ClassId) (a0 : Nat) (p1 : Int32) (p2 : Int32) (w3 : Value) (w4 : Value) (w5 : Value) (w6 : Value) (w7 : Value) (w8 : Value) (w9 : Value) (w10 : Value) (w11 : Value) (w12 : Value) (w13 : Value) (w14 : Value) (w15 : Value) (w16 : Value) (w17 : Value) (w18 : Value) (w19 : Value) (w20 : Value) (w21 : Value) (w22 : Value) (w23 : Value) (w24 : Value) (w25 : Value) (w26 : Value) (w27 : Value) (w28 : Value) (w29 : Value) (w30 : Value) (w31 : Value) (w32 : Value) (w33 : Value) (w34 : Value) (w35 : Value) (w36 : Value) (w37 : Value) (w38 : Value) (w39 : Value) (w40 : Value) (w41 : Value) (w42 : Value) (w43 : Value) (w44 : Value) (w45 : Value) (w46 : Value) (w47 : Value) (w48 : Value) (w49 : Value) (w50 : Value) (w51 : Value) (w52 : Value) (w53 : Value) (w54 : Value) (w55 : Value) (w56 : Value) (w57 : Value) (w58 : Value) (w59 : Value) (w60 : Value) (w61 : Value) (w62 : Value) (w63 : Value) (w64 : Value) (w65 : Value) (w66 : Value) (w67 : Value) (w68 : Value) (w69 : Value) (w70 : Value) (w71 : Value) (w72 : Value) (w73 : Value) (w74 : Value) (w75 : Value) (w76 : Value) : zM l D y yX10_see (Cond.code yX10_see cX10_see 3 (some .int) :: zT) { frames := 2, cells := 0, slots := 0, locals := 44 } [.ref a0, .int p1, .int p2] [(a0, .inr (9, [.int 0, w3, w4, w5, w6, w7, w8, w9, w10, w11, w12, w13, w14, w15, w16, w17, w18, w19, w20, w21, w22, w23, w24, w25, w26, w27, w28, w29, w30, w31, w32, w33, w34, w35, w36, w37, w38, w39, w40, w41, .int 0, w42, w43, w44, w45, w46, w47, w48, w49, w50, w51, w52, w53, w54, w55, w56, w57, w58, w59, w60, w61, w62, w63, w64, w65, w66, w67, w68, w69, w70, w71, w72, w73, w74, w75, w76]))] (zQi (S := Unit) D (fun r_ _ => r_ = (if p1 = (-1) then 0 else (-1))) (fun _ => [])) := by
  refine zent (cc := cX10_see) (maxL := 3) (ret := (some .int)) (by decide) (Nat.le_of_ble_eq_true rfl) ?_
  intro p e s m below meth c A H locs ls hx hb hml hr ht hown hlocks hin hA hK hE hS hW hl
  have hown : s.vm.findClass RX10 = some m.cls := hown
  have hW : zPD D A [(a0, .inr (9, [.int 0, w3, w4, w5, w6, w7, w8, w9, w10, w11, w12, w13, w14, w15, w16, w17, w18, w19, w20, w21, w22, w23, w24, w25, w26, w27, w28, w29, w30, w31, w32, w33, w34, w35, w36, w37, w38, w39, w40, w41, .int 0, w42, w43, w44, w45, w46, w47, w48, w49, w50, w51, w52, w53, w54, w55, w56, w57, w58, w59, w60, w61, w62, w63, w64, w65, w66, w67, w68, w69, w70, w71, w72, w73, w74, w75, w76]))] H := hW
  have hl : lv_has ls 3 [(0, .ref a0), (1, .int p1), (2, .int p2)] := hl
  refine lv_iload_n hx hb dX10_see_0 rfl (lv_at hl 1 rfl) ?_
  refine lv_iconst (v := (-1)) hx hb dX10_see_1 (by decide) ?_
  refine lv_icmp_ne (tgt := 12) hx hb dX10_see_2 (by decide) (fun c1_ => ?_) (fun c1_ => ?_)
  · have b2_ : (-2147483648) ≤ Int32.toInt p1 ∧ Int32.toInt p1 ≤ 2147483647 := (by have u0 := zbnd p1; have u1 := (not_congr (zi_eq _ _)).mp c1_; have u2 : ((-1) : Int32).toInt = -1 := (by decide); omega)
    refine lv_aload_n hx hb dX10_see_12 rfl (lv_at hl 0 rfl) ?_
    refine lv_iload_n hx hb dX10_see_13 rfl (lv_at hl 1 rfl) ?_
    refine zgo_i (wr := []) (zrunV (As := [.int p1]) (rest := []) ⟨hx, hb, hml, hown, ht⟩ (zc_X10_isWindow_0 l D y a0 p1 w3 w4 w5 w6 w7 w8 w9 w10 w11 w12 w13 w14 w15 w16 w17 w18 w19 w20 w21 w22 w23 w24 w25 w26 w27 w28 w29 w30 w31 w32 w33 w34 w35 w36 w37 w38 w39 w40 w41 (.int 0) w42 w43 w44 w45 w46 w47 w48 w49 w50 w51 w52 w53 w54 w55 w56 w57 w58 w59 w60 w61 w62 w63 w64 w65 w66 w67 w68 w69 w70 w71 w72 w73 w74 w75 w76) (cwV 1 ht (zgV zm_353 zm_354 zm_355 zm_5 zm_356) rfl rfl rfl (by decide +kernel) ⟨(Nat.le_of_ble_eq_true rfl), (Nat.le_of_ble_eq_true rfl)⟩) hK hE hS hA hW [0] (by decide) rfl 0 rfl rfl rfl rfl hl.1 rfl (Nat.le_of_ble_eq_true rfl) dX10_see_14 (Nat.le_of_ble_eq_true rfl) (Nat.le_of_ble_eq_true rfl)) hS hA hW [0] [] rfl rfl (by decide) (by decide) (fun r3_ u H locs hw hW hS => ?_)
    have hW : zPD D A [(a0, .inr (9, [.int 0, w3, w4, w5, w6, w7, w8, w9, w10, w11, w12, w13, w14, w15, w16, w17, w18, w19, w20, w21, w22, w23, w24, w25, w26, w27, w28, w29, w30, w31, w32, w33, w34, w35, w36, w37, w38, w39, w40, w41, .int 0, w42, w43, w44, w45, w46, w47, w48, w49, w50, w51, w52, w53, w54, w55, w56, w57, w58, w59, w60, w61, w62, w63, w64, w65, w66, w67, w68, w69, w70, w71, w72, w73, w74, w75, w76]))] H := hW
    have hw : r3_ = 0 := hw
    subst hw
    refine lv_if_ne (tgt := 22) hx hb dX10_see_17 (by decide) (fun c4_ => absurd (by decide) c4_) (fun c4_ => ?_)
    refine lv_iconst (v := (-1)) hx hb dX10_see_20 (by decide) ?_
    exact zret_i (v := (-1)) hx hb hr hlocks hS () (by show _ = _; rw [if_neg c1_]) (hW.sub [] (by decide) rfl) (Nat.le_of_ble_eq_true rfl) (Nat.le_of_ble_eq_true rfl) dX10_see_21
  · have b5_ : (-1) ≤ Int32.toInt p1 ∧ Int32.toInt p1 ≤ (-1) := (by have u0 := zbnd p1; have u1 := (zi_eq _ _).mp c1_; have u2 : ((-1) : Int32).toInt = -1 := (by decide); omega)
    refine lv_aload_n hx hb dX10_see_5 rfl (lv_at hl 0 rfl) ?_
    refine lv_iconst (v := 0) hx hb dX10_see_6 (by decide) ?_
    refine zput (ws' := [(a0, .inr (9, [.int 0, w3, w4, w5, w6, w7, w8, w9, w10, w11, w12, w13, w14, w15, w16, w17, w18, w19, w20, w21, w22, w23, w24, w25, w26, w27, w28, w29, w30, w31, w32, w33, w34, w35, w36, w37, w38, w39, w40, w41, .int 0, w42, w43, w44, w45, w46, w47, w48, w49, w50, w51, w52, w53, w54, w55, w56, w57, w58, w59, w60, w61, w62, w63, w64, w65, w66, w67, w68, w69, w70, w71, w72, w73, w74, w75, w76]))]) hx hb ht inlX10 tyX10 tyX10_ok nmX10 hown hK hS hW 0 rfl rfl 40 (by decide) zm_180 rfl rfl rfl (Nat.le_of_ble_eq_true rfl) rfl dX10_see_7 (fun H locs hW hS => ?_)
    refine lv_iconst (v := 0) hx hb dX10_see_10 (by decide) ?_
    exact zret_i (v := 0) hx hb hr hlocks hS () (by show _ = _; rw [if_pos c1_]) (hW.sub [] (by decide) rfl) (Nat.le_of_ble_eq_true rfl) (Nat.le_of_ble_eq_true rfl) dX10_see_11
set_option maxHeartbeats 8000000 in
set_option maxRecDepth 100000 in
theorem zc_X1_isAsSeen_0 (l : Launch) (D : va_G) (y : Nat → ClassId) (a0 : Nat) (a1 : Nat) (w2 : Value) (w3 : Value) (w4 : Value) (w5 : Value) (w6 : Value) (w7 : Value) (w8 : Value) (w9 : Value) (w10 : Value) (w11 : Value) (w12 : Value) (w13 : Value) (w14 : Value) (w15 : Value) (w16 : Value) (w17 : Value) (w18 : Value) (w19 : Value) (a20 : Nat) (w21 : Value) (w22 : Value) (w23 : Value) : zM l D y yX1_isAsSeen (Cond.code yX1_isAsSeen cX1_isAsSeen 3 (some .boolean) :: zT) { frames := 0, cells := 0, slots := 0, locals := 0 } [.ref a0] [(a0, .inr (1, [.ref a1, w2, w3, w4, w5, w6, w7, w8, w9])), (a1, .inr (6, [w10, w11, w12, w13, w14, w15, w16, w17, w18, w19, .ref a20, w21])), (a20, .inr (5, [.int 0, w22, w23]))] (zQi (S := Unit) D (fun r_ _ => r_ = 1) (fun _ => [(a0, .inr (1, [.ref a1, w2, w3, w4, w5, w6, w7, w8, w9])), (a1, .inr (6, [w10, w11, w12, w13, w14, w15, w16, w17, w18, w19, .ref a20, w21])), (a20, .inr (5, [.int 0, w22, w23]))])) := by
  refine zent (cc := cX1_isAsSeen) (maxL := 3) (ret := (some .boolean)) (by decide) (Nat.le_of_ble_eq_true rfl) ?_
  intro p e s m below meth c A H locs ls hx hb hml hr ht hown hlocks hin hA hK hE hS hW hl
  have hown : s.vm.findClass RX1 = some m.cls := hown
  have hW : zPD D A [(a0, .inr (1, [.ref a1, w2, w3, w4, w5, w6, w7, w8, w9])), (a1, .inr (6, [w10, w11, w12, w13, w14, w15, w16, w17, w18, w19, .ref a20, w21])), (a20, .inr (5, [.int 0, w22, w23]))] H := hW
  have hl : lv_has ls 3 [(0, .ref a0)] := hl
  refine lv_iconst (v := 0) hx hb dX1_isAsSeen_0 (by decide) ?_
  refine lv_istore_n (lv' := [(1, .int 0), (0, .ref a0)]) hx hb dX1_isAsSeen_1 rfl hl (by decide) rfl (fun ls hl => ?_)
  refine lv_iload_n hx hb dX1_isAsSeen_2 rfl (lv_at hl 0 rfl) ?_
  refine lv_aload_n hx hb dX1_isAsSeen_3 rfl (lv_at hl 1 rfl) ?_
  refine zget hx hb ht inlX1 hown hK hW 0 rfl rfl 0 (by decide) zm_119 rfl dX1_isAsSeen_4 ?_
  refine zget hx hb ht inlX7 hown hK hW 1 rfl rfl 10 (by decide) zm_1018 rfl dX1_isAsSeen_7 ?_
  refine zget hx hb ht inlX6 hown hK hW 2 rfl rfl 0 (by decide) zm_814 rfl dX1_isAsSeen_10 ?_
  refine lv_icmp_ge (tgt := 68) hx hb dX1_isAsSeen_13 (by decide) (fun c1_ => ?_) (fun c1_ => absurd (by decide) c1_)
  refine lv_iconst (v := 1) hx hb dX1_isAsSeen_68 (by decide) ?_
  exact zret_z (v := 1) hx hb hr hlocks hS () rfl rfl hW (Nat.le_of_ble_eq_true rfl) (Nat.le_of_ble_eq_true rfl) dX1_isAsSeen_69
set_option maxHeartbeats 8000000 in
set_option maxRecDepth 100000 in
theorem zc_X9_from_0 (l : Launch) (D : va_G) (y : Nat → ClassId) (a0 : Nat) (w1 : Value) (w2 : Value) (w3 : Value) (w4 : Value) (w5 : Value) (w6 : Value) (a7 : Nat) (w8 : Value) (w9 : Value) (a10 : Nat) (w11 : Value) (w12 : Value) (w13 : Value) (w14 : Value) (w15 : Value) (a16 : Nat) (w17 : Value) (w18 : Value) (w19 : Value) (w20 : Value) (w21 : Value) (w22 : Value) (w23 : Value) (a24 : Nat) (w25 : Value) (w26 : Value) (w27 : Value) : zM l D y yX9_from (Cond.code yX9_from cX9_from 3 (some .int) :: zT) { frames := 2, cells := 0, slots := 0, locals := 42 } [.ref a0] [(a0, .inr (8, [w1, w2, w3, w4, w5, w6, .ref a7, w8, w9])), (a7, .inr (1, [.ref a10, .int 0, .int 0, w11, w12, w13, w14, w15, .ref a16])), (a10, .inr (6, [w17, .int 0, .int 20, .int 0, w18, w19, w20, w21, w22, w23, .ref a24, w25])), (a16, .inl (y 2, 4, .inl (fun _ => 0))), (a24, .inr (5, [.int 0, w26, w27]))] (zQi (S := Unit) D (fun r_ _ => r_ = 15) (fun _ => [])) := by
  refine zent (cc := cX9_from) (maxL := 3) (ret := (some .int)) (by decide) (Nat.le_of_ble_eq_true rfl) ?_
  intro p e s m below meth c A H locs ls hx hb hml hr ht hown hlocks hin hA hK hE hS hW hl
  have hown : s.vm.findClass RX9 = some m.cls := hown
  have hW : zPD D A [(a0, .inr (8, [w1, w2, w3, w4, w5, w6, .ref a7, w8, w9])), (a7, .inr (1, [.ref a10, .int 0, .int 0, w11, w12, w13, w14, w15, .ref a16])), (a10, .inr (6, [w17, .int 0, .int 20, .int 0, w18, w19, w20, w21, w22, w23, .ref a24, w25])), (a16, .inl (y 2, 4, .inl (fun _ => 0))), (a24, .inr (5, [.int 0, w26, w27]))] H := hW
  have hl : lv_has ls 3 [(0, .ref a0)] := hl
  refine lv_aload_n hx hb dX9_from_0 rfl (lv_at hl 0 rfl) ?_
  refine zget hx hb ht inlX9 hown hK hW 0 rfl rfl 6 (by decide) zm_29 rfl dX9_from_1 ?_
  refine zgo_v (wr := [(a0, .inr (8, [w1, w2, w3, w4, w5, w6, .ref a7, w8, w9])), (a24, .inr (5, [.int 0, w26, w27]))]) (zrunV (As := []) (rest := []) ⟨hx, hb, hml, hown, ht⟩ (zc_X1_beginFromNow_0 l D y a7 a10 w11 w12 w13 w14 w15 a16 w17 w18 w19 w20 w21 w22 w23 (.ref a24) w25) (cwV 0 ht (zgV zm_274 zm_275 zm_276 zm_28 zm_277) rfl rfl rfl (by decide +kernel) ⟨(Nat.le_of_ble_eq_true rfl), (Nat.le_of_ble_eq_true rfl)⟩) hK hE hS hA hW [1, 2, 3] (by decide) rfl 0 rfl rfl rfl rfl hl.1 rfl (Nat.le_of_ble_eq_true rfl) dX9_from_4 (Nat.le_of_ble_eq_true rfl) (Nat.le_of_ble_eq_true rfl)) hS hA hW [1, 2, 3] [0, 4] rfl rfl (by decide) (by decide) (fun u H locs hw hW hS => ?_)
  have hW : zPD D A [(a0, .inr (8, [w1, w2, w3, w4, w5, w6, .ref a7, w8, w9])), (a24, .inr (5, [.int 0, w26, w27])), (a7, .inr (1, [.ref a10, .int 0, .int 20, w11, w12, w13, w14, w15, .ref a16])), (a10, .inr (6, [w17, .int 0, .int 20, .int 0, w18, w19, w20, w21, w22, w23, .ref a24, w25])), (a16, .inl (y 2, 4, .inl (upd (fun _ => 0) 0 1)))] H := hW
  refine lv_iconst (v := 0) hx hb dX9_from_7 (by decide) ?_
  refine lv_istore_n (lv' := [(1, .int 0), (0, .ref a0)]) hx hb dX9_from_8 rfl hl (by decide) rfl (fun ls hl => ?_)
  refine lv_iconst (v := 0) hx hb dX9_from_9 (by decide) ?_
  refine lv_istore_n (lv' := [(2, .int 0), (1, .int 0), (0, .ref a0)]) hx hb dX9_from_10 rfl hl (by decide) rfl (fun ls hl => ?_)
  refine lv_iload_n hx hb dX9_from_11 rfl (lv_at hl 0 rfl) ?_
  refine lv_iconst (v := 4) hx hb dX9_from_12 (by decide) ?_
  refine lv_icmp_ge (tgt := 46) hx hb dX9_from_13 (by decide) (fun c2_ => absurd c2_ (by decide)) (fun c2_ => ?_)
  refine lv_aload_n hx hb dX9_from_16 rfl (lv_at hl 2 rfl) ?_
  refine zget hx hb ht inlX9 hown hK hW 0 rfl rfl 6 (by decide) zm_29 rfl dX9_from_17 ?_
  refine lv_iload_n hx hb dX9_from_20 rfl (lv_at hl 0 rfl) ?_
  refine zgo_v (wr := [(a0, .inr (8, [w1, w2, w3, w4, w5, w6, .ref a7, w8, w9])), (a24, .inr (5, [.int 0, w26, w27])), (a10, .inr (6, [w17, .int 0, .int 20, .int 0, w18, w19, w20, w21, w22, w23, .ref a24, w25]))]) (zrunV (As := [.int 0]) (rest := []) ⟨hx, hb, hml, hown, ht⟩ (zc_X1_turnTo_1 l D y a7 (.ref a10) (.int 20) w11 w12 w13 w14 w15 a16) (cwV 1 ht (zgV zm_983 zm_281 zm_282 zm_28 zm_283) rfl rfl rfl (by decide +kernel) ⟨(Nat.le_of_ble_eq_true rfl), (Nat.le_of_ble_eq_true rfl)⟩) hK hE hS hA hW [2, 4] (by decide) rfl 0 rfl rfl rfl rfl hl.1 rfl (Nat.le_of_ble_eq_true rfl) dX9_from_21 (Nat.le_of_ble_eq_true rfl) (Nat.le_of_ble_eq_true rfl)) hS hA hW [2, 4] [0, 1, 3] rfl rfl (by decide) (by decide) (fun u H locs hw hW hS => ?_)
  have hW : zPD D A [(a0, .inr (8, [w1, w2, w3, w4, w5, w6, .ref a7, w8, w9])), (a24, .inr (5, [.int 0, w26, w27])), (a10, .inr (6, [w17, .int 0, .int 20, .int 0, w18, w19, w20, w21, w22, w23, .ref a24, w25])), (a7, .inr (1, [.ref a10, .int 0, .int 20, w11, w12, w13, w14, w15, .ref a16])), (a16, .inl (y 2, 4, .inl (upd (fun _ => 0) 0 1)))] H := hW
  refine lv_aload_n hx hb dX9_from_24 rfl (lv_at hl 2 rfl) ?_
  refine zget hx hb ht inlX9 hown hK hW 0 rfl rfl 6 (by decide) zm_29 rfl dX9_from_25 ?_
  refine zgo_i (wr := [(a0, .inr (8, [w1, w2, w3, w4, w5, w6, .ref a7, w8, w9])), (a16, .inl (y 2, 4, .inl (upd (fun _ => 0) 0 1)))]) (zrunV (As := []) (rest := []) ⟨hx, hb, hml, hown, ht⟩ (zc_X1_isAsSeen_0 l D y a7 a10 (.int 0) (.int 20) w11 w12 w13 w14 w15 (.ref a16) w17 (.int 0) (.int 20) (.int 0) w18 w19 w20 w21 w22 w23 a24 w25 w26 w27) (cwV 0 ht (zgV zm_1014 zm_1015 zm_1016 zm_28 zm_1017) rfl rfl rfl (by decide +kernel) ⟨(Nat.le_of_ble_eq_true rfl), (Nat.le_of_ble_eq_true rfl)⟩) hK hE hS hA hW [3, 2, 1] (by decide) rfl 0 rfl rfl rfl rfl hl.1 rfl (Nat.le_of_ble_eq_true rfl) dX9_from_28 (Nat.le_of_ble_eq_true rfl) (Nat.le_of_ble_eq_true rfl)) hS hA hW [3, 2, 1] [0, 4] rfl rfl (by decide) (by decide) (fun r4_ u H locs hw hW hS => ?_)
  have hW : zPD D A [(a0, .inr (8, [w1, w2, w3, w4, w5, w6, .ref a7, w8, w9])), (a16, .inl (y 2, 4, .inl (upd (fun _ => 0) 0 1))), (a7, .inr (1, [.ref a10, .int 0, .int 20, w11, w12, w13, w14, w15, .ref a16])), (a10, .inr (6, [w17, .int 0, .int 20, .int 0, w18, w19, w20, w21, w22, w23, .ref a24, w25])), (a24, .inr (5, [.int 0, w26, w27]))] H := hW
  have hw : r4_ = 1 := hw
  subst hw
  refine lv_if_eq (tgt := 40) hx hb dX9_from_31 (by decide) (fun c5_ => absurd c5_ (by decide)) (fun c5_ => ?_)
  refine lv_iload_n hx hb dX9_from_34 rfl (lv_at hl 1 rfl) ?_
  refine lv_iconst (v := 1) hx hb dX9_from_35 (by decide) ?_
  refine lv_iload_n hx hb dX9_from_36 rfl (lv_at hl 0 rfl) ?_
  refine lv_ishl hx hb dX9_from_37 ?_
  refine ztop (w := .int 1) (congrArg Value.int (by decide)) ?_
  refine lv_ior hx hb dX9_from_38 ?_
  refine ztop (w := .int 1) (congrArg Value.int (by decide)) ?_
  refine lv_istore_n (lv' := [(1, .int 1), (2, .int 0), (0, .ref a0)]) hx hb dX9_from_39 rfl hl (by decide) rfl (fun ls hl => ?_)
  refine lv_iinc (k := 1) (v := 1) (lv' := [(2, .int 1), (1, .int 1), (0, .ref a0)]) hx hb dX9_from_40 hl rfl (by decide) (by decide) rfl (fun ls hl => ?_)
  refine lv_goto (tgt := 11) hx hb dX9_from_43 (by decide) ?_
  refine lv_iload_n hx hb dX9_from_11 rfl (lv_at hl 0 rfl) ?_
  refine lv_iconst (v := 4) hx hb dX9_from_12 (by decide) ?_
  refine lv_icmp_ge (tgt := 46) hx hb dX9_from_13 (by decide) (fun c6_ => absurd c6_ (by decide)) (fun c6_ => ?_)
  refine lv_aload_n hx hb dX9_from_16 rfl (lv_at hl 2 rfl) ?_
  refine zget hx hb ht inlX9 hown hK hW 0 rfl rfl 6 (by decide) zm_29 rfl dX9_from_17 ?_
  refine lv_iload_n hx hb dX9_from_20 rfl (lv_at hl 0 rfl) ?_
  refine zgo_v (wr := [(a0, .inr (8, [w1, w2, w3, w4, w5, w6, .ref a7, w8, w9])), (a24, .inr (5, [.int 0, w26, w27]))]) (zrunV (As := [.int 1]) (rest := []) ⟨hx, hb, hml, hown, ht⟩ (zc_X1_turnTo_2 l D y a7 a10 (.int 20) w11 w12 w13 w14 w15 a16 w17 (.int 20) (.int 0) w18 w19 w20 w21 w22 w23 (.ref a24) w25) (cwV 1 ht (zgV zm_983 zm_281 zm_282 zm_28 zm_283) rfl rfl rfl (by decide +kernel) ⟨(Nat.le_of_ble_eq_true rfl), (Nat.le_of_ble_eq_true rfl)⟩) hK hE hS hA hW [2, 3, 1] (by decide) rfl 0 rfl rfl rfl rfl hl.1 rfl (Nat.le_of_ble_eq_true rfl) dX9_from_21 (Nat.le_of_ble_eq_true rfl) (Nat.le_of_ble_eq_true rfl)) hS hA hW [2, 3, 1] [0, 4] rfl rfl (by decide) (by decide) (fun u H locs hw hW hS => ?_)
  have hW : zPD D A [(a0, .inr (8, [w1, w2, w3, w4, w5, w6, .ref a7, w8, w9])), (a24, .inr (5, [.int 0, w26, w27])), (a7, .inr (1, [.ref a10, .int 1, .int 20, w11, w12, w13, w14, w15, .ref a16])), (a10, .inr (6, [w17, .int 0, .int 20, .int 0, w18, w19, w20, w21, w22, w23, .ref a24, w25])), (a16, .inl (y 2, 4, .inl (upd (upd (fun _ => 0) 0 1) 1 1)))] H := hW
  refine lv_aload_n hx hb dX9_from_24 rfl (lv_at hl 2 rfl) ?_
  refine zget hx hb ht inlX9 hown hK hW 0 rfl rfl 6 (by decide) zm_29 rfl dX9_from_25 ?_
  refine zgo_i (wr := [(a0, .inr (8, [w1, w2, w3, w4, w5, w6, .ref a7, w8, w9])), (a16, .inl (y 2, 4, .inl (upd (upd (fun _ => 0) 0 1) 1 1)))]) (zrunV (As := []) (rest := []) ⟨hx, hb, hml, hown, ht⟩ (zc_X1_isAsSeen_0 l D y a7 a10 (.int 1) (.int 20) w11 w12 w13 w14 w15 (.ref a16) w17 (.int 0) (.int 20) (.int 0) w18 w19 w20 w21 w22 w23 a24 w25 w26 w27) (cwV 0 ht (zgV zm_1014 zm_1015 zm_1016 zm_28 zm_1017) rfl rfl rfl (by decide +kernel) ⟨(Nat.le_of_ble_eq_true rfl), (Nat.le_of_ble_eq_true rfl)⟩) hK hE hS hA hW [2, 3, 1] (by decide) rfl 0 rfl rfl rfl rfl hl.1 rfl (Nat.le_of_ble_eq_true rfl) dX9_from_28 (Nat.le_of_ble_eq_true rfl) (Nat.le_of_ble_eq_true rfl)) hS hA hW [2, 3, 1] [0, 4] rfl rfl (by decide) (by decide) (fun r8_ u H locs hw hW hS => ?_)
  have hW : zPD D A [(a0, .inr (8, [w1, w2, w3, w4, w5, w6, .ref a7, w8, w9])), (a16, .inl (y 2, 4, .inl (upd (upd (fun _ => 0) 0 1) 1 1))), (a7, .inr (1, [.ref a10, .int 1, .int 20, w11, w12, w13, w14, w15, .ref a16])), (a10, .inr (6, [w17, .int 0, .int 20, .int 0, w18, w19, w20, w21, w22, w23, .ref a24, w25])), (a24, .inr (5, [.int 0, w26, w27]))] H := hW
  have hw : r8_ = 1 := hw
  subst hw
  refine lv_if_eq (tgt := 40) hx hb dX9_from_31 (by decide) (fun c9_ => absurd c9_ (by decide)) (fun c9_ => ?_)
  refine lv_iload_n hx hb dX9_from_34 rfl (lv_at hl 1 rfl) ?_
  refine lv_iconst (v := 1) hx hb dX9_from_35 (by decide) ?_
  refine lv_iload_n hx hb dX9_from_36 rfl (lv_at hl 0 rfl) ?_
  refine lv_ishl hx hb dX9_from_37 ?_
  refine ztop (w := .int 2) (congrArg Value.int (by decide)) ?_
  refine lv_ior hx hb dX9_from_38 ?_
  refine ztop (w := .int 3) (congrArg Value.int (by decide)) ?_
  refine lv_istore_n (lv' := [(1, .int 3), (2, .int 1), (0, .ref a0)]) hx hb dX9_from_39 rfl hl (by decide) rfl (fun ls hl => ?_)
  refine lv_iinc (k := 1) (v := 2) (lv' := [(2, .int 2), (1, .int 3), (0, .ref a0)]) hx hb dX9_from_40 hl rfl (by decide) (by decide) rfl (fun ls hl => ?_)
  refine lv_goto (tgt := 11) hx hb dX9_from_43 (by decide) ?_
  refine lv_iload_n hx hb dX9_from_11 rfl (lv_at hl 0 rfl) ?_
  refine lv_iconst (v := 4) hx hb dX9_from_12 (by decide) ?_
  refine lv_icmp_ge (tgt := 46) hx hb dX9_from_13 (by decide) (fun c10_ => absurd c10_ (by decide)) (fun c10_ => ?_)
  refine lv_aload_n hx hb dX9_from_16 rfl (lv_at hl 2 rfl) ?_
  refine zget hx hb ht inlX9 hown hK hW 0 rfl rfl 6 (by decide) zm_29 rfl dX9_from_17 ?_
  refine lv_iload_n hx hb dX9_from_20 rfl (lv_at hl 0 rfl) ?_
  refine zgo_v (wr := [(a0, .inr (8, [w1, w2, w3, w4, w5, w6, .ref a7, w8, w9])), (a24, .inr (5, [.int 0, w26, w27]))]) (zrunV (As := [.int 2]) (rest := []) ⟨hx, hb, hml, hown, ht⟩ (zc_X1_turnTo_3 l D y a7 a10 (.int 20) w11 w12 w13 w14 w15 a16 w17 (.int 20) (.int 0) w18 w19 w20 w21 w22 w23 (.ref a24) w25) (cwV 1 ht (zgV zm_983 zm_281 zm_282 zm_28 zm_283) rfl rfl rfl (by decide +kernel) ⟨(Nat.le_of_ble_eq_true rfl), (Nat.le_of_ble_eq_true rfl)⟩) hK hE hS hA hW [2, 3, 1] (by decide) rfl 0 rfl rfl rfl rfl hl.1 rfl (Nat.le_of_ble_eq_true rfl) dX9_from_21 (Nat.le_of_ble_eq_true rfl) (Nat.le_of_ble_eq_true rfl)) hS hA hW [2, 3, 1] [0, 4] rfl rfl (by decide) (by decide) (fun u H locs hw hW hS => ?_)
  have hW : zPD D A [(a0, .inr (8, [w1, w2, w3, w4, w5, w6, .ref a7, w8, w9])), (a24, .inr (5, [.int 0, w26, w27])), (a7, .inr (1, [.ref a10, .int 2, .int 20, w11, w12, w13, w14, w15, .ref a16])), (a10, .inr (6, [w17, .int 0, .int 20, .int 0, w18, w19, w20, w21, w22, w23, .ref a24, w25])), (a16, .inl (y 2, 4, .inl (upd (upd (upd (fun _ => 0) 0 1) 1 1) 2 1)))] H := hW
  refine lv_aload_n hx hb dX9_from_24 rfl (lv_at hl 2 rfl) ?_
  refine zget hx hb ht inlX9 hown hK hW 0 rfl rfl 6 (by decide) zm_29 rfl dX9_from_25 ?_
  refine zgo_i (wr := [(a0, .inr (8, [w1, w2, w3, w4, w5, w6, .ref a7, w8, w9])), (a16, .inl (y 2, 4, .inl (upd (upd (upd (fun _ => 0) 0 1) 1 1) 2 1)))]) (zrunV (As := []) (rest := []) ⟨hx, hb, hml, hown, ht⟩ (zc_X1_isAsSeen_0 l D y a7 a10 (.int 2) (.int 20) w11 w12 w13 w14 w15 (.ref a16) w17 (.int 0) (.int 20) (.int 0) w18 w19 w20 w21 w22 w23 a24 w25 w26 w27) (cwV 0 ht (zgV zm_1014 zm_1015 zm_1016 zm_28 zm_1017) rfl rfl rfl (by decide +kernel) ⟨(Nat.le_of_ble_eq_true rfl), (Nat.le_of_ble_eq_true rfl)⟩) hK hE hS hA hW [2, 3, 1] (by decide) rfl 0 rfl rfl rfl rfl hl.1 rfl (Nat.le_of_ble_eq_true rfl) dX9_from_28 (Nat.le_of_ble_eq_true rfl) (Nat.le_of_ble_eq_true rfl)) hS hA hW [2, 3, 1] [0, 4] rfl rfl (by decide) (by decide) (fun r12_ u H locs hw hW hS => ?_)
  have hW : zPD D A [(a0, .inr (8, [w1, w2, w3, w4, w5, w6, .ref a7, w8, w9])), (a16, .inl (y 2, 4, .inl (upd (upd (upd (fun _ => 0) 0 1) 1 1) 2 1))), (a7, .inr (1, [.ref a10, .int 2, .int 20, w11, w12, w13, w14, w15, .ref a16])), (a10, .inr (6, [w17, .int 0, .int 20, .int 0, w18, w19, w20, w21, w22, w23, .ref a24, w25])), (a24, .inr (5, [.int 0, w26, w27]))] H := hW
  have hw : r12_ = 1 := hw
  subst hw
  refine lv_if_eq (tgt := 40) hx hb dX9_from_31 (by decide) (fun c13_ => absurd c13_ (by decide)) (fun c13_ => ?_)
  refine lv_iload_n hx hb dX9_from_34 rfl (lv_at hl 1 rfl) ?_
  refine lv_iconst (v := 1) hx hb dX9_from_35 (by decide) ?_
  refine lv_iload_n hx hb dX9_from_36 rfl (lv_at hl 0 rfl) ?_
  refine lv_ishl hx hb dX9_from_37 ?_
  refine ztop (w := .int 4) (congrArg Value.int (by decide)) ?_
  refine lv_ior hx hb dX9_from_38 ?_
  refine ztop (w := .int 7) (congrArg Value.int (by decide)) ?_
  refine lv_istore_n (lv' := [(1, .int 7), (2, .int 2), (0, .ref a0)]) hx hb dX9_from_39 rfl hl (by decide) rfl (fun ls hl => ?_)
  refine lv_iinc (k := 1) (v := 3) (lv' := [(2, .int 3), (1, .int 7), (0, .ref a0)]) hx hb dX9_from_40 hl rfl (by decide) (by decide) rfl (fun ls hl => ?_)
  refine lv_goto (tgt := 11) hx hb dX9_from_43 (by decide) ?_
  refine lv_iload_n hx hb dX9_from_11 rfl (lv_at hl 0 rfl) ?_
  refine lv_iconst (v := 4) hx hb dX9_from_12 (by decide) ?_
  refine lv_icmp_ge (tgt := 46) hx hb dX9_from_13 (by decide) (fun c14_ => absurd c14_ (by decide)) (fun c14_ => ?_)
  refine lv_aload_n hx hb dX9_from_16 rfl (lv_at hl 2 rfl) ?_
  refine zget hx hb ht inlX9 hown hK hW 0 rfl rfl 6 (by decide) zm_29 rfl dX9_from_17 ?_
  refine lv_iload_n hx hb dX9_from_20 rfl (lv_at hl 0 rfl) ?_
  refine zgo_v (wr := [(a0, .inr (8, [w1, w2, w3, w4, w5, w6, .ref a7, w8, w9])), (a24, .inr (5, [.int 0, w26, w27]))]) (zrunV (As := [.int 3]) (rest := []) ⟨hx, hb, hml, hown, ht⟩ (zc_X1_turnTo_4 l D y a7 a10 (.int 20) w11 w12 w13 w14 w15 a16 w17 (.int 20) (.int 0) w18 w19 w20 w21 w22 w23 (.ref a24) w25) (cwV 1 ht (zgV zm_983 zm_281 zm_282 zm_28 zm_283) rfl rfl rfl (by decide +kernel) ⟨(Nat.le_of_ble_eq_true rfl), (Nat.le_of_ble_eq_true rfl)⟩) hK hE hS hA hW [2, 3, 1] (by decide) rfl 0 rfl rfl rfl rfl hl.1 rfl (Nat.le_of_ble_eq_true rfl) dX9_from_21 (Nat.le_of_ble_eq_true rfl) (Nat.le_of_ble_eq_true rfl)) hS hA hW [2, 3, 1] [0, 4] rfl rfl (by decide) (by decide) (fun u H locs hw hW hS => ?_)
  have hW : zPD D A [(a0, .inr (8, [w1, w2, w3, w4, w5, w6, .ref a7, w8, w9])), (a24, .inr (5, [.int 0, w26, w27])), (a7, .inr (1, [.ref a10, .int 3, .int 20, w11, w12, w13, w14, w15, .ref a16])), (a10, .inr (6, [w17, .int 0, .int 20, .int 0, w18, w19, w20, w21, w22, w23, .ref a24, w25])), (a16, .inl (y 2, 4, .inl (upd (upd (upd (upd (fun _ => 0) 0 1) 1 1) 2 1) 3 1)))] H := hW
  refine lv_aload_n hx hb dX9_from_24 rfl (lv_at hl 2 rfl) ?_
  refine zget hx hb ht inlX9 hown hK hW 0 rfl rfl 6 (by decide) zm_29 rfl dX9_from_25 ?_
  refine zgo_i (wr := [(a0, .inr (8, [w1, w2, w3, w4, w5, w6, .ref a7, w8, w9])), (a16, .inl (y 2, 4, .inl (upd (upd (upd (upd (fun _ => 0) 0 1) 1 1) 2 1) 3 1)))]) (zrunV (As := []) (rest := []) ⟨hx, hb, hml, hown, ht⟩ (zc_X1_isAsSeen_0 l D y a7 a10 (.int 3) (.int 20) w11 w12 w13 w14 w15 (.ref a16) w17 (.int 0) (.int 20) (.int 0) w18 w19 w20 w21 w22 w23 a24 w25 w26 w27) (cwV 0 ht (zgV zm_1014 zm_1015 zm_1016 zm_28 zm_1017) rfl rfl rfl (by decide +kernel) ⟨(Nat.le_of_ble_eq_true rfl), (Nat.le_of_ble_eq_true rfl)⟩) hK hE hS hA hW [2, 3, 1] (by decide) rfl 0 rfl rfl rfl rfl hl.1 rfl (Nat.le_of_ble_eq_true rfl) dX9_from_28 (Nat.le_of_ble_eq_true rfl) (Nat.le_of_ble_eq_true rfl)) hS hA hW [2, 3, 1] [0, 4] rfl rfl (by decide) (by decide) (fun r16_ u H locs hw hW hS => ?_)
  have hW : zPD D A [(a0, .inr (8, [w1, w2, w3, w4, w5, w6, .ref a7, w8, w9])), (a16, .inl (y 2, 4, .inl (upd (upd (upd (upd (fun _ => 0) 0 1) 1 1) 2 1) 3 1))), (a7, .inr (1, [.ref a10, .int 3, .int 20, w11, w12, w13, w14, w15, .ref a16])), (a10, .inr (6, [w17, .int 0, .int 20, .int 0, w18, w19, w20, w21, w22, w23, .ref a24, w25])), (a24, .inr (5, [.int 0, w26, w27]))] H := hW
  have hw : r16_ = 1 := hw
  subst hw
  refine lv_if_eq (tgt := 40) hx hb dX9_from_31 (by decide) (fun c17_ => absurd c17_ (by decide)) (fun c17_ => ?_)
  refine lv_iload_n hx hb dX9_from_34 rfl (lv_at hl 1 rfl) ?_
  refine lv_iconst (v := 1) hx hb dX9_from_35 (by decide) ?_
  refine lv_iload_n hx hb dX9_from_36 rfl (lv_at hl 0 rfl) ?_
  refine lv_ishl hx hb dX9_from_37 ?_
  refine ztop (w := .int 8) (congrArg Value.int (by decide)) ?_
  refine lv_ior hx hb dX9_from_38 ?_
  refine ztop (w := .int 15) (congrArg Value.int (by decide)) ?_
  refine lv_istore_n (lv' := [(1, .int 15), (2, .int 3), (0, .ref a0)]) hx hb dX9_from_39 rfl hl (by decide) rfl (fun ls hl => ?_)
  refine lv_iinc (k := 1) (v := 4) (lv' := [(2, .int 4), (1, .int 15), (0, .ref a0)]) hx hb dX9_from_40 hl rfl (by decide) (by decide) rfl (fun ls hl => ?_)
  refine lv_goto (tgt := 11) hx hb dX9_from_43 (by decide) ?_
  refine lv_iload_n hx hb dX9_from_11 rfl (lv_at hl 0 rfl) ?_
  refine lv_iconst (v := 4) hx hb dX9_from_12 (by decide) ?_
  refine lv_icmp_ge (tgt := 46) hx hb dX9_from_13 (by decide) (fun c18_ => ?_) (fun c18_ => absurd (by decide) c18_)
  refine lv_iload_n hx hb dX9_from_46 rfl (lv_at hl 1 rfl) ?_
  exact zret_i (v := 15) hx hb hr hlocks hS () rfl (hW.sub [] (by decide) rfl) (Nat.le_of_ble_eq_true rfl) (Nat.le_of_ble_eq_true rfl) dX9_from_47

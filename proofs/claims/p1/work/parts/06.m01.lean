theorem dJ0_isEmpty_aae02_0 : decode cJ0_isEmpty_aae02 0 = .ok (.aload_n 0, 1) := by decide +kernel
theorem dJ0_isEmpty_aae02_1 : decode cJ0_isEmpty_aae02 1 = .ok (.getfield 9, 3) := by decide +kernel
theorem dJ0_isEmpty_aae02_13 : decode cJ0_isEmpty_aae02 13 = .ok (.ireturn, 1) := by decide +kernel
theorem dJ0_isEmpty_aae02_4 : decode cJ0_isEmpty_aae02 4 = .ok (.arraylength, 1) := by decide +kernel
theorem dJ0_isEmpty_aae02_5 : decode cJ0_isEmpty_aae02 5 = .ok (.ifCond .ne 7, 3) := by decide +kernel
theorem dJ0_isEmpty_aae02_8 : decode cJ0_isEmpty_aae02 8 = .ok (.iconst 1, 1) := by decide +kernel
theorem dJ0_isEmpty_aae02_9 : decode cJ0_isEmpty_aae02 9 = .ok (.goto 4, 3) := by decide +kernel
theorem dX10_behindClauses_0 : decode cX10_behindClauses 0 = .ok (.aload_n 0, 1) := by decide +kernel
theorem dX10_behindClauses_1 : decode cX10_behindClauses 1 = .ok (.getfield 57, 3) := by decide +kernel
theorem dX10_behindClauses_28 : decode cX10_behindClauses 28 = .ok (.ireturn, 1) := by decide +kernel
theorem dX10_behindClauses_4 : decode cX10_behindClauses 4 = .ok (.ifCond .ge 7, 3) := by decide +kernel
theorem dX10_behindClauses_7 : decode cX10_behindClauses 7 = .ok (.iconst 0, 1) := by decide +kernel
theorem dX10_behindClauses_8 : decode cX10_behindClauses 8 = .ok (.goto 20, 3) := by decide +kernel
theorem dX10_feed_0 : decode cX10_feed 0 = .ok (.aload_n 0, 1) := by decide +kernel
theorem dX10_feed_1 : decode cX10_feed 1 = .ok (.iload_n 1, 1) := by decide +kernel
theorem dX10_feed_11 : decode cX10_feed 11 = .ok (.bipush (-2), 2) := by decide +kernel
theorem dX10_feed_13 : decode cX10_feed 13 = .ok (.ireturn, 1) := by decide +kernel
theorem dX10_feed_14 : decode cX10_feed 14 = .ok (.aload_n 0, 1) := by decide +kernel
theorem dX10_feed_15 : decode cX10_feed 15 = .ok (.getfield 60, 3) := by decide +kernel
theorem dX10_feed_18 : decode cX10_feed 18 = .ok (.bipush 100, 2) := by decide +kernel
theorem dX10_feed_2 : decode cX10_feed 2 = .ok (.iconst 0, 1) := by decide +kernel
theorem dX10_feed_20 : decode cX10_feed 20 = .ok (.if_icmp .ne 6, 3) := by decide +kernel
theorem dX10_feed_26 : decode cX10_feed 26 = .ok (.aload_n 0, 1) := by decide +kernel
theorem dX10_feed_27 : decode cX10_feed 27 = .ok (.getfield 69, 3) := by decide +kernel
theorem dX10_feed_3 : decode cX10_feed 3 = .ok (.bipush 127, 2) := by decide +kernel
theorem dX10_feed_30 : decode cX10_feed 30 = .ok (.aload_n 0, 1) := by decide +kernel
theorem dX10_feed_31 : decode cX10_feed 31 = .ok (.getfield 60, 3) := by decide +kernel
theorem dX10_feed_34 : decode cX10_feed 34 = .ok (.iload_n 1, 1) := by decide +kernel
theorem dX10_feed_35 : decode cX10_feed 35 = .ok (.iastore, 1) := by decide +kernel
theorem dX10_feed_36 : decode cX10_feed 36 = .ok (.aload_n 0, 1) := by decide +kernel
theorem dX10_feed_37 : decode cX10_feed 37 = .ok (.dup, 1) := by decide +kernel
theorem dX10_feed_38 : decode cX10_feed 38 = .ok (.getfield 60, 3) := by decide +kernel
theorem dX10_feed_41 : decode cX10_feed 41 = .ok (.iconst 1, 1) := by decide +kernel
theorem dX10_feed_42 : decode cX10_feed 42 = .ok (.iadd, 1) := by decide +kernel
theorem dX10_feed_43 : decode cX10_feed 43 = .ok (.putfield 60, 3) := by decide +kernel
theorem dX10_feed_46 : decode cX10_feed 46 = .ok (.aload_n 0, 1) := by decide +kernel
theorem dX10_feed_47 : decode cX10_feed 47 = .ok (.getfield 60, 3) := by decide +kernel
theorem dX10_feed_5 : decode cX10_feed 5 = .ok (.invokevirtual 242, 3) := by decide +kernel
theorem dX10_feed_50 : decode cX10_feed 50 = .ok (.ireturn, 1) := by decide +kernel
theorem dX10_feed_8 : decode cX10_feed 8 = .ok (.ifCond .ne 6, 3) := by decide +kernel
theorem dX10_firstClause_0 : decode cX10_firstClause 0 = .ok (.aload_n 0, 1) := by decide +kernel
theorem dX10_firstClause_1 : decode cX10_firstClause 1 = .ok (.getfield 57, 3) := by decide +kernel
theorem dX10_firstClause_18 : decode cX10_firstClause 18 = .ok (.ireturn, 1) := by decide +kernel
theorem dX10_firstClause_4 : decode cX10_firstClause 4 = .ok (.ifCond .ge 7, 3) := by decide +kernel
theorem dX10_firstClause_7 : decode cX10_firstClause 7 = .ok (.iconst 0, 1) := by decide +kernel
theorem dX10_firstClause_8 : decode cX10_firstClause 8 = .ok (.goto 10, 3) := by decide +kernel
theorem dX10_goMinutes_0 : decode cX10_goMinutes 0 = .ok (.aload_n 0, 1) := by decide +kernel
theorem dX10_goMinutes_1 : decode cX10_goMinutes 1 = .ok (.invokevirtual 341, 3) := by decide +kernel
theorem dX10_goMinutes_10 : decode cX10_goMinutes 10 = .ok (.getfield 13, 3) := by decide +kernel
theorem dX10_goMinutes_13 : decode cX10_goMinutes 13 = .ok (.aload_n 0, 1) := by decide +kernel
theorem dX10_goMinutes_14 : decode cX10_goMinutes 14 = .ok (.getfield 13, 3) := by decide +kernel
theorem dX10_goMinutes_17 : decode cX10_goMinutes 17 = .ok (.iload_n 1, 1) := by decide +kernel
theorem dX10_goMinutes_18 : decode cX10_goMinutes 18 = .ok (.iadd, 1) := by decide +kernel
theorem dX10_goMinutes_19 : decode cX10_goMinutes 19 = .ok (.invokevirtual 350, 3) := by decide +kernel
theorem dX10_goMinutes_22 : decode cX10_goMinutes 22 = .ok (.istore_n 2, 1) := by decide +kernel
theorem dX10_goMinutes_23 : decode cX10_goMinutes 23 = .ok (.aload_n 0, 1) := by decide +kernel
theorem dX10_goMinutes_24 : decode cX10_goMinutes 24 = .ok (.aload_n 0, 1) := by decide +kernel
theorem dX10_goMinutes_25 : decode cX10_goMinutes 25 = .ok (.getfield 16, 3) := by decide +kernel
theorem dX10_goMinutes_28 : decode cX10_goMinutes 28 = .ok (.iload_n 2, 1) := by decide +kernel
theorem dX10_goMinutes_29 : decode cX10_goMinutes 29 = .ok (.iadd, 1) := by decide +kernel
theorem dX10_goMinutes_30 : decode cX10_goMinutes 30 = .ok (.ldc_w 353, 3) := by decide +kernel
theorem dX10_goMinutes_33 : decode cX10_goMinutes 33 = .ok (.if_icmp .le 9, 3) := by decide +kernel
theorem dX10_goMinutes_4 : decode cX10_goMinutes 4 = .ok (.aload_n 0, 1) := by decide +kernel
theorem dX10_goMinutes_42 : decode cX10_goMinutes 42 = .ok (.aload_n 0, 1) := by decide +kernel
theorem dX10_goMinutes_43 : decode cX10_goMinutes 43 = .ok (.getfield 16, 3) := by decide +kernel
theorem dX10_goMinutes_46 : decode cX10_goMinutes 46 = .ok (.iload_n 2, 1) := by decide +kernel
theorem dX10_goMinutes_47 : decode cX10_goMinutes 47 = .ok (.iadd, 1) := by decide +kernel
theorem dX10_goMinutes_48 : decode cX10_goMinutes 48 = .ok (.putfield 16, 3) := by decide +kernel
theorem dX10_goMinutes_5 : decode cX10_goMinutes 5 = .ok (.invokevirtual 344, 3) := by decide +kernel
theorem dX10_goMinutes_51 : decode cX10_goMinutes 51 = .ok (.aload_n 0, 1) := by decide +kernel
theorem dX10_goMinutes_52 : decode cX10_goMinutes 52 = .ok (.dup, 1) := by decide +kernel
theorem dX10_goMinutes_53 : decode cX10_goMinutes 53 = .ok (.getfield 13, 3) := by decide +kernel
theorem dX10_goMinutes_56 : decode cX10_goMinutes 56 = .ok (.iload_n 1, 1) := by decide +kernel
theorem dX10_goMinutes_57 : decode cX10_goMinutes 57 = .ok (.iadd, 1) := by decide +kernel
theorem dX10_goMinutes_58 : decode cX10_goMinutes 58 = .ok (.putfield 13, 3) := by decide +kernel
theorem dX10_goMinutes_61 : decode cX10_goMinutes 61 = .ok (.iload_n 2, 1) := by decide +kernel
theorem dX10_goMinutes_62 : decode cX10_goMinutes 62 = .ok (.ireturn, 1) := by decide +kernel
theorem dX10_goMinutes_8 : decode cX10_goMinutes 8 = .ok (.aload_n 0, 1) := by decide +kernel
theorem dX10_goMinutes_9 : decode cX10_goMinutes 9 = .ok (.aload_n 0, 1) := by decide +kernel
theorem dX10_goesText_0 : decode cX10_goesText 0 = .ok (.aload_n 0, 1) := by decide +kernel
theorem dX10_goesText_1 : decode cX10_goesText 1 = .ok (.iconst 0, 1) := by decide +kernel
theorem dX10_goesText_10 : decode cX10_goesText 10 = .ok (.putfield 93, 3) := by decide +kernel
theorem dX10_goesText_13 : decode cX10_goesText 13 = .ok (.iconst 0, 1) := by decide +kernel
theorem dX10_goesText_14 : decode cX10_goesText 14 = .ok (.istore_n 2, 1) := by decide +kernel
theorem dX10_goesText_15 : decode cX10_goesText 15 = .ok (.aload_n 0, 1) := by decide +kernel
theorem dX10_goesText_16 : decode cX10_goesText 16 = .ok (.bipush 10, 2) := by decide +kernel
theorem dX10_goesText_18 : decode cX10_goesText 18 = .ok (.iload_n 1, 1) := by decide +kernel
theorem dX10_goesText_19 : decode cX10_goesText 19 = .ok (.imul, 1) := by decide +kernel
theorem dX10_goesText_2 : decode cX10_goesText 2 = .ok (.putfield 63, 3) := by decide +kernel
theorem dX10_goesText_20 : decode cX10_goesText 20 = .ok (.iload_n 2, 1) := by decide +kernel
theorem dX10_goesText_21 : decode cX10_goesText 21 = .ok (.iadd, 1) := by decide +kernel
theorem dX10_goesText_22 : decode cX10_goesText 22 = .ok (.invokevirtual 293, 3) := by decide +kernel
theorem dX10_goesText_25 : decode cX10_goesText 25 = .ok (.ifCond .ne 5, 3) := by decide +kernel
theorem dX10_goesText_28 : decode cX10_goesText 28 = .ok (.iconst 0, 1) := by decide +kernel
theorem dX10_goesText_29 : decode cX10_goesText 29 = .ok (.ireturn, 1) := by decide +kernel
theorem dX10_goesText_5 : decode cX10_goesText 5 = .ok (.aload_n 0, 1) := by decide +kernel
theorem dX10_goesText_6 : decode cX10_goesText 6 = .ok (.bipush 100, 2) := by decide +kernel
theorem dX10_goesText_8 : decode cX10_goesText 8 = .ok (.iload_n 1, 1) := by decide +kernel
theorem dX10_goesText_9 : decode cX10_goesText 9 = .ok (.imul, 1) := by decide +kernel
theorem dX10_harmAt_0 : decode cX10_harmAt 0 = .ok (.iconst 0, 1) := by decide +kernel
theorem dX10_harmAt_1 : decode cX10_harmAt 1 = .ok (.istore_n 2, 1) := by decide +kernel
theorem dX10_harmAt_2 : decode cX10_harmAt 2 = .ok (.iconst 0, 1) := by decide +kernel
theorem dX10_harmAt_27 : decode cX10_harmAt 27 = .ok (.iload_n 2, 1) := by decide +kernel
theorem dX10_harmAt_28 : decode cX10_harmAt 28 = .ok (.ireturn, 1) := by decide +kernel
theorem dX10_harmAt_3 : decode cX10_harmAt 3 = .ok (.istore_n 3, 1) := by decide +kernel
theorem dX10_harmAt_4 : decode cX10_harmAt 4 = .ok (.iload_n 3, 1) := by decide +kernel
theorem dX10_harmAt_5 : decode cX10_harmAt 5 = .ok (.aload_n 0, 1) := by decide +kernel
theorem dX10_harmAt_6 : decode cX10_harmAt 6 = .ok (.getfield 7, 3) := by decide +kernel
theorem dX10_harmAt_9 : decode cX10_harmAt 9 = .ok (.if_icmp .ge 18, 3) := by decide +kernel
theorem dX10_harmFrom_0 : decode cX10_harmFrom 0 = .ok (.iconst 0, 1) := by decide +kernel
theorem dX10_harmFrom_1 : decode cX10_harmFrom 1 = .ok (.istore_n 3, 1) := by decide +kernel
theorem dX10_harmFrom_10 : decode cX10_harmFrom 10 = .ok (.aload_n 0, 1) := by decide +kernel
theorem dX10_harmFrom_11 : decode cX10_harmFrom 11 = .ok (.getfield 19, 3) := by decide +kernel
theorem dX10_harmFrom_14 : decode cX10_harmFrom 14 = .ok (.goto 4, 3) := by decide +kernel
theorem dX10_harmFrom_18 : decode cX10_harmFrom 18 = .ok (.istore 4, 2) := by decide +kernel
theorem dX10_harmFrom_2 : decode cX10_harmFrom 2 = .ok (.iload_n 1, 1) := by decide +kernel
theorem dX10_harmFrom_20 : decode cX10_harmFrom 20 = .ok (.iload 4, 2) := by decide +kernel
theorem dX10_harmFrom_22 : decode cX10_harmFrom 22 = .ok (.iload_n 2, 1) := by decide +kernel
theorem dX10_harmFrom_23 : decode cX10_harmFrom 23 = .ok (.if_icmp .ge 32, 3) := by decide +kernel
theorem dX10_harmFrom_26 : decode cX10_harmFrom 26 = .ok (.iload 4, 2) := by decide +kernel
theorem dX10_harmFrom_28 : decode cX10_harmFrom 28 = .ok (.aload_n 0, 1) := by decide +kernel
theorem dX10_harmFrom_29 : decode cX10_harmFrom 29 = .ok (.getfield 19, 3) := by decide +kernel
theorem dX10_harmFrom_3 : decode cX10_harmFrom 3 = .ok (.aload_n 0, 1) := by decide +kernel
theorem dX10_harmFrom_32 : decode cX10_harmFrom 32 = .ok (.aload_n 0, 1) := by decide +kernel
theorem dX10_harmFrom_33 : decode cX10_harmFrom 33 = .ok (.invokevirtual 315, 3) := by decide +kernel
theorem dX10_harmFrom_36 : decode cX10_harmFrom 36 = .ok (.iadd, 1) := by decide +kernel
theorem dX10_harmFrom_37 : decode cX10_harmFrom 37 = .ok (.if_icmp .ge 18, 3) := by decide +kernel
theorem dX10_harmFrom_4 : decode cX10_harmFrom 4 = .ok (.getfield 19, 3) := by decide +kernel
theorem dX10_harmFrom_40 : decode cX10_harmFrom 40 = .ok (.iload_n 3, 1) := by decide +kernel
theorem dX10_harmFrom_41 : decode cX10_harmFrom 41 = .ok (.aload_n 0, 1) := by decide +kernel
theorem dX10_harmFrom_42 : decode cX10_harmFrom 42 = .ok (.iload 4, 2) := by decide +kernel
theorem dX10_harmFrom_44 : decode cX10_harmFrom 44 = .ok (.invokevirtual 331, 3) := by decide +kernel
theorem dX10_harmFrom_47 : decode cX10_harmFrom 47 = .ok (.iadd, 1) := by decide +kernel
theorem dX10_harmFrom_48 : decode cX10_harmFrom 48 = .ok (.istore_n 3, 1) := by decide +kernel
theorem dX10_harmFrom_49 : decode cX10_harmFrom 49 = .ok (.iinc 4 1, 3) := by decide +kernel
theorem dX10_harmFrom_52 : decode cX10_harmFrom 52 = .ok (.goto (-32), 3) := by decide +kernel
theorem dX10_harmFrom_55 : decode cX10_harmFrom 55 = .ok (.iload_n 3, 1) := by decide +kernel
theorem dX10_harmFrom_56 : decode cX10_harmFrom 56 = .ok (.ireturn, 1) := by decide +kernel
theorem dX10_harmFrom_7 : decode cX10_harmFrom 7 = .ok (.if_icmp .ge 10, 3) := by decide +kernel
theorem dX10_house_0 : decode cX10_house 0 = .ok (.aload_n 0, 1) := by decide +kernel
theorem dX10_house_1 : decode cX10_house 1 = .ok (.getfield 54, 3) := by decide +kernel
theorem dX10_house_12 : decode cX10_house 12 = .ok (.aload_n 0, 1) := by decide +kernel
theorem dX10_house_13 : decode cX10_house 13 = .ok (.aload_n 0, 1) := by decide +kernel
theorem dX10_house_14 : decode cX10_house 14 = .ok (.getfield 54, 3) := by decide +kernel
theorem dX10_house_17 : decode cX10_house 17 = .ok (.invokevirtual 296, 3) := by decide +kernel
theorem dX10_house_20 : decode cX10_house 20 = .ok (.istore_n 1, 1) := by decide +kernel
theorem dX10_house_21 : decode cX10_house 21 = .ok (.aload_n 0, 1) := by decide +kernel
theorem dX10_house_22 : decode cX10_house 22 = .ok (.iconst 0, 1) := by decide +kernel
theorem dX10_house_23 : decode cX10_house 23 = .ok (.putfield 60, 3) := by decide +kernel
theorem dX10_house_26 : decode cX10_house 26 = .ok (.iload_n 1, 1) := by decide +kernel
theorem dX10_house_27 : decode cX10_house 27 = .ok (.ifCond .ne 11, 3) := by decide +kernel
theorem dX10_house_30 : decode cX10_house 30 = .ok (.bipush (-10), 2) := by decide +kernel
theorem dX10_house_32 : decode cX10_house 32 = .ok (.aload_n 0, 1) := by decide +kernel
theorem dX10_house_33 : decode cX10_house 33 = .ok (.getfield 63, 3) := by decide +kernel
theorem dX10_house_36 : decode cX10_house 36 = .ok (.isub, 1) := by decide +kernel
theorem dX10_house_37 : decode cX10_house 37 = .ok (.ireturn, 1) := by decide +kernel
theorem dX10_house_4 : decode cX10_house 4 = .ok (.bipush 6, 2) := by decide +kernel
theorem dX10_house_6 : decode cX10_house 6 = .ok (.if_icmp .ne 6, 3) := by decide +kernel
theorem dX10_lastNow_0 : decode cX10_lastNow 0 = .ok (.aload_n 0, 1) := by decide +kernel
theorem dX10_lastNow_1 : decode cX10_lastNow 1 = .ok (.iconst 3, 1) := by decide +kernel
theorem dX10_lastNow_2 : decode cX10_lastNow 2 = .ok (.bipush 15, 2) := by decide +kernel
theorem dX10_lastNow_4 : decode cX10_lastNow 4 = .ok (.invokevirtual 312, 3) := by decide +kernel
theorem dX10_lastNow_7 : decode cX10_lastNow 7 = .ok (.ireturn, 1) := by decide +kernel
theorem dX10_lastOf_0 : decode cX10_lastOf 0 = .ok (.iload_n 2, 1) := by decide +kernel
theorem dX10_lastOf_1 : decode cX10_lastOf 1 = .ok (.istore_n 3, 1) := by decide +kernel
theorem dX10_lastOf_10 : decode cX10_lastOf 10 = .ok (.aload_n 0, 1) := by decide +kernel
theorem dX10_lastOf_11 : decode cX10_lastOf 11 = .ok (.invokevirtual 302, 3) := by decide +kernel
theorem dX10_lastOf_14 : decode cX10_lastOf 14 = .ok (.if_icmp .ge 32, 3) := by decide +kernel
theorem dX10_lastOf_2 : decode cX10_lastOf 2 = .ok (.aload_n 0, 1) := by decide +kernel
theorem dX10_lastOf_3 : decode cX10_lastOf 3 = .ok (.invokevirtual 299, 3) := by decide +kernel
theorem dX10_lastOf_46 : decode cX10_lastOf 46 = .ok (.iload_n 3, 1) := by decide +kernel
theorem dX10_lastOf_47 : decode cX10_lastOf 47 = .ok (.ireturn, 1) := by decide +kernel
theorem dX10_lastOf_6 : decode cX10_lastOf 6 = .ok (.istore 4, 2) := by decide +kernel
theorem dX10_lastOf_8 : decode cX10_lastOf 8 = .ok (.iload 4, 2) := by decide +kernel
theorem dX10_layOpen_0 : decode cX10_layOpen 0 = .ok (.iconst 0, 1) := by decide +kernel
theorem dX10_layOpen_1 : decode cX10_layOpen 1 = .ok (.istore_n 1, 1) := by decide +kernel
theorem dX10_layOpen_12 : decode cX10_layOpen 12 = .ok (.iload_n 1, 1) := by decide +kernel
theorem dX10_layOpen_13 : decode cX10_layOpen 13 = .ok (.aload_n 0, 1) := by decide +kernel
theorem dX10_layOpen_14 : decode cX10_layOpen 14 = .ok (.getfield 50, 3) := by decide +kernel
theorem dX10_layOpen_17 : decode cX10_layOpen 17 = .ok (.iload_n 1, 1) := by decide +kernel
theorem dX10_layOpen_18 : decode cX10_layOpen 18 = .ok (.baload, 1) := by decide +kernel
theorem dX10_layOpen_19 : decode cX10_layOpen 19 = .ok (.ifCond .eq 7, 3) := by decide +kernel
theorem dX10_layOpen_2 : decode cX10_layOpen 2 = .ok (.iload_n 1, 1) := by decide +kernel
theorem dX10_layOpen_26 : decode cX10_layOpen 26 = .ok (.ldc_w 330, 3) := by decide +kernel
theorem dX10_layOpen_29 : decode cX10_layOpen 29 = .ok (.iastore, 1) := by decide +kernel
theorem dX10_layOpen_3 : decode cX10_layOpen 3 = .ok (.bipush 7, 2) := by decide +kernel
theorem dX10_layOpen_30 : decode cX10_layOpen 30 = .ok (.iinc 1 1, 3) := by decide +kernel
theorem dX10_layOpen_33 : decode cX10_layOpen 33 = .ok (.goto (-31), 3) := by decide +kernel
theorem dX10_layOpen_36 : decode cX10_layOpen 36 = .ok (.return_, 1) := by decide +kernel
theorem dX10_layOpen_5 : decode cX10_layOpen 5 = .ok (.if_icmp .ge 31, 3) := by decide +kernel
theorem dX10_layOpen_8 : decode cX10_layOpen 8 = .ok (.aload_n 0, 1) := by decide +kernel
theorem dX10_layOpen_9 : decode cX10_layOpen 9 = .ok (.getfield 114, 3) := by decide +kernel
theorem dX10_layRain_0 : decode cX10_layRain 0 = .ok (.aload_n 0, 1) := by decide +kernel
theorem dX10_layRain_1 : decode cX10_layRain 1 = .ok (.invokevirtual 315, 3) := by decide +kernel
theorem dX10_layRain_12 : decode cX10_layRain 12 = .ok (.if_icmp .ge 54, 3) := by decide +kernel
theorem dX10_layRain_4 : decode cX10_layRain 4 = .ok (.istore_n 1, 1) := by decide +kernel
theorem dX10_layRain_5 : decode cX10_layRain 5 = .ok (.iconst 0, 1) := by decide +kernel
theorem dX10_layRain_6 : decode cX10_layRain 6 = .ok (.istore_n 2, 1) := by decide +kernel
theorem dX10_layRain_66 : decode cX10_layRain 66 = .ok (.aload_n 0, 1) := by decide +kernel
theorem dX10_layRain_67 : decode cX10_layRain 67 = .ok (.iconst 0, 1) := by decide +kernel
theorem dX10_layRain_68 : decode cX10_layRain 68 = .ok (.putfield 108, 3) := by decide +kernel
theorem dX10_layRain_7 : decode cX10_layRain 7 = .ok (.iload_n 2, 1) := by decide +kernel
theorem dX10_layRain_71 : decode cX10_layRain 71 = .ok (.return_, 1) := by decide +kernel
theorem dX10_layRain_8 : decode cX10_layRain 8 = .ok (.aload_n 0, 1) := by decide +kernel
theorem dX10_layRain_9 : decode cX10_layRain 9 = .ok (.getfield 7, 3) := by decide +kernel
theorem dX10_openSet_0 : decode cX10_openSet 0 = .ok (.iconst 0, 1) := by decide +kernel
theorem dX10_openSet_1 : decode cX10_openSet 1 = .ok (.istore_n 1, 1) := by decide +kernel
theorem dX10_openSet_2 : decode cX10_openSet 2 = .ok (.iconst 0, 1) := by decide +kernel
theorem dX10_openSet_3 : decode cX10_openSet 3 = .ok (.istore_n 2, 1) := by decide +kernel
theorem dX10_openSet_37 : decode cX10_openSet 37 = .ok (.iload_n 1, 1) := by decide +kernel
theorem dX10_openSet_38 : decode cX10_openSet 38 = .ok (.ireturn, 1) := by decide +kernel
theorem dX10_openSet_4 : decode cX10_openSet 4 = .ok (.iload_n 2, 1) := by decide +kernel
theorem dX10_openSet_5 : decode cX10_openSet 5 = .ok (.aload_n 0, 1) := by decide +kernel
theorem dX10_openSet_6 : decode cX10_openSet 6 = .ok (.getfield 7, 3) := by decide +kernel
theorem dX10_openSet_9 : decode cX10_openSet 9 = .ok (.if_icmp .ge 28, 3) := by decide +kernel
theorem dX10_pass_0 : decode cX10_pass 0 = .ok (.aload_n 0, 1) := by decide +kernel
theorem dX10_pass_1 : decode cX10_pass 1 = .ok (.iload_n 1, 1) := by decide +kernel
theorem dX10_pass_11 : decode cX10_pass 11 = .ok (.bipush (-2), 2) := by decide +kernel
theorem dX10_pass_13 : decode cX10_pass 13 = .ok (.ireturn, 1) := by decide +kernel
theorem dX10_pass_14 : decode cX10_pass 14 = .ok (.aload_n 0, 1) := by decide +kernel
theorem dX10_pass_15 : decode cX10_pass 15 = .ok (.getfield 13, 3) := by decide +kernel
theorem dX10_pass_18 : decode cX10_pass 18 = .ok (.iload_n 1, 1) := by decide +kernel
theorem dX10_pass_19 : decode cX10_pass 19 = .ok (.iadd, 1) := by decide +kernel
theorem dX10_pass_2 : decode cX10_pass 2 = .ok (.iconst 0, 1) := by decide +kernel
theorem dX10_pass_20 : decode cX10_pass 20 = .ok (.sipush 9999, 3) := by decide +kernel
theorem dX10_pass_23 : decode cX10_pass 23 = .ok (.if_icmp .le 8, 3) := by decide +kernel
theorem dX10_pass_3 : decode cX10_pass 3 = .ok (.bipush 99, 2) := by decide +kernel
theorem dX10_pass_31 : decode cX10_pass 31 = .ok (.aload_n 0, 1) := by decide +kernel
theorem dX10_pass_32 : decode cX10_pass 32 = .ok (.iload_n 1, 1) := by decide +kernel
theorem dX10_pass_33 : decode cX10_pass 33 = .ok (.invokevirtual 354, 3) := by decide +kernel
theorem dX10_pass_36 : decode cX10_pass 36 = .ok (.ireturn, 1) := by decide +kernel
theorem dX10_pass_5 : decode cX10_pass 5 = .ok (.invokevirtual 242, 3) := by decide +kernel
theorem dX10_pass_8 : decode cX10_pass 8 = .ok (.ifCond .ne 6, 3) := by decide +kernel
theorem dX10_peek_0 : decode cX10_peek 0 = .ok (.aload_n 0, 1) := by decide +kernel
theorem dX10_peek_1 : decode cX10_peek 1 = .ok (.getfield 63, 3) := by decide +kernel
theorem dX10_peek_23 : decode cX10_peek 23 = .ok (.iconst (-1), 1) := by decide +kernel
theorem dX10_peek_24 : decode cX10_peek 24 = .ok (.ireturn, 1) := by decide +kernel
theorem dX10_peek_4 : decode cX10_peek 4 = .ok (.aload_n 0, 1) := by decide +kernel
theorem dX10_peek_5 : decode cX10_peek 5 = .ok (.getfield 60, 3) := by decide +kernel
theorem dX10_peek_8 : decode cX10_peek 8 = .ok (.if_icmp .ge 15, 3) := by decide +kernel
theorem dX10_shut_0 : decode cX10_shut 0 = .ok (.aload_n 0, 1) := by decide +kernel
theorem dX10_shut_1 : decode cX10_shut 1 = .ok (.iload_n 1, 1) := by decide +kernel
theorem dX10_shut_2 : decode cX10_shut 2 = .ok (.invokevirtual 250, 3) := by decide +kernel
theorem dX10_shut_5 : decode cX10_shut 5 = .ok (.ifCond .ne 5, 3) := by decide +kernel
theorem dX10_shut_8 : decode cX10_shut 8 = .ok (.iconst (-1), 1) := by decide +kernel
theorem dX10_shut_9 : decode cX10_shut 9 = .ok (.ireturn, 1) := by decide +kernel
theorem dX10_takesClause_0 : decode cX10_takesClause 0 = .ok (.aload_n 0, 1) := by decide +kernel
theorem dX10_takesClause_1 : decode cX10_takesClause 1 = .ok (.iload_n 1, 1) := by decide +kernel
theorem dX10_takesClause_15 : decode cX10_takesClause 15 = .ok (.iconst 0, 1) := by decide +kernel
theorem dX10_takesClause_16 : decode cX10_takesClause 16 = .ok (.ireturn, 1) := by decide +kernel
theorem dX10_takesClause_2 : decode cX10_takesClause 2 = .ok (.invokevirtual 287, 3) := by decide +kernel
theorem dX10_takesClause_5 : decode cX10_takesClause 5 = .ok (.ifCond .eq 10, 3) := by decide +kernel
theorem dX10_takesHead_0 : decode cX10_takesHead 0 = .ok (.aload_n 0, 1) := by decide +kernel
theorem dX10_takesHead_1 : decode cX10_takesHead 1 = .ok (.invokevirtual 254, 3) := by decide +kernel
theorem dX10_takesHead_4 : decode cX10_takesHead 4 = .ok (.lookupswitch 79 #[(100, 50), (115, 64), (119, 36)], 36) := by decide +kernel
theorem dX10_takesHead_83 : decode cX10_takesHead 83 = .ok (.aload_n 0, 1) := by decide +kernel
theorem dX10_takesHead_84 : decode cX10_takesHead 84 = .ok (.getfield 75, 3) := by decide +kernel
theorem dX10_takesHead_87 : decode cX10_takesHead 87 = .ok (.iload_n 1, 1) := by decide +kernel
theorem dX10_takesHead_88 : decode cX10_takesHead 88 = .ok (.iconst 3, 1) := by decide +kernel
theorem dX10_takesHead_89 : decode cX10_takesHead 89 = .ok (.iastore, 1) := by decide +kernel
theorem dX10_takesHead_90 : decode cX10_takesHead 90 = .ok (.aload_n 0, 1) := by decide +kernel
theorem dX10_takesHead_91 : decode cX10_takesHead 91 = .ok (.bipush 11, 2) := by decide +kernel
theorem dX10_takesHead_93 : decode cX10_takesHead 93 = .ok (.iconst 4, 1) := by decide +kernel
theorem dX10_takesHead_94 : decode cX10_takesHead 94 = .ok (.invokevirtual 284, 3) := by decide +kernel
theorem dX10_takesHead_97 : decode cX10_takesHead 97 = .ok (.ireturn, 1) := by decide +kernel
theorem dX10_takesWord_0 : decode cX10_takesWord 0 = .ok (.iconst 0, 1) := by decide +kernel
theorem dX10_takesWord_1 : decode cX10_takesWord 1 = .ok (.istore_n 3, 1) := by decide +kernel
theorem dX10_takesWord_12 : decode cX10_takesWord 12 = .ok (.iload_n 1, 1) := by decide +kernel
theorem dX10_takesWord_13 : decode cX10_takesWord 13 = .ok (.iload_n 3, 1) := by decide +kernel
theorem dX10_takesWord_14 : decode cX10_takesWord 14 = .ok (.iadd, 1) := by decide +kernel
theorem dX10_takesWord_15 : decode cX10_takesWord 15 = .ok (.iaload, 1) := by decide +kernel
theorem dX10_takesWord_16 : decode cX10_takesWord 16 = .ok (.invokevirtual 258, 3) := by decide +kernel
theorem dX10_takesWord_19 : decode cX10_takesWord 19 = .ok (.ifCond .ne 5, 3) := by decide +kernel
theorem dX10_takesWord_2 : decode cX10_takesWord 2 = .ok (.iload_n 3, 1) := by decide +kernel
theorem dX10_takesWord_22 : decode cX10_takesWord 22 = .ok (.iconst 0, 1) := by decide +kernel
theorem dX10_takesWord_23 : decode cX10_takesWord 23 = .ok (.ireturn, 1) := by decide +kernel
theorem dX10_takesWord_3 : decode cX10_takesWord 3 = .ok (.iload_n 2, 1) := by decide +kernel
theorem dX10_takesWord_4 : decode cX10_takesWord 4 = .ok (.if_icmp .ge 26, 3) := by decide +kernel
theorem dX10_takesWord_7 : decode cX10_takesWord 7 = .ok (.aload_n 0, 1) := by decide +kernel
theorem dX10_takesWord_8 : decode cX10_takesWord 8 = .ok (.aload_n 0, 1) := by decide +kernel
theorem dX10_takesWord_9 : decode cX10_takesWord 9 = .ok (.getfield 102, 3) := by decide +kernel
theorem dX10_takes_0 : decode cX10_takes 0 = .ok (.aload_n 0, 1) := by decide +kernel
theorem dX10_takes_1 : decode cX10_takes 1 = .ok (.invokevirtual 254, 3) := by decide +kernel
theorem dX10_takes_4 : decode cX10_takes 4 = .ok (.iload_n 1, 1) := by decide +kernel
theorem dX10_takes_5 : decode cX10_takes 5 = .ok (.if_icmp .eq 5, 3) := by decide +kernel
theorem dX10_takes_8 : decode cX10_takes 8 = .ok (.iconst 0, 1) := by decide +kernel
theorem dX10_takes_9 : decode cX10_takes 9 = .ok (.ireturn, 1) := by decide +kernel
theorem dX10_told_0 : decode cX10_told 0 = .ok (.iload_n 1, 1) := by decide +kernel
theorem dX10_told_1 : decode cX10_told 1 = .ok (.tableswitch 98 0 8 #[51, 56, 61, 66, 71, 78, 83, 88, 93], 51) := by decide +kernel
theorem dX10_told_100 : decode cX10_told 100 = .ok (.ireturn, 1) := by decide +kernel
theorem dX10_told_52 : decode cX10_told 52 = .ok (.aload_n 0, 1) := by decide +kernel
theorem dX10_told_53 : decode cX10_told 53 = .ok (.getfield 13, 3) := by decide +kernel
theorem dX10_told_56 : decode cX10_told 56 = .ok (.ireturn, 1) := by decide +kernel
theorem dX10_told_57 : decode cX10_told 57 = .ok (.aload_n 0, 1) := by decide +kernel
theorem dX10_told_58 : decode cX10_told 58 = .ok (.getfield 16, 3) := by decide +kernel
theorem dX10_told_61 : decode cX10_told 61 = .ok (.ireturn, 1) := by decide +kernel
theorem dX10_told_62 : decode cX10_told 62 = .ok (.aload_n 0, 1) := by decide +kernel
theorem dX10_told_63 : decode cX10_told 63 = .ok (.getfield 19, 3) := by decide +kernel
theorem dX10_told_66 : decode cX10_told 66 = .ok (.ireturn, 1) := by decide +kernel
theorem dX10_told_67 : decode cX10_told 67 = .ok (.aload_n 0, 1) := by decide +kernel
theorem dX10_told_68 : decode cX10_told 68 = .ok (.getfield 22, 3) := by decide +kernel
theorem dX10_told_71 : decode cX10_told 71 = .ok (.ireturn, 1) := by decide +kernel
theorem dX10_told_72 : decode cX10_told 72 = .ok (.aload_n 0, 1) := by decide +kernel
theorem dX10_told_73 : decode cX10_told 73 = .ok (.iconst 2, 1) := by decide +kernel
theorem dX10_told_74 : decode cX10_told 74 = .ok (.iconst 2, 1) := by decide +kernel
theorem dX10_told_75 : decode cX10_told 75 = .ok (.invokevirtual 312, 3) := by decide +kernel
theorem dX10_told_78 : decode cX10_told 78 = .ok (.ireturn, 1) := by decide +kernel
theorem dX10_told_79 : decode cX10_told 79 = .ok (.aload_n 0, 1) := by decide +kernel
theorem dX10_told_80 : decode cX10_told 80 = .ok (.invokevirtual 315, 3) := by decide +kernel
theorem dX10_told_83 : decode cX10_told 83 = .ok (.ireturn, 1) := by decide +kernel
theorem dX10_told_84 : decode cX10_told 84 = .ok (.aload_n 0, 1) := by decide +kernel
theorem dX10_told_85 : decode cX10_told 85 = .ok (.getfield 25, 3) := by decide +kernel
theorem dX10_told_88 : decode cX10_told 88 = .ok (.ireturn, 1) := by decide +kernel
theorem dX10_told_89 : decode cX10_told 89 = .ok (.aload_n 0, 1) := by decide +kernel
theorem dX10_told_90 : decode cX10_told 90 = .ok (.getfield 28, 3) := by decide +kernel
theorem dX10_told_93 : decode cX10_told 93 = .ok (.ireturn, 1) := by decide +kernel
theorem dX10_told_94 : decode cX10_told 94 = .ok (.aload_n 0, 1) := by decide +kernel
theorem dX10_told_95 : decode cX10_told 95 = .ok (.invokevirtual 347, 3) := by decide +kernel
theorem dX10_told_98 : decode cX10_told 98 = .ok (.ireturn, 1) := by decide +kernel
theorem dX10_told_99 : decode cX10_told 99 = .ok (.iconst (-1), 1) := by decide +kernel
theorem dX1_beginFromNow_0 : decode cX1_beginFromNow 0 = .ok (.aload_n 0, 1) := by decide +kernel
theorem dX1_beginFromNow_1 : decode cX1_beginFromNow 1 = .ok (.aload_n 0, 1) := by decide +kernel
theorem dX1_beginFromNow_11 : decode cX1_beginFromNow 11 = .ok (.aload_n 0, 1) := by decide +kernel
theorem dX1_beginFromNow_12 : decode cX1_beginFromNow 12 = .ok (.aload_n 0, 1) := by decide +kernel
theorem dX1_beginFromNow_13 : decode cX1_beginFromNow 13 = .ok (.getfield 44, 3) := by decide +kernel
theorem dX1_beginFromNow_16 : decode cX1_beginFromNow 16 = .ok (.getfield 51, 3) := by decide +kernel
theorem dX1_beginFromNow_19 : decode cX1_beginFromNow 19 = .ok (.invokevirtual 52, 3) := by decide +kernel
theorem dX1_beginFromNow_2 : decode cX1_beginFromNow 2 = .ok (.getfield 44, 3) := by decide +kernel
theorem dX1_beginFromNow_22 : decode cX1_beginFromNow 22 = .ok (.aload_n 0, 1) := by decide +kernel
theorem dX1_beginFromNow_23 : decode cX1_beginFromNow 23 = .ok (.invokevirtual 55, 3) := by decide +kernel
theorem dX1_beginFromNow_26 : decode cX1_beginFromNow 26 = .ok (.return_, 1) := by decide +kernel
theorem dX1_beginFromNow_5 : decode cX1_beginFromNow 5 = .ok (.getfield 48, 3) := by decide +kernel
theorem dX1_beginFromNow_8 : decode cX1_beginFromNow 8 = .ok (.putfield 15, 3) := by decide +kernel
theorem dX1_harmOfAll_0 : decode cX1_harmOfAll 0 = .ok (.iconst 0, 1) := by decide +kernel
theorem dX1_harmOfAll_1 : decode cX1_harmOfAll 1 = .ok (.istore_n 3, 1) := by decide +kernel
theorem dX1_harmOfAll_11 : decode cX1_harmOfAll 11 = .ok (.getfield 58, 3) := by decide +kernel
theorem dX1_harmOfAll_14 : decode cX1_harmOfAll 14 = .ok (.if_icmp .ge 20, 3) := by decide +kernel
theorem dX1_harmOfAll_2 : decode cX1_harmOfAll 2 = .ok (.iconst 0, 1) := by decide +kernel
theorem dX1_harmOfAll_3 : decode cX1_harmOfAll 3 = .ok (.istore 4, 2) := by decide +kernel
theorem dX1_harmOfAll_34 : decode cX1_harmOfAll 34 = .ok (.iload_n 3, 1) := by decide +kernel
theorem dX1_harmOfAll_35 : decode cX1_harmOfAll 35 = .ok (.ireturn, 1) := by decide +kernel
theorem dX1_harmOfAll_5 : decode cX1_harmOfAll 5 = .ok (.iload 4, 2) := by decide +kernel
theorem dX1_harmOfAll_7 : decode cX1_harmOfAll 7 = .ok (.aload_n 0, 1) := by decide +kernel
theorem dX1_harmOfAll_8 : decode cX1_harmOfAll 8 = .ok (.getfield 44, 3) := by decide +kernel
theorem dX1_nobodyShuts_0 : decode cX1_nobodyShuts 0 = .ok (.iconst 0, 1) := by decide +kernel
theorem dX1_nobodyShuts_1 : decode cX1_nobodyShuts 1 = .ok (.istore_n 1, 1) := by decide +kernel
theorem dX1_nobodyShuts_10 : decode cX1_nobodyShuts 10 = .ok (.if_icmp .ge 36, 3) := by decide +kernel
theorem dX1_nobodyShuts_2 : decode cX1_nobodyShuts 2 = .ok (.iload_n 1, 1) := by decide +kernel
theorem dX1_nobodyShuts_3 : decode cX1_nobodyShuts 3 = .ok (.aload_n 0, 1) := by decide +kernel
theorem dX1_nobodyShuts_4 : decode cX1_nobodyShuts 4 = .ok (.getfield 44, 3) := by decide +kernel
theorem dX1_nobodyShuts_46 : decode cX1_nobodyShuts 46 = .ok (.return_, 1) := by decide +kernel
theorem dX1_nobodyShuts_7 : decode cX1_nobodyShuts 7 = .ok (.getfield 58, 3) := by decide +kernel
theorem dX1_turnTo_0 : decode cX1_turnTo 0 = .ok (.iload_n 1, 1) := by decide +kernel
theorem dX1_turnTo_1 : decode cX1_turnTo 1 = .ok (.ifCond .lt 8, 3) := by decide +kernel
theorem dX1_turnTo_10 : decode cX1_turnTo 10 = .ok (.aload_n 0, 1) := by decide +kernel
theorem dX1_turnTo_11 : decode cX1_turnTo 11 = .ok (.iload_n 1, 1) := by decide +kernel
theorem dX1_turnTo_12 : decode cX1_turnTo 12 = .ok (.putfield 9, 3) := by decide +kernel
theorem dX1_turnTo_15 : decode cX1_turnTo 15 = .ok (.aload_n 0, 1) := by decide +kernel
theorem dX1_turnTo_16 : decode cX1_turnTo 16 = .ok (.getfield 40, 3) := by decide +kernel
theorem dX1_turnTo_19 : decode cX1_turnTo 19 = .ok (.aload_n 0, 1) := by decide +kernel
theorem dX1_turnTo_20 : decode cX1_turnTo 20 = .ok (.getfield 9, 3) := by decide +kernel
theorem dX1_turnTo_23 : decode cX1_turnTo 23 = .ok (.baload, 1) := by decide +kernel
theorem dX1_turnTo_24 : decode cX1_turnTo 24 = .ok (.ifCond .eq 4, 3) := by decide +kernel
theorem dX1_turnTo_28 : decode cX1_turnTo 28 = .ok (.iconst 0, 1) := by decide +kernel
theorem dX1_turnTo_29 : decode cX1_turnTo 29 = .ok (.istore_n 2, 1) := by decide +kernel
theorem dX1_turnTo_30 : decode cX1_turnTo 30 = .ok (.iload_n 2, 1) := by decide +kernel
theorem dX1_turnTo_31 : decode cX1_turnTo 31 = .ok (.aload_n 0, 1) := by decide +kernel
theorem dX1_turnTo_32 : decode cX1_turnTo 32 = .ok (.getfield 44, 3) := by decide +kernel
theorem dX1_turnTo_35 : decode cX1_turnTo 35 = .ok (.getfield 58, 3) := by decide +kernel
theorem dX1_turnTo_38 : decode cX1_turnTo 38 = .ok (.if_icmp .ge 14, 3) := by decide +kernel
theorem dX1_turnTo_4 : decode cX1_turnTo 4 = .ok (.iload_n 1, 1) := by decide +kernel
theorem dX1_turnTo_5 : decode cX1_turnTo 5 = .ok (.iconst 4, 1) := by decide +kernel
theorem dX1_turnTo_52 : decode cX1_turnTo 52 = .ok (.aload_n 0, 1) := by decide +kernel
theorem dX1_turnTo_53 : decode cX1_turnTo 53 = .ok (.getfield 40, 3) := by decide +kernel
theorem dX1_turnTo_56 : decode cX1_turnTo 56 = .ok (.aload_n 0, 1) := by decide +kernel
theorem dX1_turnTo_57 : decode cX1_turnTo 57 = .ok (.getfield 9, 3) := by decide +kernel
theorem dX1_turnTo_6 : decode cX1_turnTo 6 = .ok (.if_icmp .lt 4, 3) := by decide +kernel
theorem dX1_turnTo_60 : decode cX1_turnTo 60 = .ok (.iconst 1, 1) := by decide +kernel
theorem dX1_turnTo_61 : decode cX1_turnTo 61 = .ok (.bastore, 1) := by decide +kernel
theorem dX1_turnTo_62 : decode cX1_turnTo 62 = .ok (.return_, 1) := by decide +kernel
theorem dX2_becomeBare_0 : decode cX2_becomeBare 0 = .ok (.aload_n 0, 1) := by decide +kernel
theorem dX2_becomeBare_1 : decode cX2_becomeBare 1 = .ok (.iconst 2, 1) := by decide +kernel
theorem dX2_becomeBare_11 : decode cX2_becomeBare 11 = .ok (.aload_n 0, 1) := by decide +kernel
theorem dX2_becomeBare_12 : decode cX2_becomeBare 12 = .ok (.iconst 0, 1) := by decide +kernel
theorem dX2_becomeBare_13 : decode cX2_becomeBare 13 = .ok (.putfield 16, 3) := by decide +kernel
theorem dX2_becomeBare_16 : decode cX2_becomeBare 16 = .ok (.aload_n 0, 1) := by decide +kernel
theorem dX2_becomeBare_17 : decode cX2_becomeBare 17 = .ok (.iconst 0, 1) := by decide +kernel
theorem dX2_becomeBare_18 : decode cX2_becomeBare 18 = .ok (.putfield 26, 3) := by decide +kernel
theorem dX2_becomeBare_2 : decode cX2_becomeBare 2 = .ok (.putfield 7, 3) := by decide +kernel
theorem dX2_becomeBare_21 : decode cX2_becomeBare 21 = .ok (.return_, 1) := by decide +kernel
theorem dX2_becomeBare_5 : decode cX2_becomeBare 5 = .ok (.aload_n 0, 1) := by decide +kernel
theorem dX2_becomeBare_6 : decode cX2_becomeBare 6 = .ok (.bipush 15, 2) := by decide +kernel
theorem dX2_becomeBare_8 : decode cX2_becomeBare 8 = .ok (.putfield 13, 3) := by decide +kernel
theorem dX5_goOn_0 : decode cX5_goOn 0 = .ok (.aload_n 0, 1) := by decide +kernel
theorem dX5_goOn_1 : decode cX5_goOn 1 = .ok (.dup, 1) := by decide +kernel
theorem dX5_goOn_10 : decode cX5_goOn 10 = .ok (.aload_n 0, 1) := by decide +kernel
theorem dX5_goOn_11 : decode cX5_goOn 11 = .ok (.aload_n 0, 1) := by decide +kernel
theorem dX5_goOn_12 : decode cX5_goOn 12 = .ok (.getfield 17, 3) := by decide +kernel
theorem dX5_goOn_15 : decode cX5_goOn 15 = .ok (.ifCond .lt 35, 3) := by decide +kernel
theorem dX5_goOn_18 : decode cX5_goOn 18 = .ok (.aload_n 0, 1) := by decide +kernel
theorem dX5_goOn_19 : decode cX5_goOn 19 = .ok (.getfield 17, 3) := by decide +kernel
theorem dX5_goOn_2 : decode cX5_goOn 2 = .ok (.getfield 17, 3) := by decide +kernel
theorem dX5_goOn_22 : decode cX5_goOn 22 = .ok (.aload_n 0, 1) := by decide +kernel
theorem dX5_goOn_23 : decode cX5_goOn 23 = .ok (.getfield 13, 3) := by decide +kernel
theorem dX5_goOn_26 : decode cX5_goOn 26 = .ok (.if_icmp .ge 24, 3) := by decide +kernel
theorem dX5_goOn_5 : decode cX5_goOn 5 = .ok (.iconst 1, 1) := by decide +kernel
theorem dX5_goOn_50 : decode cX5_goOn 50 = .ok (.iconst (-1), 1) := by decide +kernel
theorem dX5_goOn_51 : decode cX5_goOn 51 = .ok (.putfield 20, 3) := by decide +kernel
theorem dX5_goOn_54 : decode cX5_goOn 54 = .ok (.return_, 1) := by decide +kernel
theorem dX5_goOn_6 : decode cX5_goOn 6 = .ok (.iadd, 1) := by decide +kernel
theorem dX5_goOn_7 : decode cX5_goOn 7 = .ok (.putfield 17, 3) := by decide +kernel
theorem dX5_readClause_0 : decode cX5_readClause 0 = .ok (.aload_n 0, 1) := by decide +kernel
theorem dX5_readClause_1 : decode cX5_readClause 1 = .ok (.getfield 20, 3) := by decide +kernel
theorem dX5_readClause_10 : decode cX5_readClause 10 = .ok (.aload_n 2, 1) := by decide +kernel
theorem dX5_readClause_11 : decode cX5_readClause 11 = .ok (.invokevirtual 48, 3) := by decide +kernel
theorem dX5_readClause_14 : decode cX5_readClause 14 = .ok (.ifCond .ne 11, 3) := by decide +kernel
theorem dX5_readClause_25 : decode cX5_readClause 25 = .ok (.iconst 0, 1) := by decide +kernel
theorem dX5_readClause_26 : decode cX5_readClause 26 = .ok (.ireturn, 1) := by decide +kernel
theorem dX5_readClause_4 : decode cX5_readClause 4 = .ok (.istore_n 1, 1) := by decide +kernel
theorem dX5_readClause_5 : decode cX5_readClause 5 = .ok (.iload_n 1, 1) := by decide +kernel
theorem dX5_readClause_6 : decode cX5_readClause 6 = .ok (.invokestatic 44, 3) := by decide +kernel
theorem dX5_readClause_9 : decode cX5_readClause 9 = .ok (.astore_n 2, 1) := by decide +kernel
theorem dX5_readInto_0 : decode cX5_readInto 0 = .ok (.aload_n 0, 1) := by decide +kernel
theorem dX5_readInto_1 : decode cX5_readInto 1 = .ok (.aload_n 1, 1) := by decide +kernel
theorem dX5_readInto_10 : decode cX5_readInto 10 = .ok (.iconst (-1), 1) := by decide +kernel
theorem dX5_readInto_11 : decode cX5_readInto 11 = .ok (.putfield 17, 3) := by decide +kernel
theorem dX5_readInto_14 : decode cX5_readInto 14 = .ok (.aload_n 0, 1) := by decide +kernel
theorem dX5_readInto_15 : decode cX5_readInto 15 = .ok (.invokevirtual 33, 3) := by decide +kernel
theorem dX5_readInto_18 : decode cX5_readInto 18 = .ok (.iconst 1, 1) := by decide +kernel
theorem dX5_readInto_19 : decode cX5_readInto 19 = .ok (.istore_n 2, 1) := by decide +kernel
theorem dX5_readInto_2 : decode cX5_readInto 2 = .ok (.putfield 26, 3) := by decide +kernel
theorem dX5_readInto_20 : decode cX5_readInto 20 = .ok (.iload_n 2, 1) := by decide +kernel
theorem dX5_readInto_21 : decode cX5_readInto 21 = .ok (.bipush 10, 2) := by decide +kernel
theorem dX5_readInto_23 : decode cX5_readInto 23 = .ok (.if_icmp .gt 45, 3) := by decide +kernel
theorem dX5_readInto_26 : decode cX5_readInto 26 = .ok (.aload_n 0, 1) := by decide +kernel
theorem dX5_readInto_27 : decode cX5_readInto 27 = .ok (.invokevirtual 36, 3) := by decide +kernel
theorem dX5_readInto_30 : decode cX5_readInto 30 = .ok (.ifCond .ne 5, 3) := by decide +kernel
theorem dX5_readInto_33 : decode cX5_readInto 33 = .ok (.iconst 0, 1) := by decide +kernel
theorem dX5_readInto_34 : decode cX5_readInto 34 = .ok (.ireturn, 1) := by decide +kernel
theorem dX5_readInto_5 : decode cX5_readInto 5 = .ok (.aload_n 1, 1) := by decide +kernel
theorem dX5_readInto_6 : decode cX5_readInto 6 = .ok (.invokevirtual 30, 3) := by decide +kernel
theorem dX5_readInto_9 : decode cX5_readInto 9 = .ok (.aload_n 0, 1) := by decide +kernel
theorem dX5_wordFrom_0 : decode cX5_wordFrom 0 = .ok (.iload_n 0, 1) := by decide +kernel
theorem dX5_wordFrom_1 : decode cX5_wordFrom 1 = .ok (.lookupswitch 55 #[(100, 46), (108, 52), (115, 49), (119, 43)], 43) := by decide +kernel
theorem dX5_wordFrom_56 : decode cX5_wordFrom 56 = .ok (.ldc 82, 2) := by decide +kernel
theorem dX5_wordFrom_58 : decode cX5_wordFrom 58 = .ok (.areturn, 1) := by decide +kernel
theorem dX7_openBits_0 : decode cX7_openBits 0 = .ok (.iconst 0, 1) := by decide +kernel
theorem dX7_openBits_1 : decode cX7_openBits 1 = .ok (.istore_n 1, 1) := by decide +kernel
theorem dX7_openBits_2 : decode cX7_openBits 2 = .ok (.iconst 0, 1) := by decide +kernel
theorem dX7_openBits_3 : decode cX7_openBits 3 = .ok (.istore_n 2, 1) := by decide +kernel
theorem dX7_openBits_36 : decode cX7_openBits 36 = .ok (.iload_n 1, 1) := by decide +kernel
theorem dX7_openBits_37 : decode cX7_openBits 37 = .ok (.ireturn, 1) := by decide +kernel
theorem dX7_openBits_4 : decode cX7_openBits 4 = .ok (.iload_n 2, 1) := by decide +kernel
theorem dX7_openBits_5 : decode cX7_openBits 5 = .ok (.aload_n 0, 1) := by decide +kernel
theorem dX7_openBits_6 : decode cX7_openBits 6 = .ok (.getfield 17, 3) := by decide +kernel
theorem dX7_openBits_9 : decode cX7_openBits 9 = .ok (.if_icmp .ge 27, 3) := by decide +kernel
theorem dX9_go_0 : decode cX9_go 0 = .ok (.aload_n 0, 1) := by decide +kernel
theorem dX9_go_1 : decode cX9_go 1 = .ok (.iload_n 1, 1) := by decide +kernel
theorem dX9_go_10 : decode cX9_go 10 = .ok (.dup, 1) := by decide +kernel
theorem dX9_go_11 : decode cX9_go 11 = .ok (.getfield 159, 3) := by decide +kernel
theorem dX9_go_14 : decode cX9_go 14 = .ok (.iload_n 2, 1) := by decide +kernel
theorem dX9_go_15 : decode cX9_go 15 = .ok (.iadd, 1) := by decide +kernel
theorem dX9_go_16 : decode cX9_go 16 = .ok (.putfield 159, 3) := by decide +kernel
theorem dX9_go_19 : decode cX9_go 19 = .ok (.aload_n 0, 1) := by decide +kernel
theorem dX9_go_2 : decode cX9_go 2 = .ok (.invokevirtual 176, 3) := by decide +kernel
theorem dX9_go_20 : decode cX9_go 20 = .ok (.getfield 31, 3) := by decide +kernel
theorem dX9_go_23 : decode cX9_go 23 = .ok (.dup, 1) := by decide +kernel
theorem dX9_go_24 : decode cX9_go 24 = .ok (.getfield 130, 3) := by decide +kernel
theorem dX9_go_27 : decode cX9_go 27 = .ok (.iload_n 1, 1) := by decide +kernel
theorem dX9_go_28 : decode cX9_go 28 = .ok (.iadd, 1) := by decide +kernel
theorem dX9_go_29 : decode cX9_go 29 = .ok (.putfield 130, 3) := by decide +kernel
theorem dX9_go_32 : decode cX9_go 32 = .ok (.iload_n 2, 1) := by decide +kernel
theorem dX9_go_33 : decode cX9_go 33 = .ok (.ireturn, 1) := by decide +kernel
theorem dX9_go_5 : decode cX9_go 5 = .ok (.istore_n 2, 1) := by decide +kernel
theorem dX9_go_6 : decode cX9_go 6 = .ok (.aload_n 0, 1) := by decide +kernel
theorem dX9_go_7 : decode cX9_go 7 = .ok (.getfield 31, 3) := by decide +kernel
theorem dX9_house_0 : decode cX9_house 0 = .ok (.aload_n 0, 1) := by decide +kernel
theorem dX9_house_1 : decode cX9_house 1 = .ok (.getfield 17, 3) := by decide +kernel
theorem dX9_house_12 : decode cX9_house 12 = .ok (.aload_n 0, 1) := by decide +kernel
theorem dX9_house_13 : decode cX9_house 13 = .ok (.getfield 24, 3) := by decide +kernel
theorem dX9_house_16 : decode cX9_house 16 = .ok (.aload_n 0, 1) := by decide +kernel
theorem dX9_house_17 : decode cX9_house 17 = .ok (.getfield 13, 3) := by decide +kernel
theorem dX9_house_20 : decode cX9_house 20 = .ok (.aload_n 0, 1) := by decide +kernel
theorem dX9_house_21 : decode cX9_house 21 = .ok (.getfield 17, 3) := by decide +kernel
theorem dX9_house_24 : decode cX9_house 24 = .ok (.aaload, 1) := by decide +kernel
theorem dX9_house_25 : decode cX9_house 25 = .ok (.invokevirtual 152, 3) := by decide +kernel
theorem dX9_house_28 : decode cX9_house 28 = .ok (.istore_n 1, 1) := by decide +kernel
theorem dX9_house_29 : decode cX9_house 29 = .ok (.aload_n 0, 1) := by decide +kernel
theorem dX9_house_30 : decode cX9_house 30 = .ok (.getfield 24, 3) := by decide +kernel
theorem dX9_house_33 : decode cX9_house 33 = .ok (.iconst 0, 1) := by decide +kernel
theorem dX9_house_34 : decode cX9_house 34 = .ok (.putfield 146, 3) := by decide +kernel
theorem dX9_house_37 : decode cX9_house 37 = .ok (.iload_n 1, 1) := by decide +kernel
theorem dX9_house_38 : decode cX9_house 38 = .ok (.ifCond .ne 14, 3) := by decide +kernel
theorem dX9_house_4 : decode cX9_house 4 = .ok (.bipush 6, 2) := by decide +kernel
theorem dX9_house_41 : decode cX9_house 41 = .ok (.bipush (-10), 2) := by decide +kernel
theorem dX9_house_43 : decode cX9_house 43 = .ok (.aload_n 0, 1) := by decide +kernel
theorem dX9_house_44 : decode cX9_house 44 = .ok (.getfield 24, 3) := by decide +kernel
theorem dX9_house_47 : decode cX9_house 47 = .ok (.getfield 156, 3) := by decide +kernel
theorem dX9_house_50 : decode cX9_house 50 = .ok (.isub, 1) := by decide +kernel
theorem dX9_house_51 : decode cX9_house 51 = .ok (.ireturn, 1) := by decide +kernel
theorem dX9_house_6 : decode cX9_house 6 = .ok (.if_icmp .lt 6, 3) := by decide +kernel
theorem dX9_pass_0 : decode cX9_pass 0 = .ok (.iload_n 1, 1) := by decide +kernel
theorem dX9_pass_1 : decode cX9_pass 1 = .ok (.iconst 0, 1) := by decide +kernel
theorem dX9_pass_10 : decode cX9_pass 10 = .ok (.bipush (-2), 2) := by decide +kernel
theorem dX9_pass_12 : decode cX9_pass 12 = .ok (.ireturn, 1) := by decide +kernel
theorem dX9_pass_13 : decode cX9_pass 13 = .ok (.aload_n 0, 1) := by decide +kernel
theorem dX9_pass_14 : decode cX9_pass 14 = .ok (.getfield 31, 3) := by decide +kernel
theorem dX9_pass_17 : decode cX9_pass 17 = .ok (.getfield 130, 3) := by decide +kernel
theorem dX9_pass_2 : decode cX9_pass 2 = .ok (.bipush 99, 2) := by decide +kernel
theorem dX9_pass_20 : decode cX9_pass 20 = .ok (.iload_n 1, 1) := by decide +kernel
theorem dX9_pass_21 : decode cX9_pass 21 = .ok (.iadd, 1) := by decide +kernel
theorem dX9_pass_22 : decode cX9_pass 22 = .ok (.sipush 9999, 3) := by decide +kernel
theorem dX9_pass_25 : decode cX9_pass 25 = .ok (.if_icmp .le 6, 3) := by decide +kernel
theorem dX9_pass_31 : decode cX9_pass 31 = .ok (.aload_n 0, 1) := by decide +kernel
theorem dX9_pass_32 : decode cX9_pass 32 = .ok (.getfield 47, 3) := by decide +kernel
theorem dX9_pass_35 : decode cX9_pass 35 = .ok (.invokevirtual 127, 3) := by decide +kernel
theorem dX9_pass_38 : decode cX9_pass 38 = .ok (.aload_n 0, 1) := by decide +kernel
theorem dX9_pass_39 : decode cX9_pass 39 = .ok (.iload_n 1, 1) := by decide +kernel
theorem dX9_pass_4 : decode cX9_pass 4 = .ok (.invokestatic 68, 3) := by decide +kernel
theorem dX9_pass_40 : decode cX9_pass 40 = .ok (.invokevirtual 169, 3) := by decide +kernel
theorem dX9_pass_43 : decode cX9_pass 43 = .ok (.ireturn, 1) := by decide +kernel
theorem dX9_pass_7 : decode cX9_pass 7 = .ok (.ifCond .ne 6, 3) := by decide +kernel
theorem dX9_shut_0 : decode cX9_shut 0 = .ok (.aload_n 0, 1) := by decide +kernel
theorem dX9_shut_1 : decode cX9_shut 1 = .ok (.getfield 31, 3) := by decide +kernel
theorem dX9_shut_11 : decode cX9_shut 11 = .ok (.iconst (-1), 1) := by decide +kernel
theorem dX9_shut_12 : decode cX9_shut 12 = .ok (.ireturn, 1) := by decide +kernel
theorem dX9_shut_4 : decode cX9_shut 4 = .ok (.iload_n 1, 1) := by decide +kernel
theorem dX9_shut_5 : decode cX9_shut 5 = .ok (.invokevirtual 92, 3) := by decide +kernel
theorem dX9_shut_8 : decode cX9_shut 8 = .ok (.ifCond .ne 5, 3) := by decide +kernel
theorem dX9_told_0 : decode cX9_told 0 = .ok (.iload_n 1, 1) := by decide +kernel
theorem dX9_told_1 : decode cX9_told 1 = .ok (.tableswitch 129 0 8 #[51, 59, 67, 75, 83, 94, 105, 113, 121], 51) := by decide +kernel
theorem dX9_told_102 : decode cX9_told 102 = .ok (.getfield 162, 3) := by decide +kernel
theorem dX9_told_105 : decode cX9_told 105 = .ok (.ireturn, 1) := by decide +kernel
theorem dX9_told_106 : decode cX9_told 106 = .ok (.aload_n 0, 1) := by decide +kernel
theorem dX9_told_107 : decode cX9_told 107 = .ok (.getfield 31, 3) := by decide +kernel
theorem dX9_told_110 : decode cX9_told 110 = .ok (.getfield 114, 3) := by decide +kernel
theorem dX9_told_113 : decode cX9_told 113 = .ok (.ireturn, 1) := by decide +kernel
theorem dX9_told_114 : decode cX9_told 114 = .ok (.aload_n 0, 1) := by decide +kernel
theorem dX9_told_115 : decode cX9_told 115 = .ok (.getfield 31, 3) := by decide +kernel
theorem dX9_told_118 : decode cX9_told 118 = .ok (.getfield 115, 3) := by decide +kernel
theorem dX9_told_121 : decode cX9_told 121 = .ok (.ireturn, 1) := by decide +kernel
theorem dX9_told_122 : decode cX9_told 122 = .ok (.aload_n 0, 1) := by decide +kernel
theorem dX9_told_123 : decode cX9_told 123 = .ok (.getfield 31, 3) := by decide +kernel
theorem dX9_told_126 : decode cX9_told 126 = .ok (.invokevirtual 165, 3) := by decide +kernel
theorem dX9_told_129 : decode cX9_told 129 = .ok (.ireturn, 1) := by decide +kernel
theorem dX9_told_130 : decode cX9_told 130 = .ok (.iconst (-1), 1) := by decide +kernel
theorem dX9_told_131 : decode cX9_told 131 = .ok (.ireturn, 1) := by decide +kernel
theorem dX9_told_52 : decode cX9_told 52 = .ok (.aload_n 0, 1) := by decide +kernel
theorem dX9_told_53 : decode cX9_told 53 = .ok (.getfield 31, 3) := by decide +kernel
theorem dX9_told_56 : decode cX9_told 56 = .ok (.getfield 130, 3) := by decide +kernel
theorem dX9_told_59 : decode cX9_told 59 = .ok (.ireturn, 1) := by decide +kernel
theorem dX9_told_60 : decode cX9_told 60 = .ok (.aload_n 0, 1) := by decide +kernel
theorem dX9_told_61 : decode cX9_told 61 = .ok (.getfield 31, 3) := by decide +kernel
theorem dX9_told_64 : decode cX9_told 64 = .ok (.getfield 159, 3) := by decide +kernel
theorem dX9_told_67 : decode cX9_told 67 = .ok (.ireturn, 1) := by decide +kernel
theorem dX9_told_68 : decode cX9_told 68 = .ok (.aload_n 0, 1) := by decide +kernel
theorem dX9_told_69 : decode cX9_told 69 = .ok (.getfield 31, 3) := by decide +kernel
theorem dX9_told_72 : decode cX9_told 72 = .ok (.getfield 140, 3) := by decide +kernel
theorem dX9_told_75 : decode cX9_told 75 = .ok (.ireturn, 1) := by decide +kernel
theorem dX9_told_76 : decode cX9_told 76 = .ok (.aload_n 0, 1) := by decide +kernel
theorem dX9_told_77 : decode cX9_told 77 = .ok (.getfield 31, 3) := by decide +kernel
theorem dX9_told_80 : decode cX9_told 80 = .ok (.getfield 143, 3) := by decide +kernel
theorem dX9_told_83 : decode cX9_told 83 = .ok (.ireturn, 1) := by decide +kernel
theorem dX9_told_84 : decode cX9_told 84 = .ok (.aload_n 0, 1) := by decide +kernel
theorem dX9_told_85 : decode cX9_told 85 = .ok (.getfield 31, 3) := by decide +kernel
theorem dX9_told_88 : decode cX9_told 88 = .ok (.getfield 116, 3) := by decide +kernel
theorem dX9_told_91 : decode cX9_told 91 = .ok (.getfield 120, 3) := by decide +kernel
theorem dX9_told_94 : decode cX9_told 94 = .ok (.ireturn, 1) := by decide +kernel
theorem dX9_told_95 : decode cX9_told 95 = .ok (.aload_n 0, 1) := by decide +kernel
theorem dX9_told_96 : decode cX9_told 96 = .ok (.getfield 31, 3) := by decide +kernel
theorem dX9_told_99 : decode cX9_told 99 = .ok (.getfield 116, 3) := by decide +kernel
theorem dX9_wetMore_0 : decode cX9_wetMore 0 = .ok (.aload_n 0, 1) := by decide +kernel
theorem dX9_wetMore_1 : decode cX9_wetMore 1 = .ok (.getfield 47, 3) := by decide +kernel
theorem dX9_wetMore_11 : decode cX9_wetMore 11 = .ok (.aload_n 0, 1) := by decide +kernel
theorem dX9_wetMore_12 : decode cX9_wetMore 12 = .ok (.getfield 31, 3) := by decide +kernel
theorem dX9_wetMore_15 : decode cX9_wetMore 15 = .ok (.getfield 130, 3) := by decide +kernel
theorem dX9_wetMore_18 : decode cX9_wetMore 18 = .ok (.iload_n 1, 1) := by decide +kernel
theorem dX9_wetMore_19 : decode cX9_wetMore 19 = .ok (.iadd, 1) := by decide +kernel
theorem dX9_wetMore_20 : decode cX9_wetMore 20 = .ok (.invokevirtual 321, 3) := by decide +kernel
theorem dX9_wetMore_23 : decode cX9_wetMore 23 = .ok (.istore_n 2, 1) := by decide +kernel
theorem dX9_wetMore_24 : decode cX9_wetMore 24 = .ok (.iload_n 2, 1) := by decide +kernel
theorem dX9_wetMore_25 : decode cX9_wetMore 25 = .ok (.ldc_w 324, 3) := by decide +kernel
theorem dX9_wetMore_28 : decode cX9_wetMore 28 = .ok (.aload_n 0, 1) := by decide +kernel
theorem dX9_wetMore_29 : decode cX9_wetMore 29 = .ok (.getfield 31, 3) := by decide +kernel
theorem dX9_wetMore_32 : decode cX9_wetMore 32 = .ok (.getfield 159, 3) := by decide +kernel
theorem dX9_wetMore_35 : decode cX9_wetMore 35 = .ok (.isub, 1) := by decide +kernel
theorem dX9_wetMore_36 : decode cX9_wetMore 36 = .ok (.invokestatic 325, 3) := by decide +kernel
theorem dX9_wetMore_39 : decode cX9_wetMore 39 = .ok (.ireturn, 1) := by decide +kernel
theorem dX9_wetMore_4 : decode cX9_wetMore 4 = .ok (.aload_n 0, 1) := by decide +kernel
theorem dX9_wetMore_5 : decode cX9_wetMore 5 = .ok (.getfield 31, 3) := by decide +kernel
theorem dX9_wetMore_8 : decode cX9_wetMore 8 = .ok (.getfield 130, 3) := by decide +kernel
set_option maxHeartbeats 8000000 in
set_option maxRecDepth 100000 in
theorem zc_X10_feed_0 (l : Launch) (D : va_G) (y : Nat → ClassId) (a0 : Nat) (p1 : Int32) (w2 : Value) (w3 : Value) (w4 : Value) (w5 : Value) (w6 : Value) (w7 : Value) (w8 : Value) (w9 : Value) (w10 : Value) (w11 : Value) (w12 : Value) (w13 : Value) (w14 : Value) (w15 : Value) (w16 : Value) (w17 : Value) (w18 : Value) (w19 : Value) (a20 : Nat) (w21 : Value) (w22 : Value) (w23 : Value) (w24 : Value) (w25 : Value) (w26 : Value) (w27 : Value) (w28 : Value) (w29 : Value) (w30 : Value) (w31 : Value) (w32 : Value) (w33 : Value) (w34 : Value) (w35 : Value) (w36 : Value) (w37 : Value) (w38 : Value) (w39 : Value) (w40 : Value) (w41 : Value) (w42 : Value) (w43 : Value) (w44 : Value) (w45 : Value) (w46 : Value) (w47 : Value) (w48 : Value) (w49 : Value) (w50 : Value) (w51 : Value) (w52 : Value) (w53 : Value) (w54 : Value) (w55 : Value) (w56 : Value) (w57 : Value) (w58 : Value) (w59 : Value) (w60 : Value) (w61 : Value) (w62 : Value) (w63 : Value) (w64 : Value) (w65 : Value) (w66 : Value) (w67 : Value) (w68 : Value) (w69 : Value) (w70 : Value) (w71 : Value) (w72 : Value) (w73 : Value) (w74 : Value) (w75 : Value) (w76 : Value) : zM l D y yX10_feed (Cond.code yX10_feed cX10_feed 2 (some .int) :: zT) { frames := 1, cells := 0, slots := 0, locals := 23 } [.ref a0, .int p1] [(a0, .inr (9, [w2, w3, w4, w5, w6, w7, w8, w9, w10, w11, w12, w13, w14, w15, w16, w17, .int 0, w18, w19, .ref a20, w21, w22, w23, w24, w25, w26, w27, w28, w29, w30, w31, w32, w33, w34, w35, w36, w37, w38, w39, w40, w41, w42, w43, w44, w45, w46, w47, w48, w49, w50, w51, w52, w53, w54, w55, w56, w57, w58, w59, w60, w61, w62, w63, w64, w65, w66, w67, w68, w69, w70, w71, w72, w73, w74, w75, w76])), (a20, .inl (y 0, 100, .inl (fun _ => 0)))] (zQi (S := Unit) D (fun r_ _ => r_ = (if p1 < 0 then (-2) else (if 127 < p1 then (-2) else 1))) (fun _ => [])) := by
  refine zent (cc := cX10_feed) (maxL := 2) (ret := (some .int)) (by decide) (Nat.le_of_ble_eq_true rfl) ?_
  intro p e s m below meth c A H locs ls hx hb hml hr ht hown hlocks hin hA hK hE hS hW hl
  have hown : s.vm.findClass RX10 = some m.cls := hown
  have hW : zPD D A [(a0, .inr (9, [w2, w3, w4, w5, w6, w7, w8, w9, w10, w11, w12, w13, w14, w15, w16, w17, .int 0, w18, w19, .ref a20, w21, w22, w23, w24, w25, w26, w27, w28, w29, w30, w31, w32, w33, w34, w35, w36, w37, w38, w39, w40, w41, w42, w43, w44, w45, w46, w47, w48, w49, w50, w51, w52, w53, w54, w55, w56, w57, w58, w59, w60, w61, w62, w63, w64, w65, w66, w67, w68, w69, w70, w71, w72, w73, w74, w75, w76])), (a20, .inl (y 0, 100, .inl (fun _ => 0)))] H := hW
  have hl : lv_has ls 2 [(0, .ref a0), (1, .int p1)] := hl
  refine lv_aload_n hx hb dX10_feed_0 rfl (lv_at hl 0 rfl) ?_
  refine lv_iload_n hx hb dX10_feed_1 rfl (lv_at hl 1 rfl) ?_
  refine lv_iconst (v := 0) hx hb dX10_feed_2 (by decide) ?_
  refine lv_bipush (v := 127) hx hb dX10_feed_3 (by decide) ?_
  refine zgo_i (wr := [(a20, .inl (y 0, 100, .inl (fun _ => 0)))]) (zrunV (As := [.int p1, .int 0, .int 127]) (rest := []) ⟨hx, hb, hml, hown, ht⟩ (zc_X10_in_7 l D y a0 p1 w2 w3 w4 w5 w6 w7 w8 w9 w10 w11 w12 w13 w14 w15 w16 w17 (.int 0) w18 w19 (.ref a20) w21 w22 w23 w24 w25 w26 w27 w28 w29 w30 w31 w32 w33 w34 w35 w36 w37 w38 w39 w40 w41 w42 w43 w44 w45 w46 w47 w48 w49 w50 w51 w52 w53 w54 w55 w56 w57 w58 w59 w60 w61 w62 w63 w64 w65 w66 w67 w68 w69 w70 w71 w72 w73 w74 w75 w76) (cwV 3 ht (zgV zm_240 zm_241 zm_242 zm_5 zm_243) rfl rfl rfl (by decide +kernel) ⟨(Nat.le_of_ble_eq_true rfl), (Nat.le_of_ble_eq_true rfl)⟩) hK hE hS hA hW [0] (by decide) rfl 0 rfl rfl rfl rfl hl.1 rfl (Nat.le_of_ble_eq_true rfl) dX10_feed_5 (Nat.le_of_ble_eq_true rfl) (Nat.le_of_ble_eq_true rfl)) hS hA hW [0] [1] rfl rfl (by decide) (by decide) (fun r1_ u H locs hw hW hS => ?_)
  have hW : zPD D A [(a20, .inl (y 0, 100, .inl (fun _ => 0))), (a0, .inr (9, [w2, w3, w4, w5, w6, w7, w8, w9, w10, w11, w12, w13, w14, w15, w16, w17, .int 0, w18, w19, .ref a20, w21, w22, w23, w24, w25, w26, w27, w28, w29, w30, w31, w32, w33, w34, w35, w36, w37, w38, w39, w40, w41, w42, w43, w44, w45, w46, w47, w48, w49, w50, w51, w52, w53, w54, w55, w56, w57, w58, w59, w60, w61, w62, w63, w64, w65, w66, w67, w68, w69, w70, w71, w72, w73, w74, w75, w76]))] H := hW
  have hw : r1_ = (if p1 < 0 then 0 else (if 127 < p1 then 0 else 1)) := hw
  by_cases c2_ : p1 < 0
  · have b3_ : (-2147483648) ≤ Int32.toInt p1 ∧ Int32.toInt p1 ≤ (-1) := (by have u0 := zbnd p1; have u1 := (zi_lt _ _).mp c2_; have u2 : (0 : Int32).toInt = 0 := (by decide); omega)
    rw [if_pos c2_] at hw
    subst hw
    refine lv_if_ne (tgt := 14) hx hb dX10_feed_8 (by decide) (fun c4_ => absurd (by decide) c4_) (fun c4_ => ?_)
    refine lv_bipush (v := (-2)) hx hb dX10_feed_11 (by decide) ?_
    exact zret_i (v := (-2)) hx hb hr hlocks hS () (by show _ = _; rw [if_pos c2_]) (hW.sub [] (by decide) rfl) (Nat.le_of_ble_eq_true rfl) (Nat.le_of_ble_eq_true rfl) dX10_feed_13
  · have b5_ : 0 ≤ Int32.toInt p1 ∧ Int32.toInt p1 ≤ 2147483647 := (by have u0 := zbnd p1; have u1 := (not_congr (zi_lt _ _)).mp c2_; have u2 : (0 : Int32).toInt = 0 := (by decide); omega)
    rw [if_neg c2_] at hw
    by_cases c6_ : 127 < p1
    · have b7_ : 128 ≤ Int32.toInt p1 ∧ Int32.toInt p1 ≤ 2147483647 := (by have u0 := b5_; have u1 := (zi_lt _ _).mp c6_; have u2 : (127 : Int32).toInt = 127 := (by decide); omega)
      rw [if_pos c6_] at hw
      subst hw
      refine lv_if_ne (tgt := 14) hx hb dX10_feed_8 (by decide) (fun c8_ => absurd (by decide) c8_) (fun c8_ => ?_)
      refine lv_bipush (v := (-2)) hx hb dX10_feed_11 (by decide) ?_
      exact zret_i (v := (-2)) hx hb hr hlocks hS () (by show _ = _; rw [if_neg c2_, if_pos c6_]) (hW.sub [] (by decide) rfl) (Nat.le_of_ble_eq_true rfl) (Nat.le_of_ble_eq_true rfl) dX10_feed_13
    · have b9_ : 0 ≤ Int32.toInt p1 ∧ Int32.toInt p1 ≤ 127 := (by have u0 := b5_; have u1 := (not_congr (zi_lt _ _)).mp c6_; have u2 : (127 : Int32).toInt = 127 := (by decide); omega)
      rw [if_neg c6_] at hw
      subst hw
      refine lv_if_ne (tgt := 14) hx hb dX10_feed_8 (by decide) (fun c10_ => ?_) (fun c10_ => absurd c10_ (by decide))
      refine lv_aload_n hx hb dX10_feed_14 rfl (lv_at hl 0 rfl) ?_
      refine zget hx hb ht inlX10 hown hK hW 1 rfl rfl 16 (by decide) zm_156 rfl dX10_feed_15 ?_
      refine lv_bipush (v := 100) hx hb dX10_feed_18 (by decide) ?_
      refine lv_icmp_ne (tgt := 26) hx hb dX10_feed_20 (by decide) (fun c11_ => ?_) (fun c11_ => absurd c11_ (by decide))
      refine lv_aload_n hx hb dX10_feed_26 rfl (lv_at hl 0 rfl) ?_
      refine zget hx hb ht inlX10 hown hK hW 1 rfl rfl 19 (by decide) zm_159 rfl dX10_feed_27 ?_
      refine lv_aload_n hx hb dX10_feed_30 rfl (lv_at hl 0 rfl) ?_
      refine zget hx hb ht inlX10 hown hK hW 1 rfl rfl 16 (by decide) zm_156 rfl dX10_feed_31 ?_
      refine lv_iload_n hx hb dX10_feed_34 rfl (lv_at hl 1 rfl) ?_
      refine ziast (ws' := [(a20, .inl (y 0, 100, .inl (upd (fun _ => 0) 0 p1))), (a0, .inr (9, [w2, w3, w4, w5, w6, w7, w8, w9, w10, w11, w12, w13, w14, w15, w16, w17, .int 0, w18, w19, .ref a20, w21, w22, w23, w24, w25, w26, w27, w28, w29, w30, w31, w32, w33, w34, w35, w36, w37, w38, w39, w40, w41, w42, w43, w44, w45, w46, w47, w48, w49, w50, w51, w52, w53, w54, w55, w56, w57, w58, w59, w60, w61, w62, w63, w64, w65, w66, w67, w68, w69, w70, w71, w72, w73, w74, w75, w76]))]) hx hb hK hS hW 0 rfl (by unfold vp_in; decide) rfl rfl dX10_feed_35 (fun H locs hW hS => ?_)
      refine lv_aload_n hx hb dX10_feed_36 rfl (lv_at hl 0 rfl) ?_
      refine lv_dup hx hb dX10_feed_37 rfl ?_
      refine zget hx hb ht inlX10 hown hK hW 1 rfl rfl 16 (by decide) zm_156 rfl dX10_feed_38 ?_
      refine lv_iconst (v := 1) hx hb dX10_feed_41 (by decide) ?_
      refine lv_iadd hx hb dX10_feed_42 ?_
      refine ztop (w := .int 1) (congrArg Value.int (by decide)) ?_
      refine zput (ws' := [(a20, .inl (y 0, 100, .inl (upd (fun _ => 0) 0 p1))), (a0, .inr (9, [w2, w3, w4, w5, w6, w7, w8, w9, w10, w11, w12, w13, w14, w15, w16, w17, .int 1, w18, w19, .ref a20, w21, w22, w23, w24, w25, w26, w27, w28, w29, w30, w31, w32, w33, w34, w35, w36, w37, w38, w39, w40, w41, w42, w43, w44, w45, w46, w47, w48, w49, w50, w51, w52, w53, w54, w55, w56, w57, w58, w59, w60, w61, w62, w63, w64, w65, w66, w67, w68, w69, w70, w71, w72, w73, w74, w75, w76]))]) hx hb ht inlX10 tyX10 tyX10_ok nmX10 hown hK hS hW 1 rfl rfl 16 (by decide) zm_156 rfl rfl rfl (Nat.le_of_ble_eq_true rfl) rfl dX10_feed_43 (fun H locs hW hS => ?_)
      refine lv_aload_n hx hb dX10_feed_46 rfl (lv_at hl 0 rfl) ?_
      refine zget hx hb ht inlX10 hown hK hW 1 rfl rfl 16 (by decide) zm_156 rfl dX10_feed_47 ?_
      exact zret_i (v := 1) hx hb hr hlocks hS () (by show _ = _; rw [if_neg c2_, if_neg c6_]) (hW.sub [] (by decide) rfl) (Nat.le_of_ble_eq_true rfl) (Nat.le_of_ble_eq_true rfl) dX10_feed_50
set_option maxHeartbeats 8000000 in
set_option maxRecDepth 100000 in
theorem zc_X2_becomeBare_0 (l : Launch) (D : va_G) (y : Nat → ClassId) (a0 : Nat) (w1 : Value) (w2 : Value) (w3 : Value) (w4 : Value) : zM l D y yX2_becomeBare (Cond.code yX2_becomeBare cX2_becomeBare 1 none :: zT) { frames := 0, cells := 0, slots := 0, locals := 0 } [.ref a0] [(a0, .inr (2, [.int 2, .int 15, .int 0, w1, w2, .int 0, w3, w4]))] (zQv (S := Unit) D (fun _ => True) (fun _ => [(a0, .inr (2, [.int 2, .int 15, .int 0, w1, w2, .int 0, w3, w4]))])) := by
  refine zent (cc := cX2_becomeBare) (maxL := 1) (ret := none) (by decide) (Nat.le_of_ble_eq_true rfl) ?_
  intro p e s m below meth c A H locs ls hx hb hml hr ht hown hlocks hin hA hK hE hS hW hl
  have hown : s.vm.findClass RX2 = some m.cls := hown
  have hW : zPD D A [(a0, .inr (2, [.int 2, .int 15, .int 0, w1, w2, .int 0, w3, w4]))] H := hW
  have hl : lv_has ls 1 [(0, .ref a0)] := hl
  refine lv_aload_n hx hb dX2_becomeBare_0 rfl (lv_at hl 0 rfl) ?_
  refine lv_iconst (v := 2) hx hb dX2_becomeBare_1 (by decide) ?_
  refine zput (ws' := [(a0, .inr (2, [.int 2, .int 15, .int 0, w1, w2, .int 0, w3, w4]))]) hx hb ht inlX2 tyX2 tyX2_ok nmX2 hown hK hS hW 0 rfl rfl 0 (by decide) zm_53 rfl rfl rfl (Nat.le_of_ble_eq_true rfl) rfl dX2_becomeBare_2 (fun H locs hW hS => ?_)
  refine lv_aload_n hx hb dX2_becomeBare_5 rfl (lv_at hl 0 rfl) ?_
  refine lv_bipush (v := 15) hx hb dX2_becomeBare_6 (by decide) ?_
  refine zput (ws' := [(a0, .inr (2, [.int 2, .int 15, .int 0, w1, w2, .int 0, w3, w4]))]) hx hb ht inlX2 tyX2 tyX2_ok nmX2 hown hK hS hW 0 rfl rfl 1 (by decide) zm_54 rfl rfl rfl (Nat.le_of_ble_eq_true rfl) rfl dX2_becomeBare_8 (fun H locs hW hS => ?_)
  refine lv_aload_n hx hb dX2_becomeBare_11 rfl (lv_at hl 0 rfl) ?_
  refine lv_iconst (v := 0) hx hb dX2_becomeBare_12 (by decide) ?_
  refine zput (ws' := [(a0, .inr (2, [.int 2, .int 15, .int 0, w1, w2, .int 0, w3, w4]))]) hx hb ht inlX2 tyX2 tyX2_ok nmX2 hown hK hS hW 0 rfl rfl 2 (by decide) zm_55 rfl rfl rfl (Nat.le_of_ble_eq_true rfl) rfl dX2_becomeBare_13 (fun H locs hW hS => ?_)
  refine lv_aload_n hx hb dX2_becomeBare_16 rfl (lv_at hl 0 rfl) ?_
  refine lv_iconst (v := 0) hx hb dX2_becomeBare_17 (by decide) ?_
  refine zput (ws' := [(a0, .inr (2, [.int 2, .int 15, .int 0, w1, w2, .int 0, w3, w4]))]) hx hb ht inlX2 tyX2 tyX2_ok nmX2 hown hK hS hW 0 rfl rfl 5 (by decide) zm_58 rfl rfl rfl (Nat.le_of_ble_eq_true rfl) rfl dX2_becomeBare_18 (fun H locs hW hS => ?_)
  exact zret_v hx hb hr hlocks hS () trivial hW (Nat.le_of_ble_eq_true rfl) (Nat.le_of_ble_eq_true rfl) dX2_becomeBare_21
set_option maxHeartbeats 8000000 in
set_option maxRecDepth 100000 in
theorem zc_X5_goOn_0 (l : Launch) (D : va_G) (y : Nat → ClassId) (a0 : Nat) (w1 : Value) (w2 : Value) : zM l D y yX5_goOn (Cond.code yX5_goOn cX5_goOn 1 none :: zT) { frames := 0, cells := 0, slots := 0, locals := 0 } [.ref a0] [(a0, .inr (4, [w1, .int 0, .int (-1), .int (-1), w2]))] (zQv (S := Unit) D (fun _ => True) (fun _ => [(a0, .inr (4, [w1, .int 0, .int 0, .int (-1), w2]))])) := by
  refine zent (cc := cX5_goOn) (maxL := 1) (ret := none) (by decide) (Nat.le_of_ble_eq_true rfl) ?_
  intro p e s m below meth c A H locs ls hx hb hml hr ht hown hlocks hin hA hK hE hS hW hl
  have hown : s.vm.findClass RX5 = some m.cls := hown
  have hW : zPD D A [(a0, .inr (4, [w1, .int 0, .int (-1), .int (-1), w2]))] H := hW
  have hl : lv_has ls 1 [(0, .ref a0)] := hl
  refine lv_aload_n hx hb dX5_goOn_0 rfl (lv_at hl 0 rfl) ?_
  refine lv_dup hx hb dX5_goOn_1 rfl ?_
  refine zget hx hb ht inlX5 hown hK hW 0 rfl rfl 2 (by decide) zm_46 rfl dX5_goOn_2 ?_
  refine lv_iconst (v := 1) hx hb dX5_goOn_5 (by decide) ?_
  refine lv_iadd hx hb dX5_goOn_6 ?_
  refine ztop (w := .int 0) (congrArg Value.int (by decide)) ?_
  refine zput (ws' := [(a0, .inr (4, [w1, .int 0, .int 0, .int (-1), w2]))]) hx hb ht inlX5 tyX5 tyX5_ok nmX5 hown hK hS hW 0 rfl rfl 2 (by decide) zm_46 rfl rfl rfl (Nat.le_of_ble_eq_true rfl) rfl dX5_goOn_7 (fun H locs hW hS => ?_)
  refine lv_aload_n hx hb dX5_goOn_10 rfl (lv_at hl 0 rfl) ?_
  refine lv_aload_n hx hb dX5_goOn_11 rfl (lv_at hl 0 rfl) ?_
  refine zget hx hb ht inlX5 hown hK hW 0 rfl rfl 2 (by decide) zm_46 rfl dX5_goOn_12 ?_
  refine lv_if_lt (tgt := 50) hx hb dX5_goOn_15 (by decide) (fun c1_ => absurd c1_ (by decide)) (fun c1_ => ?_)
  refine lv_aload_n hx hb dX5_goOn_18 rfl (lv_at hl 0 rfl) ?_
  refine zget hx hb ht inlX5 hown hK hW 0 rfl rfl 2 (by decide) zm_46 rfl dX5_goOn_19 ?_
  refine lv_aload_n hx hb dX5_goOn_22 rfl (lv_at hl 0 rfl) ?_
  refine zget hx hb ht inlX5 hown hK hW 0 rfl rfl 1 (by decide) zm_45 rfl dX5_goOn_23 ?_
  refine lv_icmp_ge (tgt := 50) hx hb dX5_goOn_26 (by decide) (fun c2_ => ?_) (fun c2_ => absurd (by decide) c2_)
  refine lv_iconst (v := (-1)) hx hb dX5_goOn_50 (by decide) ?_
  refine zput (ws' := [(a0, .inr (4, [w1, .int 0, .int 0, .int (-1), w2]))]) hx hb ht inlX5 tyX5 tyX5_ok nmX5 hown hK hS hW 0 rfl rfl 3 (by decide) zm_47 rfl rfl rfl (Nat.le_of_ble_eq_true rfl) rfl dX5_goOn_51 (fun H locs hW hS => ?_)
  exact zret_v hx hb hr hlocks hS () trivial hW (Nat.le_of_ble_eq_true rfl) (Nat.le_of_ble_eq_true rfl) dX5_goOn_54
set_option maxHeartbeats 8000000 in
set_option maxRecDepth 100000 in
theorem zc_X5_wordFrom_0 (l : Launch) (D : va_G) (y : Nat → ClassId) : zM l D y yX5_wordFrom (Cond.code yX5_wordFrom cX5_wordFrom 1 (some (.object "java/lang/String")) :: zT) { frames := 0, cells := 0, slots := 0, locals := 0 } [.int (-1)] [] (zQr (S := Unit) D (fun r_ _ => r_ = (y 14)) (fun _ => [])) := by
  refine zent (cc := cX5_wordFrom) (maxL := 1) (ret := (some (.object "java/lang/String"))) (by decide) (Nat.le_of_ble_eq_true rfl) ?_
  intro p e s m below meth c A H locs ls hx hb hml hr ht hown hlocks hin hA hK hE hS hW hl
  have hown : s.vm.findClass RX5 = some m.cls := hown
  have hW : zPD D A [] H := hW
  have hl : lv_has ls 1 [(0, .int (-1))] := hl
  refine lv_iload_n hx hb dX5_wordFrom_0 rfl (lv_at hl 0 rfl) ?_
  refine lv_lookup (tgt := 56) hx hb dX5_wordFrom_1 (by decide) rfl (by decide) ?_
  refine va_ldcS (index := 82) (q := y 14) hx hb hown (hE.2 4 (by decide)) dX5_wordFrom_56 ?_
  exact zret_r (v := (y 14)) hx hb hr hlocks hS () rfl hW (Nat.le_of_ble_eq_true rfl) (Nat.le_of_ble_eq_true rfl) dX5_wordFrom_58
set_option maxHeartbeats 8000000 in
set_option maxRecDepth 100000 in
theorem zc_J0_isEmpty_aae02_0 (l : Launch) (D : va_G) (y : Nat → ClassId) : zM l D y yJ0_isEmpty_aae02 (Cond.code yJ0_isEmpty_aae02 cJ0_isEmpty_aae02 1 (some .boolean) :: zT) { frames := 0, cells := 0, slots := 0, locals := 0 } [.ref (y 14)] [] (zQi (S := Unit) D (fun r_ _ => r_ = 1) (fun _ => [])) := by
  refine zent (cc := cJ0_isEmpty_aae02) (maxL := 1) (ret := (some .boolean)) (by decide) (Nat.le_of_ble_eq_true rfl) ?_
  intro p e s m below meth c A H locs ls hx hb hml hr ht hown hlocks hin hA hK hE hS hW hl
  have hown : s.vm.findClass RJ0 = some m.cls := hown
  have hW : zPD D A [] H := hW
  have hl : lv_has ls 1 [(0, .ref (y 14))] := hl
  refine lv_aload_n hx hb dJ0_isEmpty_aae02_0 rfl (lv_at hl 0 rfl) ?_
  refine vk_getf hx hb (hE.1.1 4 (by decide)).2.2.1 hS hown (ht _ zm_490) (fun _ h => h) dJ0_isEmpty_aae02_1 ?_
  refine va_tlen (v := 0) hx hb (hE.1.1 4 (by decide)).2.2.2 hS rfl dJ0_isEmpty_aae02_4 ?_
  refine lv_if_ne (tgt := 12) hx hb dJ0_isEmpty_aae02_5 (by decide) (fun c1_ => absurd (by decide) c1_) (fun c1_ => ?_)
  refine lv_iconst (v := 1) hx hb dJ0_isEmpty_aae02_8 (by decide) ?_
  refine lv_goto (tgt := 13) hx hb dJ0_isEmpty_aae02_9 (by decide) ?_
  exact zret_z (v := 1) hx hb hr hlocks hS () rfl rfl hW (Nat.le_of_ble_eq_true rfl) (Nat.le_of_ble_eq_true rfl) dJ0_isEmpty_aae02_13
set_option maxHeartbeats 8000000 in
set_option maxRecDepth 100000 in
theorem zc_X5_readClause_0 (l : Launch) (D : va_G) (y : Nat → ClassId) (a0 : Nat) (w1 : Value) (w2 : Value) (w3 : Value) (w4 : Value) : zM l D y yX5_readClause (Cond.code yX5_readClause cX5_readClause 4 (some .boolean) :: zT) { frames := 1, cells := 0, slots := 0, locals := 20 } [.ref a0] [(a0, .inr (4, [w1, w2, w3, .int (-1), w4]))] (zQi (S := Unit) D (fun r_ _ => r_ = 0) (fun _ => [(a0, .inr (4, [w1, w2, w3, .int (-1), w4]))])) := by
  refine zent (cc := cX5_readClause) (maxL := 4) (ret := (some .boolean)) (by decide) (Nat.le_of_ble_eq_true rfl) ?_
  intro p e s m below meth c A H locs ls hx hb hml hr ht hown hlocks hin hA hK hE hS hW hl
  have hown : s.vm.findClass RX5 = some m.cls := hown
  have hW : zPD D A [(a0, .inr (4, [w1, w2, w3, .int (-1), w4]))] H := hW
  have hl : lv_has ls 4 [(0, .ref a0)] := hl
  refine lv_aload_n hx hb dX5_readClause_0 rfl (lv_at hl 0 rfl) ?_
  refine zget hx hb ht inlX5 hown hK hW 0 rfl rfl 3 (by decide) zm_47 rfl dX5_readClause_1 ?_
  refine lv_istore_n (lv' := [(1, .int (-1)), (0, .ref a0)]) hx hb dX5_readClause_4 rfl hl (by decide) rfl (fun ls hl => ?_)
  refine lv_iload_n hx hb dX5_readClause_5 rfl (lv_at hl 0 rfl) ?_
  refine zgo0_r (zrunS (As := [.int (-1)]) (rest := []) ⟨hx, hb, hml, hown, ht⟩ (zc_X5_wordFrom_0 l D y) (va_cwS 1 ht (zgS zm_482 zm_483 zm_18 zm_484) rfl rfl rfl (by decide +kernel) ⟨(Nat.le_of_ble_eq_true rfl), (Nat.le_of_ble_eq_true rfl)⟩) hK hE hS hA hW [] (by decide) rfl rfl hl.1 rfl (Nat.le_of_ble_eq_true rfl) dX5_readClause_6 (Nat.le_of_ble_eq_true rfl) (Nat.le_of_ble_eq_true rfl)) hS hA hW (fun r1_ u H locs hw hW hS => ?_)
  have hw : r1_ = (y 14) := hw
  subst hw
  refine lv_astore_n (lv' := [(2, .ref (y 14)), (1, .int (-1)), (0, .ref a0)]) hx hb dX5_readClause_9 rfl hl (by decide) rfl (fun ls hl => ?_)
  refine lv_aload_n hx hb dX5_readClause_10 rfl (lv_at hl 0 rfl) ?_
  refine zgo0_i (zrunVS (As := []) (rest := []) ⟨hx, hb, hml, hown, ht⟩ (zc_J0_isEmpty_aae02_0 l D y) (cwV 0 ht (zgV zm_485 zm_486 zm_487 zm_488 zm_489) rfl rfl rfl (by decide +kernel) ⟨(Nat.le_of_ble_eq_true rfl), (Nat.le_of_ble_eq_true rfl)⟩) hK hE hS hA hW [] (by decide) rfl 4 (by decide) rfl rfl hl.1 rfl (Nat.le_of_ble_eq_true rfl) dX5_readClause_11 (Nat.le_of_ble_eq_true rfl) (Nat.le_of_ble_eq_true rfl)) hS hA hW (fun r2_ u H locs hw hW hS => ?_)
  have hw : r2_ = 1 := hw
  subst hw
  refine lv_if_ne (tgt := 25) hx hb dX5_readClause_14 (by decide) (fun c3_ => ?_) (fun c3_ => absurd c3_ (by decide))
  refine lv_iconst (v := 0) hx hb dX5_readClause_25 (by decide) ?_
  exact zret_z (v := 0) hx hb hr hlocks hS () rfl rfl hW (Nat.le_of_ble_eq_true rfl) (Nat.le_of_ble_eq_true rfl) dX5_readClause_26
set_option maxHeartbeats 8000000 in
set_option maxRecDepth 100000 in
theorem zc_X5_readInto_0 (l : Launch) (D : va_G) (y : Nat → ClassId) (a0 : Nat) (a1 : Nat) (w2 : Value) (a3 : Nat) (w4 : Value) (w5 : Value) (w6 : Value) (w7 : Value) : zM l D y yX5_readInto (Cond.code yX5_readInto cX5_readInto 3 (some .boolean) :: zT) { frames := 2, cells := 0, slots := 0, locals := 43 } [.ref a0, .ref a1] [(a0, .inr (4, [w2, .int 0, .int 0, .int (-1), .ref a3])), (a1, .inr (2, [.int 2, .int 15, .int 0, w4, w5, .int 0, w6, w7]))] (zQi (S := Unit) D (fun r_ _ => r_ = 0) (fun _ => [(a0, .inr (4, [w2, .int 0, .int 0, .int (-1), .ref a1])), (a1, .inr (2, [.int 2, .int 15, .int 0, w4, w5, .int 0, w6, w7]))])) := by
  refine zent (cc := cX5_readInto) (maxL := 3) (ret := (some .boolean)) (by decide) (Nat.le_of_ble_eq_true rfl) ?_
  intro p e s m below meth c A H locs ls hx hb hml hr ht hown hlocks hin hA hK hE hS hW hl
  have hown : s.vm.findClass RX5 = some m.cls := hown
  have hW : zPD D A [(a0, .inr (4, [w2, .int 0, .int 0, .int (-1), .ref a3])), (a1, .inr (2, [.int 2, .int 15, .int 0, w4, w5, .int 0, w6, w7]))] H := hW
  have hl : lv_has ls 3 [(0, .ref a0), (1, .ref a1)] := hl
  refine lv_aload_n hx hb dX5_readInto_0 rfl (lv_at hl 0 rfl) ?_
  refine lv_aload_n hx hb dX5_readInto_1 rfl (lv_at hl 1 rfl) ?_
  refine zput (ws' := [(a0, .inr (4, [w2, .int 0, .int 0, .int (-1), .ref a1])), (a1, .inr (2, [.int 2, .int 15, .int 0, w4, w5, .int 0, w6, w7]))]) hx hb ht inlX5 tyX5 tyX5_ok nmX5 hown hK hS hW 0 rfl rfl 4 (by decide) zm_49 rfl rfl rfl (Nat.le_of_ble_eq_true rfl) rfl dX5_readInto_2 (fun H locs hW hS => ?_)
  refine lv_aload_n hx hb dX5_readInto_5 rfl (lv_at hl 1 rfl) ?_
  refine zgo_v (wr := [(a0, .inr (4, [w2, .int 0, .int 0, .int (-1), .ref a1]))]) (zrunV (As := []) (rest := []) ⟨hx, hb, hml, hown, ht⟩ (zc_X2_becomeBare_0 l D y a1 w4 w5 w6 w7) (cwV 0 ht (zgV zm_468 zm_469 zm_470 zm_37 zm_471) rfl rfl rfl (by decide +kernel) ⟨(Nat.le_of_ble_eq_true rfl), (Nat.le_of_ble_eq_true rfl)⟩) hK hE hS hA hW [1] (by decide) rfl 0 rfl rfl rfl rfl hl.1 rfl (Nat.le_of_ble_eq_true rfl) dX5_readInto_6 (Nat.le_of_ble_eq_true rfl) (Nat.le_of_ble_eq_true rfl)) hS hA hW [1] [0] rfl rfl (by decide) (by decide) (fun u H locs hw hW hS => ?_)
  have hW : zPD D A [(a0, .inr (4, [w2, .int 0, .int 0, .int (-1), .ref a1])), (a1, .inr (2, [.int 2, .int 15, .int 0, w4, w5, .int 0, w6, w7]))] H := hW
  refine lv_aload_n hx hb dX5_readInto_9 rfl (lv_at hl 0 rfl) ?_
  refine lv_iconst (v := (-1)) hx hb dX5_readInto_10 (by decide) ?_
  refine zput (ws' := [(a0, .inr (4, [w2, .int 0, .int (-1), .int (-1), .ref a1])), (a1, .inr (2, [.int 2, .int 15, .int 0, w4, w5, .int 0, w6, w7]))]) hx hb ht inlX5 tyX5 tyX5_ok nmX5 hown hK hS hW 0 rfl rfl 2 (by decide) zm_46 rfl rfl rfl (Nat.le_of_ble_eq_true rfl) rfl dX5_readInto_11 (fun H locs hW hS => ?_)
  refine lv_aload_n hx hb dX5_readInto_14 rfl (lv_at hl 0 rfl) ?_
  refine zgo_v (wr := [(a1, .inr (2, [.int 2, .int 15, .int 0, w4, w5, .int 0, w6, w7]))]) (zrunV (As := []) (rest := []) ⟨hx, hb, hml, hown, ht⟩ (zc_X5_goOn_0 l D y a0 w2 (.ref a1)) (cwV 0 ht (zgV zm_472 zm_473 zm_474 zm_18 zm_475) rfl rfl rfl (by decide +kernel) ⟨(Nat.le_of_ble_eq_true rfl), (Nat.le_of_ble_eq_true rfl)⟩) hK hE hS hA hW [0] (by decide) rfl 0 rfl rfl rfl rfl hl.1 rfl (Nat.le_of_ble_eq_true rfl) dX5_readInto_15 (Nat.le_of_ble_eq_true rfl) (Nat.le_of_ble_eq_true rfl)) hS hA hW [0] [1] rfl rfl (by decide) (by decide) (fun u H locs hw hW hS => ?_)
  have hW : zPD D A [(a1, .inr (2, [.int 2, .int 15, .int 0, w4, w5, .int 0, w6, w7])), (a0, .inr (4, [w2, .int 0, .int 0, .int (-1), .ref a1]))] H := hW
  refine lv_iconst (v := 1) hx hb dX5_readInto_18 (by decide) ?_
  refine lv_istore_n (lv' := [(2, .int 1), (0, .ref a0), (1, .ref a1)]) hx hb dX5_readInto_19 rfl hl (by decide) rfl (fun ls hl => ?_)
  refine lv_iload_n hx hb dX5_readInto_20 rfl (lv_at hl 0 rfl) ?_
  refine lv_bipush (v := 10) hx hb dX5_readInto_21 (by decide) ?_
  refine lv_icmp_gt (tgt := 68) hx hb dX5_readInto_23 (by decide) (fun c3_ => absurd c3_ (by decide)) (fun c3_ => ?_)
  refine lv_aload_n hx hb dX5_readInto_26 rfl (lv_at hl 1 rfl) ?_
  refine zgo_i (wr := [(a1, .inr (2, [.int 2, .int 15, .int 0, w4, w5, .int 0, w6, w7]))]) (zrunV (As := []) (rest := []) ⟨hx, hb, hml, hown, ht⟩ (zc_X5_readClause_0 l D y a0 w2 (.int 0) (.int 0) (.ref a1)) (cwV 0 ht (zgV zm_476 zm_477 zm_478 zm_18 zm_479) rfl rfl rfl (by decide +kernel) ⟨(Nat.le_of_ble_eq_true rfl), (Nat.le_of_ble_eq_true rfl)⟩) hK hE hS hA hW [1] (by decide) rfl 0 rfl rfl rfl rfl hl.1 rfl (Nat.le_of_ble_eq_true rfl) dX5_readInto_27 (Nat.le_of_ble_eq_true rfl) (Nat.le_of_ble_eq_true rfl)) hS hA hW [1] [0] rfl rfl (by decide) (by decide) (fun r4_ u H locs hw hW hS => ?_)
  have hW : zPD D A [(a1, .inr (2, [.int 2, .int 15, .int 0, w4, w5, .int 0, w6, w7])), (a0, .inr (4, [w2, .int 0, .int 0, .int (-1), .ref a1]))] H := hW
  have hw : r4_ = 0 := hw
  subst hw
  refine lv_if_ne (tgt := 35) hx hb dX5_readInto_30 (by decide) (fun c5_ => absurd (by decide) c5_) (fun c5_ => ?_)
  refine lv_iconst (v := 0) hx hb dX5_readInto_33 (by decide) ?_
  exact zret_z (v := 0) hx hb hr hlocks hS () rfl rfl (hW.sub [1, 0] (by decide) rfl) (Nat.le_of_ble_eq_true rfl) (Nat.le_of_ble_eq_true rfl) dX5_readInto_34
set_option maxHeartbeats 8000000 in
set_option maxRecDepth 100000 in
theorem zc_X9_house_0 (l : Launch) (D : va_G) (y : Nat → ClassId) (a0 : Nat) (a1 : Nat) (a2 : Nat) (w3 : Value) (w4 : Value) (w5 : Value) (w6 : Value) (w7 : Value) (w8 : Value) (a9 : Nat) (a10 : Nat) (a11 : Nat) (a12 : Nat) (a13 : Nat) (a14 : Nat) (w15 : Value) (a16 : Nat) (w17 : Value) (w18 : Value) (w19 : Value) (w20 : Value) : zM l D y yX9_house (Cond.code yX9_house cX9_house 3 (some .int) :: zT) { frames := 3, cells := 0, slots := 0, locals := 65 } [.ref a0] [(a0, .inr (8, [.ref a1, .int 0, .ref a2, w3, w4, w5, w6, w7, w8])), (a1, .inl (y 3, 6, .inr (.inr (.inr (.inr (va_up (va_up (va_up (va_up (va_up (va_up (fun _ => none) 0 (some a9)) 1 (some a10)) 2 (some a11)) 3 (some a12)) 4 (some a13)) 5 (some a14))))))), (a2, .inr (4, [w15, .int 0, .int 0, .int (-1), .ref a16])), (a9, .inr (2, [.int 2, .int 15, .int 0, w17, w18, .int 0, w19, w20]))] (zQi (S := Unit) D (fun r_ _ => r_ = (-10)) (fun _ => [])) := by
  refine zent (cc := cX9_house) (maxL := 3) (ret := (some .int)) (by decide) (Nat.le_of_ble_eq_true rfl) ?_
  intro p e s m below meth c A H locs ls hx hb hml hr ht hown hlocks hin hA hK hE hS hW hl
  have hown : s.vm.findClass RX9 = some m.cls := hown
  have hW : zPD D A [(a0, .inr (8, [.ref a1, .int 0, .ref a2, w3, w4, w5, w6, w7, w8])), (a1, .inl (y 3, 6, .inr (.inr (.inr (.inr (va_up (va_up (va_up (va_up (va_up (va_up (fun _ => none) 0 (some a9)) 1 (some a10)) 2 (some a11)) 3 (some a12)) 4 (some a13)) 5 (some a14))))))), (a2, .inr (4, [w15, .int 0, .int 0, .int (-1), .ref a16])), (a9, .inr (2, [.int 2, .int 15, .int 0, w17, w18, .int 0, w19, w20]))] H := hW
  have hl : lv_has ls 3 [(0, .ref a0)] := hl
  refine lv_aload_n hx hb dX9_house_0 rfl (lv_at hl 0 rfl) ?_
  refine zget hx hb ht inlX9 hown hK hW 0 rfl rfl 1 (by decide) zm_15 rfl dX9_house_1 ?_
  refine lv_bipush (v := 6) hx hb dX9_house_4 (by decide) ?_
  refine lv_icmp_lt (tgt := 12) hx hb dX9_house_6 (by decide) (fun c1_ => ?_) (fun c1_ => absurd (by decide) c1_)
  refine lv_aload_n hx hb dX9_house_12 rfl (lv_at hl 0 rfl) ?_
  refine zget hx hb ht inlX9 hown hK hW 0 rfl rfl 2 (by decide) zm_19 rfl dX9_house_13 ?_
  refine lv_aload_n hx hb dX9_house_16 rfl (lv_at hl 0 rfl) ?_
  refine zget hx hb ht inlX9 hown hK hW 0 rfl rfl 0 (by decide) zm_14 rfl dX9_house_17 ?_
  refine lv_aload_n hx hb dX9_house_20 rfl (lv_at hl 0 rfl) ?_
  refine zget hx hb ht inlX9 hown hK hW 0 rfl rfl 1 (by decide) zm_15 rfl dX9_house_21 ?_
  refine zaald (v := .ref a9) hx hb hK hW 1 3 rfl rfl (by unfold vp_in; decide) rfl dX9_house_24 ?_
  refine zgo_i (wr := [(a0, .inr (8, [.ref a1, .int 0, .ref a2, w3, w4, w5, w6, w7, w8])), (a1, .inl (y 3, 6, .inr (.inr (.inr (.inr (va_up (va_up (va_up (va_up (va_up (va_up (fun _ => none) 0 (some a9)) 1 (some a10)) 2 (some a11)) 3 (some a12)) 4 (some a13)) 5 (some a14)))))))]) (zrunV (As := [.ref a9]) (rest := []) ⟨hx, hb, hml, hown, ht⟩ (zc_X5_readInto_0 l D y a2 a9 w15 a16 w17 w18 w19 w20) (cwV 1 ht (zgV zm_464 zm_465 zm_466 zm_18 zm_467) rfl rfl rfl (by decide +kernel) ⟨(Nat.le_of_ble_eq_true rfl), (Nat.le_of_ble_eq_true rfl)⟩) hK hE hS hA hW [2, 3] (by decide) rfl 0 rfl rfl rfl rfl hl.1 rfl (Nat.le_of_ble_eq_true rfl) dX9_house_25 (Nat.le_of_ble_eq_true rfl) (Nat.le_of_ble_eq_true rfl)) hS hA hW [2, 3] [0, 1] rfl rfl (by decide) (by decide) (fun r2_ u H locs hw hW hS => ?_)
  have hW : zPD D A [(a0, .inr (8, [.ref a1, .int 0, .ref a2, w3, w4, w5, w6, w7, w8])), (a1, .inl (y 3, 6, .inr (.inr (.inr (.inr (va_up (va_up (va_up (va_up (va_up (va_up (fun _ => none) 0 (some a9)) 1 (some a10)) 2 (some a11)) 3 (some a12)) 4 (some a13)) 5 (some a14))))))), (a2, .inr (4, [w15, .int 0, .int 0, .int (-1), .ref a9])), (a9, .inr (2, [.int 2, .int 15, .int 0, w17, w18, .int 0, w19, w20]))] H := hW
  have hw : r2_ = 0 := hw
  subst hw
  refine lv_istore_n (lv' := [(1, .int 0), (0, .ref a0)]) hx hb dX9_house_28 rfl hl (by decide) rfl (fun ls hl => ?_)
  refine lv_aload_n hx hb dX9_house_29 rfl (lv_at hl 1 rfl) ?_
  refine zget hx hb ht inlX9 hown hK hW 0 rfl rfl 2 (by decide) zm_19 rfl dX9_house_30 ?_
  refine lv_iconst (v := 0) hx hb dX9_house_33 (by decide) ?_
  refine zput (ws' := [(a0, .inr (8, [.ref a1, .int 0, .ref a2, w3, w4, w5, w6, w7, w8])), (a1, .inl (y 3, 6, .inr (.inr (.inr (.inr (va_up (va_up (va_up (va_up (va_up (va_up (fun _ => none) 0 (some a9)) 1 (some a10)) 2 (some a11)) 3 (some a12)) 4 (some a13)) 5 (some a14))))))), (a2, .inr (4, [w15, .int 0, .int 0, .int (-1), .ref a9])), (a9, .inr (2, [.int 2, .int 15, .int 0, w17, w18, .int 0, w19, w20]))]) hx hb ht inlX5 tyX5 tyX5_ok nmX5 hown hK hS hW 2 rfl rfl 1 (by decide) zm_453 rfl rfl rfl (Nat.le_of_ble_eq_true rfl) rfl dX9_house_34 (fun H locs hW hS => ?_)
  refine lv_iload_n hx hb dX9_house_37 rfl (lv_at hl 0 rfl) ?_
  refine lv_if_ne (tgt := 52) hx hb dX9_house_38 (by decide) (fun c3_ => absurd (by decide) c3_) (fun c3_ => ?_)
  refine lv_bipush (v := (-10)) hx hb dX9_house_41 (by decide) ?_
  refine lv_aload_n hx hb dX9_house_43 rfl (lv_at hl 1 rfl) ?_
  refine zget hx hb ht inlX9 hown hK hW 0 rfl rfl 2 (by decide) zm_19 rfl dX9_house_44 ?_
  refine zget hx hb ht inlX5 hown hK hW 2 rfl rfl 2 (by decide) zm_463 rfl dX9_house_47 ?_
  refine lv_isub hx hb dX9_house_50 ?_
  refine ztop (w := .int (-10)) (congrArg Value.int (by decide)) ?_
  exact zret_i (v := (-10)) hx hb hr hlocks hS () rfl (hW.sub [] (by decide) rfl) (Nat.le_of_ble_eq_true rfl) (Nat.le_of_ble_eq_true rfl) dX9_house_51
set_option maxHeartbeats 8000000 in
set_option maxRecDepth 100000 in
theorem zc_X10_peek_0 (l : Launch) (D : va_G) (y : Nat → ClassId) (a0 : Nat) (w1 : Value) (w2 : Value) (w3 : Value) (w4 : Value) (w5 : Value) (w6 : Value) (w7 : Value) (w8 : Value) (w9 : Value) (w10 : Value) (w11 : Value) (w12 : Value) (w13 : Value) (w14 : Value) (w15 : Value) (w16 : Value) (w17 : Value) (w18 : Value) (w19 : Value) (w20 : Value) (w21 : Value) (w22 : Value) (w23 : Value) (w24 : Value) (w25 : Value) (w26 : Value) (w27 : Value) (w28 : Value) (w29 : Value) (w30 : Value) (w31 : Value) (w32 : Value) (w33 : Value) (w34 : Value) (w35 : Value) (w36 : Value) (w37 : Value) (w38 : Value) (w39 : Value) (w40 : Value) (w41 : Value) (w42 : Value) (w43 : Value) (w44 : Value) (w45 : Value) (w46 : Value) (w47 : Value) (w48 : Value) (w49 : Value) (w50 : Value) (w51 : Value) (w52 : Value) (w53 : Value) (w54 : Value) (w55 : Value) (w56 : Value) (w57 : Value) (w58 : Value) (w59 : Value) (w60 : Value) (w61 : Value) (w62 : Value) (w63 : Value) (w64 : Value) (w65 : Value) (w66 : Value) (w67 : Value) (w68 : Value) (w69 : Value) (w70 : Value) (w71 : Value) (w72 : Value) (w73 : Value) (w74 : Value) : zM l D y yX10_peek (Cond.code yX10_peek cX10_peek 1 (some .int) :: zT) { frames := 0, cells := 0, slots := 0, locals := 0 } [.ref a0] [(a0, .inr (9, [w1, w2, w3, w4, w5, w6, w7, w8, w9, w10, w11, w12, w13, w14, w15, w16, .int 0, .int 0, w17, w18, w19, w20, w21, w22, w23, w24, w25, w26, w27, w28, w29, w30, w31, w32, w33, w34, w35, w36, w37, w38, w39, w40, w41, w42, w43, w44, w45, w46, w47, w48, w49, w50, w51, w52, w53, w54, w55, w56, w57, w58, w59, w60, w61, w62, w63, w64, w65, w66, w67, w68, w69, w70, w71, w72, w73, w74]))] (zQi (S := Unit) D (fun r_ _ => r_ = (-1)) (fun _ => [(a0, .inr (9, [w1, w2, w3, w4, w5, w6, w7, w8, w9, w10, w11, w12, w13, w14, w15, w16, .int 0, .int 0, w17, w18, w19, w20, w21, w22, w23, w24, w25, w26, w27, w28, w29, w30, w31, w32, w33, w34, w35, w36, w37, w38, w39, w40, w41, w42, w43, w44, w45, w46, w47, w48, w49, w50, w51, w52, w53, w54, w55, w56, w57, w58, w59, w60, w61, w62, w63, w64, w65, w66, w67, w68, w69, w70, w71, w72, w73, w74]))])) := by
  refine zent (cc := cX10_peek) (maxL := 1) (ret := (some .int)) (by decide) (Nat.le_of_ble_eq_true rfl) ?_
  intro p e s m below meth c A H locs ls hx hb hml hr ht hown hlocks hin hA hK hE hS hW hl
  have hown : s.vm.findClass RX10 = some m.cls := hown
  have hW : zPD D A [(a0, .inr (9, [w1, w2, w3, w4, w5, w6, w7, w8, w9, w10, w11, w12, w13, w14, w15, w16, .int 0, .int 0, w17, w18, w19, w20, w21, w22, w23, w24, w25, w26, w27, w28, w29, w30, w31, w32, w33, w34, w35, w36, w37, w38, w39, w40, w41, w42, w43, w44, w45, w46, w47, w48, w49, w50, w51, w52, w53, w54, w55, w56, w57, w58, w59, w60, w61, w62, w63, w64, w65, w66, w67, w68, w69, w70, w71, w72, w73, w74]))] H := hW
  have hl : lv_has ls 1 [(0, .ref a0)] := hl
  refine lv_aload_n hx hb dX10_peek_0 rfl (lv_at hl 0 rfl) ?_
  refine zget hx hb ht inlX10 hown hK hW 0 rfl rfl 17 (by decide) zm_157 rfl dX10_peek_1 ?_
  refine lv_aload_n hx hb dX10_peek_4 rfl (lv_at hl 0 rfl) ?_
  refine zget hx hb ht inlX10 hown hK hW 0 rfl rfl 16 (by decide) zm_156 rfl dX10_peek_5 ?_
  refine lv_icmp_ge (tgt := 23) hx hb dX10_peek_8 (by decide) (fun c1_ => ?_) (fun c1_ => absurd (by decide) c1_)
  refine lv_iconst (v := (-1)) hx hb dX10_peek_23 (by decide) ?_
  exact zret_i (v := (-1)) hx hb hr hlocks hS () rfl hW (Nat.le_of_ble_eq_true rfl) (Nat.le_of_ble_eq_true rfl) dX10_peek_24
set_option maxHeartbeats 8000000 in
set_option maxRecDepth 100000 in
theorem zc_X10_takes_0 (l : Launch) (D : va_G) (y : Nat → ClassId) (a0 : Nat) (w1 : Value) (w2 : Value) (w3 : Value) (w4 : Value) (w5 : Value) (w6 : Value) (w7 : Value) (w8 : Value) (w9 : Value) (w10 : Value) (w11 : Value) (w12 : Value) (w13 : Value) (w14 : Value) (w15 : Value) (w16 : Value) (w17 : Value) (w18 : Value) (w19 : Value) (w20 : Value) (w21 : Value) (w22 : Value) (w23 : Value) (w24 : Value) (w25 : Value) (w26 : Value) (w27 : Value) (w28 : Value) (w29 : Value) (w30 : Value) (w31 : Value) (w32 : Value) (w33 : Value) (w34 : Value) (w35 : Value) (w36 : Value) (w37 : Value) (w38 : Value) (w39 : Value) (w40 : Value) (w41 : Value) (w42 : Value) (w43 : Value) (w44 : Value) (w45 : Value) (w46 : Value) (w47 : Value) (w48 : Value) (w49 : Value) (w50 : Value) (w51 : Value) (w52 : Value) (w53 : Value) (w54 : Value) (w55 : Value) (w56 : Value) (w57 : Value) (w58 : Value) (w59 : Value) (w60 : Value) (w61 : Value) (w62 : Value) (w63 : Value) (w64 : Value) (w65 : Value) (w66 : Value) (w67 : Value) (w68 : Value) (w69 : Value) (w70 : Value) (w71 : Value) (w72 : Value) (w73 : Value) (w74 : Value) : zM l D y yX10_takes (Cond.code yX10_takes cX10_takes 2 (some .boolean) :: zT) { frames := 1, cells := 0, slots := 0, locals := 20 } [.ref a0, .int 108] [(a0, .inr (9, [w1, w2, w3, w4, w5, w6, w7, w8, w9, w10, w11, w12, w13, w14, w15, w16, .int 0, .int 0, w17, w18, w19, w20, w21, w22, w23, w24, w25, w26, w27, w28, w29, w30, w31, w32, w33, w34, w35, w36, w37, w38, w39, w40, w41, w42, w43, w44, w45, w46, w47, w48, w49, w50, w51, w52, w53, w54, w55, w56, w57, w58, w59, w60, w61, w62, w63, w64, w65, w66, w67, w68, w69, w70, w71, w72, w73, w74]))] (zQi (S := Unit) D (fun r_ _ => r_ = 0) (fun _ => [(a0, .inr (9, [w1, w2, w3, w4, w5, w6, w7, w8, w9, w10, w11, w12, w13, w14, w15, w16, .int 0, .int 0, w17, w18, w19, w20, w21, w22, w23, w24, w25, w26, w27, w28, w29, w30, w31, w32, w33, w34, w35, w36, w37, w38, w39, w40, w41, w42, w43, w44, w45, w46, w47, w48, w49, w50, w51, w52, w53, w54, w55, w56, w57, w58, w59, w60, w61, w62, w63, w64, w65, w66, w67, w68, w69, w70, w71, w72, w73, w74]))])) := by
  refine zent (cc := cX10_takes) (maxL := 2) (ret := (some .boolean)) (by decide) (Nat.le_of_ble_eq_true rfl) ?_
  intro p e s m below meth c A H locs ls hx hb hml hr ht hown hlocks hin hA hK hE hS hW hl
  have hown : s.vm.findClass RX10 = some m.cls := hown
  have hW : zPD D A [(a0, .inr (9, [w1, w2, w3, w4, w5, w6, w7, w8, w9, w10, w11, w12, w13, w14, w15, w16, .int 0, .int 0, w17, w18, w19, w20, w21, w22, w23, w24, w25, w26, w27, w28, w29, w30, w31, w32, w33, w34, w35, w36, w37, w38, w39, w40, w41, w42, w43, w44, w45, w46, w47, w48, w49, w50, w51, w52, w53, w54, w55, w56, w57, w58, w59, w60, w61, w62, w63, w64, w65, w66, w67, w68, w69, w70, w71, w72, w73, w74]))] H := hW
  have hl : lv_has ls 2 [(0, .ref a0), (1, .int 108)] := hl
  refine lv_aload_n hx hb dX10_takes_0 rfl (lv_at hl 0 rfl) ?_
  refine zgo_i (wr := []) (zrunV (As := []) (rest := []) ⟨hx, hb, hml, hown, ht⟩ (zc_X10_peek_0 l D y a0 w1 w2 w3 w4 w5 w6 w7 w8 w9 w10 w11 w12 w13 w14 w15 w16 w17 w18 w19 w20 w21 w22 w23 w24 w25 w26 w27 w28 w29 w30 w31 w32 w33 w34 w35 w36 w37 w38 w39 w40 w41 w42 w43 w44 w45 w46 w47 w48 w49 w50 w51 w52 w53 w54 w55 w56 w57 w58 w59 w60 w61 w62 w63 w64 w65 w66 w67 w68 w69 w70 w71 w72 w73 w74) (cwV 0 ht (zgV zm_655 zm_656 zm_657 zm_5 zm_658) rfl rfl rfl (by decide +kernel) ⟨(Nat.le_of_ble_eq_true rfl), (Nat.le_of_ble_eq_true rfl)⟩) hK hE hS hA hW [0] (by decide) rfl 0 rfl rfl rfl rfl hl.1 rfl (Nat.le_of_ble_eq_true rfl) dX10_takes_1 (Nat.le_of_ble_eq_true rfl) (Nat.le_of_ble_eq_true rfl)) hS hA hW [0] [] rfl rfl (by decide) (by decide) (fun r1_ u H locs hw hW hS => ?_)
  have hW : zPD D A [(a0, .inr (9, [w1, w2, w3, w4, w5, w6, w7, w8, w9, w10, w11, w12, w13, w14, w15, w16, .int 0, .int 0, w17, w18, w19, w20, w21, w22, w23, w24, w25, w26, w27, w28, w29, w30, w31, w32, w33, w34, w35, w36, w37, w38, w39, w40, w41, w42, w43, w44, w45, w46, w47, w48, w49, w50, w51, w52, w53, w54, w55, w56, w57, w58, w59, w60, w61, w62, w63, w64, w65, w66, w67, w68, w69, w70, w71, w72, w73, w74]))] H := hW
  have hw : r1_ = (-1) := hw
  subst hw
  refine lv_iload_n hx hb dX10_takes_4 rfl (lv_at hl 1 rfl) ?_
  refine lv_icmp_eq (tgt := 10) hx hb dX10_takes_5 (by decide) (fun c2_ => absurd c2_ (by decide)) (fun c2_ => ?_)
  refine lv_iconst (v := 0) hx hb dX10_takes_8 (by decide) ?_
  exact zret_z (v := 0) hx hb hr hlocks hS () rfl rfl hW (Nat.le_of_ble_eq_true rfl) (Nat.le_of_ble_eq_true rfl) dX10_takes_9
set_option maxHeartbeats 8000000 in
set_option maxRecDepth 100000 in
theorem zc_X10_takesWord_0 (l : Launch) (D : va_G) (y : Nat → ClassId) (a0 : Nat) (w1 : Value) (w2 : Value) (w3 : Value) (w4 : Value) (w5 : Value) (w6 : Value) (w7 : Value) (w8 : Value) (w9 : Value) (w10 : Value) (w11 : Value) (w12 : Value) (w13 : Value) (w14 : Value) (w15 : Value) (w16 : Value) (w17 : Value) (w18 : Value) (w19 : Value) (w20 : Value) (w21 : Value) (w22 : Value) (w23 : Value) (w24 : Value) (w25 : Value) (w26 : Value) (w27 : Value) (w28 : Value) (a29 : Nat) (w30 : Value) (w31 : Value) (w32 : Value) (w33 : Value) (w34 : Value) (w35 : Value) (w36 : Value) (w37 : Value) (w38 : Value) (w39 : Value) (w40 : Value) (w41 : Value) (w42 : Value) (w43 : Value) (w44 : Value) (w45 : Value) (w46 : Value) (w47 : Value) (w48 : Value) (w49 : Value) (w50 : Value) (w51 : Value) (w52 : Value) (w53 : Value) (w54 : Value) (w55 : Value) (w56 : Value) (w57 : Value) (w58 : Value) (w59 : Value) (w60 : Value) (w61 : Value) (w62 : Value) (w63 : Value) (w64 : Value) (w65 : Value) (w66 : Value) (w67 : Value) (w68 : Value) (w69 : Value) (w70 : Value) (w71 : Value) (w72 : Value) (w73 : Value) (w74 : Value) : zM l D y yX10_takesWord (Cond.code yX10_takesWord cX10_takesWord 4 (some .boolean) :: zT) { frames := 2, cells := 0, slots := 0, locals := 41 } [.ref a0, .int 11, .int 4] [(a0, .inr (9, [w1, w2, w3, w4, w5, w6, w7, w8, w9, w10, w11, w12, w13, w14, w15, w16, .int 0, .int 0, w17, w18, w19, w20, w21, w22, w23, w24, w25, w26, w27, w28, .ref a29, w30, w31, w32, w33, w34, w35, w36, w37, w38, w39, w40, w41, w42, w43, w44, w45, w46, w47, w48, w49, w50, w51, w52, w53, w54, w55, w56, w57, w58, w59, w60, w61, w62, w63, w64, w65, w66, w67, w68, w69, w70, w71, w72, w73, w74])), (a29, .inl (y 0, 15, .inl (upd (upd (upd (upd (upd (upd (upd (upd (upd (upd (upd (upd (upd (upd (upd (fun _ => 0) 0 119) 1 101) 2 116) 3 100) 4 114) 5 121) 6 115) 7 116) 8 97) 9 105) 10 114) 11 108) 12 97) 13 115) 14 116)))] (zQi (S := Unit) D (fun r_ _ => r_ = 0) (fun _ => [(a0, .inr (9, [w1, w2, w3, w4, w5, w6, w7, w8, w9, w10, w11, w12, w13, w14, w15, w16, .int 0, .int 0, w17, w18, w19, w20, w21, w22, w23, w24, w25, w26, w27, w28, .ref a29, w30, w31, w32, w33, w34, w35, w36, w37, w38, w39, w40, w41, w42, w43, w44, w45, w46, w47, w48, w49, w50, w51, w52, w53, w54, w55, w56, w57, w58, w59, w60, w61, w62, w63, w64, w65, w66, w67, w68, w69, w70, w71, w72, w73, w74])), (a29, .inl (y 0, 15, .inl (upd (upd (upd (upd (upd (upd (upd (upd (upd (upd (upd (upd (upd (upd (upd (fun _ => 0) 0 119) 1 101) 2 116) 3 100) 4 114) 5 121) 6 115) 7 116) 8 97) 9 105) 10 114) 11 108) 12 97) 13 115) 14 116)))])) := by
  refine zent (cc := cX10_takesWord) (maxL := 4) (ret := (some .boolean)) (by decide) (Nat.le_of_ble_eq_true rfl) ?_
  intro p e s m below meth c A H locs ls hx hb hml hr ht hown hlocks hin hA hK hE hS hW hl
  have hown : s.vm.findClass RX10 = some m.cls := hown
  have hW : zPD D A [(a0, .inr (9, [w1, w2, w3, w4, w5, w6, w7, w8, w9, w10, w11, w12, w13, w14, w15, w16, .int 0, .int 0, w17, w18, w19, w20, w21, w22, w23, w24, w25, w26, w27, w28, .ref a29, w30, w31, w32, w33, w34, w35, w36, w37, w38, w39, w40, w41, w42, w43, w44, w45, w46, w47, w48, w49, w50, w51, w52, w53, w54, w55, w56, w57, w58, w59, w60, w61, w62, w63, w64, w65, w66, w67, w68, w69, w70, w71, w72, w73, w74])), (a29, .inl (y 0, 15, .inl (upd (upd (upd (upd (upd (upd (upd (upd (upd (upd (upd (upd (upd (upd (upd (fun _ => 0) 0 119) 1 101) 2 116) 3 100) 4 114) 5 121) 6 115) 7 116) 8 97) 9 105) 10 114) 11 108) 12 97) 13 115) 14 116)))] H := hW
  have hl : lv_has ls 4 [(0, .ref a0), (1, .int 11), (2, .int 4)] := hl
  refine lv_iconst (v := 0) hx hb dX10_takesWord_0 (by decide) ?_
  refine lv_istore_n (lv' := [(3, .int 0), (0, .ref a0), (1, .int 11), (2, .int 4)]) hx hb dX10_takesWord_1 rfl hl (by decide) rfl (fun ls hl => ?_)
  refine lv_iload_n hx hb dX10_takesWord_2 rfl (lv_at hl 0 rfl) ?_
  refine lv_iload_n hx hb dX10_takesWord_3 rfl (lv_at hl 3 rfl) ?_
  refine lv_icmp_ge (tgt := 30) hx hb dX10_takesWord_4 (by decide) (fun c1_ => absurd c1_ (by decide)) (fun c1_ => ?_)
  refine lv_aload_n hx hb dX10_takesWord_7 rfl (lv_at hl 1 rfl) ?_
  refine lv_aload_n hx hb dX10_takesWord_8 rfl (lv_at hl 1 rfl) ?_
  refine zget hx hb ht inlX10 hown hK hW 0 rfl rfl 30 (by decide) zm_170 rfl dX10_takesWord_9 ?_
  refine lv_iload_n hx hb dX10_takesWord_12 rfl (lv_at hl 2 rfl) ?_
  refine lv_iload_n hx hb dX10_takesWord_13 rfl (lv_at hl 0 rfl) ?_
  refine lv_iadd hx hb dX10_takesWord_14 ?_
  refine ztop (w := .int 11) (congrArg Value.int (by decide)) ?_
  refine ziald (v := 108) hx hb hK hW 1 rfl (by unfold vp_in; decide) rfl dX10_takesWord_15 ?_
  refine zgo_i (wr := [(a29, .inl (y 0, 15, .inl (upd (upd (upd (upd (upd (upd (upd (upd (upd (upd (upd (upd (upd (upd (upd (fun _ => 0) 0 119) 1 101) 2 116) 3 100) 4 114) 5 121) 6 115) 7 116) 8 97) 9 105) 10 114) 11 108) 12 97) 13 115) 14 116)))]) (zrunV (As := [.int 108]) (rest := []) ⟨hx, hb, hml, hown, ht⟩ (zc_X10_takes_0 l D y a0 w1 w2 w3 w4 w5 w6 w7 w8 w9 w10 w11 w12 w13 w14 w15 w16 w17 w18 w19 w20 w21 w22 w23 w24 w25 w26 w27 w28 (.ref a29) w30 w31 w32 w33 w34 w35 w36 w37 w38 w39 w40 w41 w42 w43 w44 w45 w46 w47 w48 w49 w50 w51 w52 w53 w54 w55 w56 w57 w58 w59 w60 w61 w62 w63 w64 w65 w66 w67 w68 w69 w70 w71 w72 w73 w74) (cwV 1 ht (zgV zm_663 zm_664 zm_665 zm_5 zm_666) rfl rfl rfl (by decide +kernel) ⟨(Nat.le_of_ble_eq_true rfl), (Nat.le_of_ble_eq_true rfl)⟩) hK hE hS hA hW [0] (by decide) rfl 0 rfl rfl rfl rfl hl.1 rfl (Nat.le_of_ble_eq_true rfl) dX10_takesWord_16 (Nat.le_of_ble_eq_true rfl) (Nat.le_of_ble_eq_true rfl)) hS hA hW [0] [1] rfl rfl (by decide) (by decide) (fun r2_ u H locs hw hW hS => ?_)
  have hW : zPD D A [(a29, .inl (y 0, 15, .inl (upd (upd (upd (upd (upd (upd (upd (upd (upd (upd (upd (upd (upd (upd (upd (fun _ => 0) 0 119) 1 101) 2 116) 3 100) 4 114) 5 121) 6 115) 7 116) 8 97) 9 105) 10 114) 11 108) 12 97) 13 115) 14 116))), (a0, .inr (9, [w1, w2, w3, w4, w5, w6, w7, w8, w9, w10, w11, w12, w13, w14, w15, w16, .int 0, .int 0, w17, w18, w19, w20, w21, w22, w23, w24, w25, w26, w27, w28, .ref a29, w30, w31, w32, w33, w34, w35, w36, w37, w38, w39, w40, w41, w42, w43, w44, w45, w46, w47, w48, w49, w50, w51, w52, w53, w54, w55, w56, w57, w58, w59, w60, w61, w62, w63, w64, w65, w66, w67, w68, w69, w70, w71, w72, w73, w74]))] H := hW
  have hw : r2_ = 0 := hw
  subst hw
  refine lv_if_ne (tgt := 24) hx hb dX10_takesWord_19 (by decide) (fun c3_ => absurd (by decide) c3_) (fun c3_ => ?_)
  refine lv_iconst (v := 0) hx hb dX10_takesWord_22 (by decide) ?_
  exact zret_z (v := 0) hx hb hr hlocks hS () rfl rfl (hW.sub [1, 0] (by decide) rfl) (Nat.le_of_ble_eq_true rfl) (Nat.le_of_ble_eq_true rfl) dX10_takesWord_23
set_option maxHeartbeats 8000000 in
set_option maxRecDepth 100000 in
theorem zc_X10_takesHead_0 (l : Launch) (D : va_G) (y : Nat → ClassId) (a0 : Nat) (w1 : Value) (w2 : Value) (w3 : Value) (w4 : Value) (w5 : Value) (w6 : Value) (w7 : Value) (w8 : Value) (w9 : Value) (w10 : Value) (w11 : Value) (w12 : Value) (w13 : Value) (w14 : Value) (w15 : Value) (w16 : Value) (w17 : Value) (w18 : Value) (w19 : Value) (a20 : Nat) (w21 : Value) (w22 : Value) (w23 : Value) (w24 : Value) (w25 : Value) (w26 : Value) (w27 : Value) (w28 : Value) (a29 : Nat) (w30 : Value) (w31 : Value) (w32 : Value) (w33 : Value) (w34 : Value) (w35 : Value) (w36 : Value) (w37 : Value) (w38 : Value) (w39 : Value) (w40 : Value) (w41 : Value) (w42 : Value) (w43 : Value) (w44 : Value) (w45 : Value) (w46 : Value) (w47 : Value) (w48 : Value) (w49 : Value) (w50 : Value) (w51 : Value) (w52 : Value) (w53 : Value) (w54 : Value) (w55 : Value) (w56 : Value) (w57 : Value) (w58 : Value) (w59 : Value) (w60 : Value) (w61 : Value) (w62 : Value) (w63 : Value) (w64 : Value) (w65 : Value) (w66 : Value) (w67 : Value) (w68 : Value) (w69 : Value) (w70 : Value) (w71 : Value) (w72 : Value) (w73 : Value) (w74 : Value) : zM l D y yX10_takesHead (Cond.code yX10_takesHead cX10_takesHead 2 (some .boolean) :: zT) { frames := 3, cells := 0, slots := 0, locals := 64 } [.ref a0, .int 0] [(a0, .inr (9, [w1, w2, w3, w4, w5, w6, w7, w8, w9, w10, w11, w12, w13, w14, w15, w16, .int 0, .int 0, w17, w18, w19, .ref a20, w21, w22, w23, w24, w25, w26, w27, w28, .ref a29, w30, w31, w32, w33, w34, w35, w36, w37, w38, w39, w40, w41, w42, w43, w44, w45, w46, w47, w48, w49, w50, w51, w52, w53, w54, w55, w56, w57, w58, w59, w60, w61, w62, w63, w64, w65, w66, w67, w68, w69, w70, w71, w72, w73, w74])), (a20, .inl (y 0, 60, .inl (fun _ => 0))), (a29, .inl (y 0, 15, .inl (upd (upd (upd (upd (upd (upd (upd (upd (upd (upd (upd (upd (upd (upd (upd (fun _ => 0) 0 119) 1 101) 2 116) 3 100) 4 114) 5 121) 6 115) 7 116) 8 97) 9 105) 10 114) 11 108) 12 97) 13 115) 14 116)))] (zQi (S := Unit) D (fun r_ _ => r_ = 0) (fun _ => [(a0, .inr (9, [w1, w2, w3, w4, w5, w6, w7, w8, w9, w10, w11, w12, w13, w14, w15, w16, .int 0, .int 0, w17, w18, w19, .ref a20, w21, w22, w23, w24, w25, w26, w27, w28, .ref a29, w30, w31, w32, w33, w34, w35, w36, w37, w38, w39, w40, w41, w42, w43, w44, w45, w46, w47, w48, w49, w50, w51, w52, w53, w54, w55, w56, w57, w58, w59, w60, w61, w62, w63, w64, w65, w66, w67, w68, w69, w70, w71, w72, w73, w74])), (a20, .inl (y 0, 60, .inl (upd (fun _ => 0) 0 3))), (a29, .inl (y 0, 15, .inl (upd (upd (upd (upd (upd (upd (upd (upd (upd (upd (upd (upd (upd (upd (upd (fun _ => 0) 0 119) 1 101) 2 116) 3 100) 4 114) 5 121) 6 115) 7 116) 8 97) 9 105) 10 114) 11 108) 12 97) 13 115) 14 116)))])) := by
  refine zent (cc := cX10_takesHead) (maxL := 2) (ret := (some .boolean)) (by decide) (Nat.le_of_ble_eq_true rfl) ?_
  intro p e s m below meth c A H locs ls hx hb hml hr ht hown hlocks hin hA hK hE hS hW hl
  have hown : s.vm.findClass RX10 = some m.cls := hown
  have hW : zPD D A [(a0, .inr (9, [w1, w2, w3, w4, w5, w6, w7, w8, w9, w10, w11, w12, w13, w14, w15, w16, .int 0, .int 0, w17, w18, w19, .ref a20, w21, w22, w23, w24, w25, w26, w27, w28, .ref a29, w30, w31, w32, w33, w34, w35, w36, w37, w38, w39, w40, w41, w42, w43, w44, w45, w46, w47, w48, w49, w50, w51, w52, w53, w54, w55, w56, w57, w58, w59, w60, w61, w62, w63, w64, w65, w66, w67, w68, w69, w70, w71, w72, w73, w74])), (a20, .inl (y 0, 60, .inl (fun _ => 0))), (a29, .inl (y 0, 15, .inl (upd (upd (upd (upd (upd (upd (upd (upd (upd (upd (upd (upd (upd (upd (upd (fun _ => 0) 0 119) 1 101) 2 116) 3 100) 4 114) 5 121) 6 115) 7 116) 8 97) 9 105) 10 114) 11 108) 12 97) 13 115) 14 116)))] H := hW
  have hl : lv_has ls 2 [(0, .ref a0), (1, .int 0)] := hl
  refine lv_aload_n hx hb dX10_takesHead_0 rfl (lv_at hl 0 rfl) ?_
  refine zgo_i (wr := [(a20, .inl (y 0, 60, .inl (fun _ => 0))), (a29, .inl (y 0, 15, .inl (upd (upd (upd (upd (upd (upd (upd (upd (upd (upd (upd (upd (upd (upd (upd (fun _ => 0) 0 119) 1 101) 2 116) 3 100) 4 114) 5 121) 6 115) 7 116) 8 97) 9 105) 10 114) 11 108) 12 97) 13 115) 14 116)))]) (zrunV (As := []) (rest := []) ⟨hx, hb, hml, hown, ht⟩ (zc_X10_peek_0 l D y a0 w1 w2 w3 w4 w5 w6 w7 w8 w9 w10 w11 w12 w13 w14 w15 w16 w17 w18 w19 (.ref a20) w21 w22 w23 w24 w25 w26 w27 w28 (.ref a29) w30 w31 w32 w33 w34 w35 w36 w37 w38 w39 w40 w41 w42 w43 w44 w45 w46 w47 w48 w49 w50 w51 w52 w53 w54 w55 w56 w57 w58 w59 w60 w61 w62 w63 w64 w65 w66 w67 w68 w69 w70 w71 w72 w73 w74) (cwV 0 ht (zgV zm_655 zm_656 zm_657 zm_5 zm_658) rfl rfl rfl (by decide +kernel) ⟨(Nat.le_of_ble_eq_true rfl), (Nat.le_of_ble_eq_true rfl)⟩) hK hE hS hA hW [0] (by decide) rfl 0 rfl rfl rfl rfl hl.1 rfl (Nat.le_of_ble_eq_true rfl) dX10_takesHead_1 (Nat.le_of_ble_eq_true rfl) (Nat.le_of_ble_eq_true rfl)) hS hA hW [0] [1, 2] rfl rfl (by decide) (by decide) (fun r1_ u H locs hw hW hS => ?_)
  have hW : zPD D A [(a20, .inl (y 0, 60, .inl (fun _ => 0))), (a29, .inl (y 0, 15, .inl (upd (upd (upd (upd (upd (upd (upd (upd (upd (upd (upd (upd (upd (upd (upd (fun _ => 0) 0 119) 1 101) 2 116) 3 100) 4 114) 5 121) 6 115) 7 116) 8 97) 9 105) 10 114) 11 108) 12 97) 13 115) 14 116))), (a0, .inr (9, [w1, w2, w3, w4, w5, w6, w7, w8, w9, w10, w11, w12, w13, w14, w15, w16, .int 0, .int 0, w17, w18, w19, .ref a20, w21, w22, w23, w24, w25, w26, w27, w28, .ref a29, w30, w31, w32, w33, w34, w35, w36, w37, w38, w39, w40, w41, w42, w43, w44, w45, w46, w47, w48, w49, w50, w51, w52, w53, w54, w55, w56, w57, w58, w59, w60, w61, w62, w63, w64, w65, w66, w67, w68, w69, w70, w71, w72, w73, w74]))] H := hW
  have hw : r1_ = (-1) := hw
  subst hw
  refine lv_lookup (tgt := 83) hx hb dX10_takesHead_4 (by decide) rfl (by decide) ?_
  refine lv_aload_n hx hb dX10_takesHead_83 rfl (lv_at hl 0 rfl) ?_
  refine zget hx hb ht inlX10 hown hK hW 2 rfl rfl 21 (by decide) zm_161 rfl dX10_takesHead_84 ?_
  refine lv_iload_n hx hb dX10_takesHead_87 rfl (lv_at hl 1 rfl) ?_
  refine lv_iconst (v := 3) hx hb dX10_takesHead_88 (by decide) ?_
  refine ziast (ws' := [(a20, .inl (y 0, 60, .inl (upd (fun _ => 0) 0 3))), (a29, .inl (y 0, 15, .inl (upd (upd (upd (upd (upd (upd (upd (upd (upd (upd (upd (upd (upd (upd (upd (fun _ => 0) 0 119) 1 101) 2 116) 3 100) 4 114) 5 121) 6 115) 7 116) 8 97) 9 105) 10 114) 11 108) 12 97) 13 115) 14 116))), (a0, .inr (9, [w1, w2, w3, w4, w5, w6, w7, w8, w9, w10, w11, w12, w13, w14, w15, w16, .int 0, .int 0, w17, w18, w19, .ref a20, w21, w22, w23, w24, w25, w26, w27, w28, .ref a29, w30, w31, w32, w33, w34, w35, w36, w37, w38, w39, w40, w41, w42, w43, w44, w45, w46, w47, w48, w49, w50, w51, w52, w53, w54, w55, w56, w57, w58, w59, w60, w61, w62, w63, w64, w65, w66, w67, w68, w69, w70, w71, w72, w73, w74]))]) hx hb hK hS hW 0 rfl (by unfold vp_in; decide) rfl rfl dX10_takesHead_89 (fun H locs hW hS => ?_)
  refine lv_aload_n hx hb dX10_takesHead_90 rfl (lv_at hl 0 rfl) ?_
  refine lv_bipush (v := 11) hx hb dX10_takesHead_91 (by decide) ?_
  refine lv_iconst (v := 4) hx hb dX10_takesHead_93 (by decide) ?_
  refine zgo_i (wr := [(a20, .inl (y 0, 60, .inl (upd (fun _ => 0) 0 3)))]) (zrunV (As := [.int 11, .int 4]) (rest := []) ⟨hx, hb, hml, hown, ht⟩ (zc_X10_takesWord_0 l D y a0 w1 w2 w3 w4 w5 w6 w7 w8 w9 w10 w11 w12 w13 w14 w15 w16 w17 w18 w19 (.ref a20) w21 w22 w23 w24 w25 w26 w27 w28 a29 w30 w31 w32 w33 w34 w35 w36 w37 w38 w39 w40 w41 w42 w43 w44 w45 w46 w47 w48 w49 w50 w51 w52 w53 w54 w55 w56 w57 w58 w59 w60 w61 w62 w63 w64 w65 w66 w67 w68 w69 w70 w71 w72 w73 w74) (cwV 2 ht (zgV zm_659 zm_660 zm_661 zm_5 zm_662) rfl rfl rfl (by decide +kernel) ⟨(Nat.le_of_ble_eq_true rfl), (Nat.le_of_ble_eq_true rfl)⟩) hK hE hS hA hW [2, 1] (by decide) rfl 0 rfl rfl rfl rfl hl.1 rfl (Nat.le_of_ble_eq_true rfl) dX10_takesHead_94 (Nat.le_of_ble_eq_true rfl) (Nat.le_of_ble_eq_true rfl)) hS hA hW [2, 1] [0] rfl rfl (by decide) (by decide) (fun r2_ u H locs hw hW hS => ?_)
  have hW : zPD D A [(a20, .inl (y 0, 60, .inl (upd (fun _ => 0) 0 3))), (a0, .inr (9, [w1, w2, w3, w4, w5, w6, w7, w8, w9, w10, w11, w12, w13, w14, w15, w16, .int 0, .int 0, w17, w18, w19, .ref a20, w21, w22, w23, w24, w25, w26, w27, w28, .ref a29, w30, w31, w32, w33, w34, w35, w36, w37, w38, w39, w40, w41, w42, w43, w44, w45, w46, w47, w48, w49, w50, w51, w52, w53, w54, w55, w56, w57, w58, w59, w60, w61, w62, w63, w64, w65, w66, w67, w68, w69, w70, w71, w72, w73, w74])), (a29, .inl (y 0, 15, .inl (upd (upd (upd (upd (upd (upd (upd (upd (upd (upd (upd (upd (upd (upd (upd (fun _ => 0) 0 119) 1 101) 2 116) 3 100) 4 114) 5 121) 6 115) 7 116) 8 97) 9 105) 10 114) 11 108) 12 97) 13 115) 14 116)))] H := hW
  have hw : r2_ = 0 := hw
  subst hw
  exact zret_z (v := 0) hx hb hr hlocks hS () rfl rfl (hW.sub [1, 0, 2] (by decide) rfl) (Nat.le_of_ble_eq_true rfl) (Nat.le_of_ble_eq_true rfl) dX10_takesHead_97
set_option maxHeartbeats 8000000 in
set_option maxRecDepth 100000 in
theorem zc_X10_takesClause_0 (l : Launch) (D : va_G) (y : Nat → ClassId) (a0 : Nat) (w1 : Value) (w2 : Value) (w3 : Value) (w4 : Value) (w5 : Value) (w6 : Value) (w7 : Value) (w8 : Value) (w9 : Value) (w10 : Value) (w11 : Value) (w12 : Value) (w13 : Value) (w14 : Value) (w15 : Value) (w16 : Value) (w17 : Value) (w18 : Value) (w19 : Value) (a20 : Nat) (w21 : Value) (w22 : Value) (w23 : Value) (w24 : Value) (w25 : Value) (w26 : Value) (w27 : Value) (w28 : Value) (a29 : Nat) (w30 : Value) (w31 : Value) (w32 : Value) (w33 : Value) (w34 : Value) (w35 : Value) (w36 : Value) (w37 : Value) (w38 : Value) (w39 : Value) (w40 : Value) (w41 : Value) (w42 : Value) (w43 : Value) (w44 : Value) (w45 : Value) (w46 : Value) (w47 : Value) (w48 : Value) (w49 : Value) (w50 : Value) (w51 : Value) (w52 : Value) (w53 : Value) (w54 : Value) (w55 : Value) (w56 : Value) (w57 : Value) (w58 : Value) (w59 : Value) (w60 : Value) (w61 : Value) (w62 : Value) (w63 : Value) (w64 : Value) (w65 : Value) (w66 : Value) (w67 : Value) (w68 : Value) (w69 : Value) (w70 : Value) (w71 : Value) (w72 : Value) (w73 : Value) (w74 : Value) : zM l D y yX10_takesClause (Cond.code yX10_takesClause cX10_takesClause 2 (some .boolean) :: zT) { frames := 4, cells := 0, slots := 0, locals := 85 } [.ref a0, .int 0] [(a0, .inr (9, [w1, w2, w3, w4, w5, w6, w7, w8, w9, w10, w11, w12, w13, w14, w15, w16, .int 0, .int 0, w17, w18, w19, .ref a20, w21, w22, w23, w24, w25, w26, w27, w28, .ref a29, w30, w31, w32, w33, w34, w35, w36, w37, w38, w39, w40, w41, w42, w43, w44, w45, w46, w47, w48, w49, w50, w51, w52, w53, w54, w55, w56, w57, w58, w59, w60, w61, w62, w63, w64, w65, w66, w67, w68, w69, w70, w71, w72, w73, w74])), (a20, .inl (y 0, 60, .inl (fun _ => 0))), (a29, .inl (y 0, 15, .inl (upd (upd (upd (upd (upd (upd (upd (upd (upd (upd (upd (upd (upd (upd (upd (fun _ => 0) 0 119) 1 101) 2 116) 3 100) 4 114) 5 121) 6 115) 7 116) 8 97) 9 105) 10 114) 11 108) 12 97) 13 115) 14 116)))] (zQi (S := Unit) D (fun r_ _ => r_ = 0) (fun _ => [(a0, .inr (9, [w1, w2, w3, w4, w5, w6, w7, w8, w9, w10, w11, w12, w13, w14, w15, w16, .int 0, .int 0, w17, w18, w19, .ref a20, w21, w22, w23, w24, w25, w26, w27, w28, .ref a29, w30, w31, w32, w33, w34, w35, w36, w37, w38, w39, w40, w41, w42, w43, w44, w45, w46, w47, w48, w49, w50, w51, w52, w53, w54, w55, w56, w57, w58, w59, w60, w61, w62, w63, w64, w65, w66, w67, w68, w69, w70, w71, w72, w73, w74])), (a20, .inl (y 0, 60, .inl (upd (fun _ => 0) 0 3))), (a29, .inl (y 0, 15, .inl (upd (upd (upd (upd (upd (upd (upd (upd (upd (upd (upd (upd (upd (upd (upd (fun _ => 0) 0 119) 1 101) 2 116) 3 100) 4 114) 5 121) 6 115) 7 116) 8 97) 9 105) 10 114) 11 108) 12 97) 13 115) 14 116)))])) := by
  refine zent (cc := cX10_takesClause) (maxL := 2) (ret := (some .boolean)) (by decide) (Nat.le_of_ble_eq_true rfl) ?_
  intro p e s m below meth c A H locs ls hx hb hml hr ht hown hlocks hin hA hK hE hS hW hl
  have hown : s.vm.findClass RX10 = some m.cls := hown
  have hW : zPD D A [(a0, .inr (9, [w1, w2, w3, w4, w5, w6, w7, w8, w9, w10, w11, w12, w13, w14, w15, w16, .int 0, .int 0, w17, w18, w19, .ref a20, w21, w22, w23, w24, w25, w26, w27, w28, .ref a29, w30, w31, w32, w33, w34, w35, w36, w37, w38, w39, w40, w41, w42, w43, w44, w45, w46, w47, w48, w49, w50, w51, w52, w53, w54, w55, w56, w57, w58, w59, w60, w61, w62, w63, w64, w65, w66, w67, w68, w69, w70, w71, w72, w73, w74])), (a20, .inl (y 0, 60, .inl (fun _ => 0))), (a29, .inl (y 0, 15, .inl (upd (upd (upd (upd (upd (upd (upd (upd (upd (upd (upd (upd (upd (upd (upd (fun _ => 0) 0 119) 1 101) 2 116) 3 100) 4 114) 5 121) 6 115) 7 116) 8 97) 9 105) 10 114) 11 108) 12 97) 13 115) 14 116)))] H := hW
  have hl : lv_has ls 2 [(0, .ref a0), (1, .int 0)] := hl
  refine lv_aload_n hx hb dX10_takesClause_0 rfl (lv_at hl 0 rfl) ?_
  refine lv_iload_n hx hb dX10_takesClause_1 rfl (lv_at hl 1 rfl) ?_
  refine zgo_i (wr := []) (zrunV (As := [.int 0]) (rest := []) ⟨hx, hb, hml, hown, ht⟩ (zc_X10_takesHead_0 l D y a0 w1 w2 w3 w4 w5 w6 w7 w8 w9 w10 w11 w12 w13 w14 w15 w16 w17 w18 w19 a20 w21 w22 w23 w24 w25 w26 w27 w28 a29 w30 w31 w32 w33 w34 w35 w36 w37 w38 w39 w40 w41 w42 w43 w44 w45 w46 w47 w48 w49 w50 w51 w52 w53 w54 w55 w56 w57 w58 w59 w60 w61 w62 w63 w64 w65 w66 w67 w68 w69 w70 w71 w72 w73 w74) (cwV 1 ht (zgV zm_651 zm_652 zm_653 zm_5 zm_654) rfl rfl rfl (by decide +kernel) ⟨(Nat.le_of_ble_eq_true rfl), (Nat.le_of_ble_eq_true rfl)⟩) hK hE hS hA hW [0, 1, 2] (by decide) rfl 0 rfl rfl rfl rfl hl.1 rfl (Nat.le_of_ble_eq_true rfl) dX10_takesClause_2 (Nat.le_of_ble_eq_true rfl) (Nat.le_of_ble_eq_true rfl)) hS hA hW [0, 1, 2] [] rfl rfl (by decide) (by decide) (fun r1_ u H locs hw hW hS => ?_)
  have hW : zPD D A [(a0, .inr (9, [w1, w2, w3, w4, w5, w6, w7, w8, w9, w10, w11, w12, w13, w14, w15, w16, .int 0, .int 0, w17, w18, w19, .ref a20, w21, w22, w23, w24, w25, w26, w27, w28, .ref a29, w30, w31, w32, w33, w34, w35, w36, w37, w38, w39, w40, w41, w42, w43, w44, w45, w46, w47, w48, w49, w50, w51, w52, w53, w54, w55, w56, w57, w58, w59, w60, w61, w62, w63, w64, w65, w66, w67, w68, w69, w70, w71, w72, w73, w74])), (a20, .inl (y 0, 60, .inl (upd (fun _ => 0) 0 3))), (a29, .inl (y 0, 15, .inl (upd (upd (upd (upd (upd (upd (upd (upd (upd (upd (upd (upd (upd (upd (upd (fun _ => 0) 0 119) 1 101) 2 116) 3 100) 4 114) 5 121) 6 115) 7 116) 8 97) 9 105) 10 114) 11 108) 12 97) 13 115) 14 116)))] H := hW
  have hw : r1_ = 0 := hw
  subst hw
  refine lv_if_eq (tgt := 15) hx hb dX10_takesClause_5 (by decide) (fun c2_ => ?_) (fun c2_ => absurd (by decide) c2_)
  refine lv_iconst (v := 0) hx hb dX10_takesClause_15 (by decide) ?_
  exact zret_z (v := 0) hx hb hr hlocks hS () rfl rfl hW (Nat.le_of_ble_eq_true rfl) (Nat.le_of_ble_eq_true rfl) dX10_takesClause_16
set_option maxHeartbeats 8000000 in
set_option maxRecDepth 100000 in
theorem zc_X10_goesText_0 (l : Launch) (D : va_G) (y : Nat → ClassId) (a0 : Nat) (w1 : Value) (w2 : Value) (w3 : Value) (w4 : Value) (w5 : Value) (w6 : Value) (w7 : Value) (w8 : Value) (w9 : Value) (w10 : Value) (w11 : Value) (w12 : Value) (w13 : Value) (w14 : Value) (w15 : Value) (w16 : Value) (w17 : Value) (w18 : Value) (w19 : Value) (a20 : Nat) (w21 : Value) (w22 : Value) (w23 : Value) (w24 : Value) (w25 : Value) (w26 : Value) (w27 : Value) (a28 : Nat) (w29 : Value) (w30 : Value) (w31 : Value) (w32 : Value) (w33 : Value) (w34 : Value) (w35 : Value) (w36 : Value) (w37 : Value) (w38 : Value) (w39 : Value) (w40 : Value) (w41 : Value) (w42 : Value) (w43 : Value) (w44 : Value) (w45 : Value) (w46 : Value) (w47 : Value) (w48 : Value) (w49 : Value) (w50 : Value) (w51 : Value) (w52 : Value) (w53 : Value) (w54 : Value) (w55 : Value) (w56 : Value) (w57 : Value) (w58 : Value) (w59 : Value) (w60 : Value) (w61 : Value) (w62 : Value) (w63 : Value) (w64 : Value) (w65 : Value) (w66 : Value) (w67 : Value) (w68 : Value) (w69 : Value) (w70 : Value) (w71 : Value) (w72 : Value) (w73 : Value) : zM l D y yX10_goesText (Cond.code yX10_goesText cX10_goesText 3 (some .boolean) :: zT) { frames := 5, cells := 0, slots := 0, locals := 106 } [.ref a0, .int 0] [(a0, .inr (9, [w1, w2, w3, w4, w5, w6, w7, w8, w9, w10, w11, w12, w13, w14, w15, w16, .int 0, .int 0, w17, w18, w19, .ref a20, w21, w22, w23, w24, w25, .int 0, w26, w27, .ref a28, w29, w30, w31, w32, w33, w34, w35, w36, w37, w38, w39, w40, w41, w42, w43, w44, w45, w46, w47, w48, w49, w50, w51, w52, w53, w54, w55, w56, w57, w58, w59, w60, w61, w62, w63, w64, w65, w66, w67, w68, w69, w70, w71, w72, w73])), (a20, .inl (y 0, 60, .inl (fun _ => 0))), (a28, .inl (y 0, 15, .inl (upd (upd (upd (upd (upd (upd (upd (upd (upd (upd (upd (upd (upd (upd (upd (fun _ => 0) 0 119) 1 101) 2 116) 3 100) 4 114) 5 121) 6 115) 7 116) 8 97) 9 105) 10 114) 11 108) 12 97) 13 115) 14 116)))] (zQi (S := Unit) D (fun r_ _ => r_ = 0) (fun _ => [(a0, .inr (9, [w1, w2, w3, w4, w5, w6, w7, w8, w9, w10, w11, w12, w13, w14, w15, w16, .int 0, .int 0, w17, w18, w19, .ref a20, w21, w22, w23, w24, w25, .int 0, w26, w27, .ref a28, w29, w30, w31, w32, w33, w34, w35, w36, w37, w38, w39, w40, w41, w42, w43, w44, w45, w46, w47, w48, w49, w50, w51, w52, w53, w54, w55, w56, w57, w58, w59, w60, w61, w62, w63, w64, w65, w66, w67, w68, w69, w70, w71, w72, w73])), (a20, .inl (y 0, 60, .inl (upd (fun _ => 0) 0 3))), (a28, .inl (y 0, 15, .inl (upd (upd (upd (upd (upd (upd (upd (upd (upd (upd (upd (upd (upd (upd (upd (fun _ => 0) 0 119) 1 101) 2 116) 3 100) 4 114) 5 121) 6 115) 7 116) 8 97) 9 105) 10 114) 11 108) 12 97) 13 115) 14 116)))])) := by
  refine zent (cc := cX10_goesText) (maxL := 3) (ret := (some .boolean)) (by decide) (Nat.le_of_ble_eq_true rfl) ?_
  intro p e s m below meth c A H locs ls hx hb hml hr ht hown hlocks hin hA hK hE hS hW hl
  have hown : s.vm.findClass RX10 = some m.cls := hown
  have hW : zPD D A [(a0, .inr (9, [w1, w2, w3, w4, w5, w6, w7, w8, w9, w10, w11, w12, w13, w14, w15, w16, .int 0, .int 0, w17, w18, w19, .ref a20, w21, w22, w23, w24, w25, .int 0, w26, w27, .ref a28, w29, w30, w31, w32, w33, w34, w35, w36, w37, w38, w39, w40, w41, w42, w43, w44, w45, w46, w47, w48, w49, w50, w51, w52, w53, w54, w55, w56, w57, w58, w59, w60, w61, w62, w63, w64, w65, w66, w67, w68, w69, w70, w71, w72, w73])), (a20, .inl (y 0, 60, .inl (fun _ => 0))), (a28, .inl (y 0, 15, .inl (upd (upd (upd (upd (upd (upd (upd (upd (upd (upd (upd (upd (upd (upd (upd (fun _ => 0) 0 119) 1 101) 2 116) 3 100) 4 114) 5 121) 6 115) 7 116) 8 97) 9 105) 10 114) 11 108) 12 97) 13 115) 14 116)))] H := hW
  have hl : lv_has ls 3 [(0, .ref a0), (1, .int 0)] := hl
  refine lv_aload_n hx hb dX10_goesText_0 rfl (lv_at hl 0 rfl) ?_
  refine lv_iconst (v := 0) hx hb dX10_goesText_1 (by decide) ?_
  refine zput (ws' := [(a0, .inr (9, [w1, w2, w3, w4, w5, w6, w7, w8, w9, w10, w11, w12, w13, w14, w15, w16, .int 0, .int 0, w17, w18, w19, .ref a20, w21, w22, w23, w24, w25, .int 0, w26, w27, .ref a28, w29, w30, w31, w32, w33, w34, w35, w36, w37, w38, w39, w40, w41, w42, w43, w44, w45, w46, w47, w48, w49, w50, w51, w52, w53, w54, w55, w56, w57, w58, w59, w60, w61, w62, w63, w64, w65, w66, w67, w68, w69, w70, w71, w72, w73])), (a20, .inl (y 0, 60, .inl (fun _ => 0))), (a28, .inl (y 0, 15, .inl (upd (upd (upd (upd (upd (upd (upd (upd (upd (upd (upd (upd (upd (upd (upd (fun _ => 0) 0 119) 1 101) 2 116) 3 100) 4 114) 5 121) 6 115) 7 116) 8 97) 9 105) 10 114) 11 108) 12 97) 13 115) 14 116)))]) hx hb ht inlX10 tyX10 tyX10_ok nmX10 hown hK hS hW 0 rfl rfl 17 (by decide) zm_157 rfl rfl rfl (Nat.le_of_ble_eq_true rfl) rfl dX10_goesText_2 (fun H locs hW hS => ?_)
  refine lv_aload_n hx hb dX10_goesText_5 rfl (lv_at hl 0 rfl) ?_
  refine lv_bipush (v := 100) hx hb dX10_goesText_6 (by decide) ?_
  refine lv_iload_n hx hb dX10_goesText_8 rfl (lv_at hl 1 rfl) ?_
  refine lv_imul hx hb dX10_goesText_9 ?_
  refine ztop (w := .int 0) (congrArg Value.int (by decide)) ?_
  refine zput (ws' := [(a0, .inr (9, [w1, w2, w3, w4, w5, w6, w7, w8, w9, w10, w11, w12, w13, w14, w15, w16, .int 0, .int 0, w17, w18, w19, .ref a20, w21, w22, w23, w24, w25, .int 0, w26, w27, .ref a28, w29, w30, w31, w32, w33, w34, w35, w36, w37, w38, w39, w40, w41, w42, w43, w44, w45, w46, w47, w48, w49, w50, w51, w52, w53, w54, w55, w56, w57, w58, w59, w60, w61, w62, w63, w64, w65, w66, w67, w68, w69, w70, w71, w72, w73])), (a20, .inl (y 0, 60, .inl (fun _ => 0))), (a28, .inl (y 0, 15, .inl (upd (upd (upd (upd (upd (upd (upd (upd (upd (upd (upd (upd (upd (upd (upd (fun _ => 0) 0 119) 1 101) 2 116) 3 100) 4 114) 5 121) 6 115) 7 116) 8 97) 9 105) 10 114) 11 108) 12 97) 13 115) 14 116)))]) hx hb ht inlX10 tyX10 tyX10_ok nmX10 hown hK hS hW 0 rfl rfl 27 (by decide) zm_167 rfl rfl rfl (Nat.le_of_ble_eq_true rfl) rfl dX10_goesText_10 (fun H locs hW hS => ?_)
  refine lv_iconst (v := 0) hx hb dX10_goesText_13 (by decide) ?_
  refine lv_istore_n (lv' := [(2, .int 0), (0, .ref a0), (1, .int 0)]) hx hb dX10_goesText_14 rfl hl (by decide) rfl (fun ls hl => ?_)
  refine lv_aload_n hx hb dX10_goesText_15 rfl (lv_at hl 1 rfl) ?_
  refine lv_bipush (v := 10) hx hb dX10_goesText_16 (by decide) ?_
  refine lv_iload_n hx hb dX10_goesText_18 rfl (lv_at hl 2 rfl) ?_
  refine lv_imul hx hb dX10_goesText_19 ?_
  refine ztop (w := .int 0) (congrArg Value.int (by decide)) ?_
  refine lv_iload_n hx hb dX10_goesText_20 rfl (lv_at hl 0 rfl) ?_
  refine lv_iadd hx hb dX10_goesText_21 ?_
  refine ztop (w := .int 0) (congrArg Value.int (by decide)) ?_
  refine zgo_i (wr := []) (zrunV (As := [.int 0]) (rest := []) ⟨hx, hb, hml, hown, ht⟩ (zc_X10_takesClause_0 l D y a0 w1 w2 w3 w4 w5 w6 w7 w8 w9 w10 w11 w12 w13 w14 w15 w16 w17 w18 w19 a20 w21 w22 w23 w24 w25 (.int 0) w26 w27 a28 w29 w30 w31 w32 w33 w34 w35 w36 w37 w38 w39 w40 w41 w42 w43 w44 w45 w46 w47 w48 w49 w50 w51 w52 w53 w54 w55 w56 w57 w58 w59 w60 w61 w62 w63 w64 w65 w66 w67 w68 w69 w70 w71 w72 w73) (cwV 1 ht (zgV zm_647 zm_648 zm_649 zm_5 zm_650) rfl rfl rfl (by decide +kernel) ⟨(Nat.le_of_ble_eq_true rfl), (Nat.le_of_ble_eq_true rfl)⟩) hK hE hS hA hW [0, 1, 2] (by decide) rfl 0 rfl rfl rfl rfl hl.1 rfl (Nat.le_of_ble_eq_true rfl) dX10_goesText_22 (Nat.le_of_ble_eq_true rfl) (Nat.le_of_ble_eq_true rfl)) hS hA hW [0, 1, 2] [] rfl rfl (by decide) (by decide) (fun r1_ u H locs hw hW hS => ?_)
  have hW : zPD D A [(a0, .inr (9, [w1, w2, w3, w4, w5, w6, w7, w8, w9, w10, w11, w12, w13, w14, w15, w16, .int 0, .int 0, w17, w18, w19, .ref a20, w21, w22, w23, w24, w25, .int 0, w26, w27, .ref a28, w29, w30, w31, w32, w33, w34, w35, w36, w37, w38, w39, w40, w41, w42, w43, w44, w45, w46, w47, w48, w49, w50, w51, w52, w53, w54, w55, w56, w57, w58, w59, w60, w61, w62, w63, w64, w65, w66, w67, w68, w69, w70, w71, w72, w73])), (a20, .inl (y 0, 60, .inl (upd (fun _ => 0) 0 3))), (a28, .inl (y 0, 15, .inl (upd (upd (upd (upd (upd (upd (upd (upd (upd (upd (upd (upd (upd (upd (upd (fun _ => 0) 0 119) 1 101) 2 116) 3 100) 4 114) 5 121) 6 115) 7 116) 8 97) 9 105) 10 114) 11 108) 12 97) 13 115) 14 116)))] H := hW
  have hw : r1_ = 0 := hw
  subst hw
  refine lv_if_ne (tgt := 30) hx hb dX10_goesText_25 (by decide) (fun c2_ => absurd (by decide) c2_) (fun c2_ => ?_)
  refine lv_iconst (v := 0) hx hb dX10_goesText_28 (by decide) ?_
  exact zret_z (v := 0) hx hb hr hlocks hS () rfl rfl hW (Nat.le_of_ble_eq_true rfl) (Nat.le_of_ble_eq_true rfl) dX10_goesText_29
set_option maxHeartbeats 8000000 in
set_option maxRecDepth 100000 in
theorem zc_X10_house_0 (l : Launch) (D : va_G) (y : Nat → ClassId) (a0 : Nat) (w1 : Value) (w2 : Value) (w3 : Value) (w4 : Value) (w5 : Value) (w6 : Value) (w7 : Value) (w8 : Value) (w9 : Value) (w10 : Value) (w11 : Value) (w12 : Value) (w13 : Value) (w14 : Value) (w15 : Value) (w16 : Value) (w17 : Value) (w18 : Value) (a19 : Nat) (w20 : Value) (w21 : Value) (w22 : Value) (w23 : Value) (w24 : Value) (w25 : Value) (w26 : Value) (a27 : Nat) (w28 : Value) (w29 : Value) (w30 : Value) (w31 : Value) (w32 : Value) (w33 : Value) (w34 : Value) (w35 : Value) (w36 : Value) (w37 : Value) (w38 : Value) (w39 : Value) (w40 : Value) (w41 : Value) (w42 : Value) (w43 : Value) (w44 : Value) (w45 : Value) (w46 : Value) (w47 : Value) (w48 : Value) (w49 : Value) (w50 : Value) (w51 : Value) (w52 : Value) (w53 : Value) (w54 : Value) (w55 : Value) (w56 : Value) (w57 : Value) (w58 : Value) (w59 : Value) (w60 : Value) (w61 : Value) (w62 : Value) (w63 : Value) (w64 : Value) (w65 : Value) (w66 : Value) (w67 : Value) (w68 : Value) (w69 : Value) (w70 : Value) (w71 : Value) (w72 : Value) : zM l D y yX10_house (Cond.code yX10_house cX10_house 2 (some .int) :: zT) { frames := 6, cells := 0, slots := 0, locals := 128 } [.ref a0] [(a0, .inr (9, [w1, w2, w3, w4, w5, w6, w7, w8, w9, w10, w11, w12, w13, w14, .int 0, w15, .int 0, .int 0, w16, w17, w18, .ref a19, w20, w21, w22, w23, w24, .int 0, w25, w26, .ref a27, w28, w29, w30, w31, w32, w33, w34, w35, w36, w37, w38, w39, w40, w41, w42, w43, w44, w45, w46, w47, w48, w49, w50, w51, w52, w53, w54, w55, w56, w57, w58, w59, w60, w61, w62, w63, w64, w65, w66, w67, w68, w69, w70, w71, w72])), (a19, .inl (y 0, 60, .inl (fun _ => 0))), (a27, .inl (y 0, 15, .inl (upd (upd (upd (upd (upd (upd (upd (upd (upd (upd (upd (upd (upd (upd (upd (fun _ => 0) 0 119) 1 101) 2 116) 3 100) 4 114) 5 121) 6 115) 7 116) 8 97) 9 105) 10 114) 11 108) 12 97) 13 115) 14 116)))] (zQi (S := Unit) D (fun r_ _ => r_ = (-10)) (fun _ => [])) := by
  refine zent (cc := cX10_house) (maxL := 2) (ret := (some .int)) (by decide) (Nat.le_of_ble_eq_true rfl) ?_
  intro p e s m below meth c A H locs ls hx hb hml hr ht hown hlocks hin hA hK hE hS hW hl
  have hown : s.vm.findClass RX10 = some m.cls := hown
  have hW : zPD D A [(a0, .inr (9, [w1, w2, w3, w4, w5, w6, w7, w8, w9, w10, w11, w12, w13, w14, .int 0, w15, .int 0, .int 0, w16, w17, w18, .ref a19, w20, w21, w22, w23, w24, .int 0, w25, w26, .ref a27, w28, w29, w30, w31, w32, w33, w34, w35, w36, w37, w38, w39, w40, w41, w42, w43, w44, w45, w46, w47, w48, w49, w50, w51, w52, w53, w54, w55, w56, w57, w58, w59, w60, w61, w62, w63, w64, w65, w66, w67, w68, w69, w70, w71, w72])), (a19, .inl (y 0, 60, .inl (fun _ => 0))), (a27, .inl (y 0, 15, .inl (upd (upd (upd (upd (upd (upd (upd (upd (upd (upd (upd (upd (upd (upd (upd (fun _ => 0) 0 119) 1 101) 2 116) 3 100) 4 114) 5 121) 6 115) 7 116) 8 97) 9 105) 10 114) 11 108) 12 97) 13 115) 14 116)))] H := hW
  have hl : lv_has ls 2 [(0, .ref a0)] := hl
  refine lv_aload_n hx hb dX10_house_0 rfl (lv_at hl 0 rfl) ?_
  refine zget hx hb ht inlX10 hown hK hW 0 rfl rfl 14 (by decide) zm_154 rfl dX10_house_1 ?_
  refine lv_bipush (v := 6) hx hb dX10_house_4 (by decide) ?_
  refine lv_icmp_ne (tgt := 12) hx hb dX10_house_6 (by decide) (fun c1_ => ?_) (fun c1_ => absurd c1_ (by decide))
  refine lv_aload_n hx hb dX10_house_12 rfl (lv_at hl 0 rfl) ?_
  refine lv_aload_n hx hb dX10_house_13 rfl (lv_at hl 0 rfl) ?_
  refine zget hx hb ht inlX10 hown hK hW 0 rfl rfl 14 (by decide) zm_154 rfl dX10_house_14 ?_
  refine zgo_i (wr := []) (zrunV (As := [.int 0]) (rest := []) ⟨hx, hb, hml, hown, ht⟩ (zc_X10_goesText_0 l D y a0 w1 w2 w3 w4 w5 w6 w7 w8 w9 w10 w11 w12 w13 w14 (.int 0) w15 w16 w17 w18 a19 w20 w21 w22 w23 w24 w25 w26 a27 w28 w29 w30 w31 w32 w33 w34 w35 w36 w37 w38 w39 w40 w41 w42 w43 w44 w45 w46 w47 w48 w49 w50 w51 w52 w53 w54 w55 w56 w57 w58 w59 w60 w61 w62 w63 w64 w65 w66 w67 w68 w69 w70 w71 w72) (cwV 1 ht (zgV zm_643 zm_644 zm_645 zm_5 zm_646) rfl rfl rfl (by decide +kernel) ⟨(Nat.le_of_ble_eq_true rfl), (Nat.le_of_ble_eq_true rfl)⟩) hK hE hS hA hW [0, 1, 2] (by decide) rfl 0 rfl rfl rfl rfl hl.1 rfl (Nat.le_of_ble_eq_true rfl) dX10_house_17 (Nat.le_of_ble_eq_true rfl) (Nat.le_of_ble_eq_true rfl)) hS hA hW [0, 1, 2] [] rfl rfl (by decide) (by decide) (fun r2_ u H locs hw hW hS => ?_)
  have hW : zPD D A [(a0, .inr (9, [w1, w2, w3, w4, w5, w6, w7, w8, w9, w10, w11, w12, w13, w14, .int 0, w15, .int 0, .int 0, w16, w17, w18, .ref a19, w20, w21, w22, w23, w24, .int 0, w25, w26, .ref a27, w28, w29, w30, w31, w32, w33, w34, w35, w36, w37, w38, w39, w40, w41, w42, w43, w44, w45, w46, w47, w48, w49, w50, w51, w52, w53, w54, w55, w56, w57, w58, w59, w60, w61, w62, w63, w64, w65, w66, w67, w68, w69, w70, w71, w72])), (a19, .inl (y 0, 60, .inl (upd (fun _ => 0) 0 3))), (a27, .inl (y 0, 15, .inl (upd (upd (upd (upd (upd (upd (upd (upd (upd (upd (upd (upd (upd (upd (upd (fun _ => 0) 0 119) 1 101) 2 116) 3 100) 4 114) 5 121) 6 115) 7 116) 8 97) 9 105) 10 114) 11 108) 12 97) 13 115) 14 116)))] H := hW
  have hw : r2_ = 0 := hw
  subst hw
  refine lv_istore_n (lv' := [(1, .int 0), (0, .ref a0)]) hx hb dX10_house_20 rfl hl (by decide) rfl (fun ls hl => ?_)
  refine lv_aload_n hx hb dX10_house_21 rfl (lv_at hl 1 rfl) ?_
  refine lv_iconst (v := 0) hx hb dX10_house_22 (by decide) ?_
  refine zput (ws' := [(a0, .inr (9, [w1, w2, w3, w4, w5, w6, w7, w8, w9, w10, w11, w12, w13, w14, .int 0, w15, .int 0, .int 0, w16, w17, w18, .ref a19, w20, w21, w22, w23, w24, .int 0, w25, w26, .ref a27, w28, w29, w30, w31, w32, w33, w34, w35, w36, w37, w38, w39, w40, w41, w42, w43, w44, w45, w46, w47, w48, w49, w50, w51, w52, w53, w54, w55, w56, w57, w58, w59, w60, w61, w62, w63, w64, w65, w66, w67, w68, w69, w70, w71, w72])), (a19, .inl (y 0, 60, .inl (upd (fun _ => 0) 0 3))), (a27, .inl (y 0, 15, .inl (upd (upd (upd (upd (upd (upd (upd (upd (upd (upd (upd (upd (upd (upd (upd (fun _ => 0) 0 119) 1 101) 2 116) 3 100) 4 114) 5 121) 6 115) 7 116) 8 97) 9 105) 10 114) 11 108) 12 97) 13 115) 14 116)))]) hx hb ht inlX10 tyX10 tyX10_ok nmX10 hown hK hS hW 0 rfl rfl 16 (by decide) zm_156 rfl rfl rfl (Nat.le_of_ble_eq_true rfl) rfl dX10_house_23 (fun H locs hW hS => ?_)
  refine lv_iload_n hx hb dX10_house_26 rfl (lv_at hl 0 rfl) ?_
  refine lv_if_ne (tgt := 38) hx hb dX10_house_27 (by decide) (fun c3_ => absurd (by decide) c3_) (fun c3_ => ?_)
  refine lv_bipush (v := (-10)) hx hb dX10_house_30 (by decide) ?_
  refine lv_aload_n hx hb dX10_house_32 rfl (lv_at hl 1 rfl) ?_
  refine zget hx hb ht inlX10 hown hK hW 0 rfl rfl 17 (by decide) zm_157 rfl dX10_house_33 ?_
  refine lv_isub hx hb dX10_house_36 ?_
  refine ztop (w := .int (-10)) (congrArg Value.int (by decide)) ?_
  exact zret_i (v := (-10)) hx hb hr hlocks hS () rfl (hW.sub [] (by decide) rfl) (Nat.le_of_ble_eq_true rfl) (Nat.le_of_ble_eq_true rfl) dX10_house_37
set_option maxHeartbeats 8000000 in
set_option maxRecDepth 100000 in
theorem zc_X7_openBits_0 (l : Launch) (D : va_G) (y : Nat → ClassId) (a0 : Nat) (w1 : Value) (w2 : Value) (w3 : Value) (w4 : Value) (w5 : Value) (w6 : Value) (w7 : Value) (w8 : Value) (w9 : Value) (w10 : Value) (w11 : Value) : zM l D y yX7_openBits (Cond.code yX7_openBits cX7_openBits 3 (some .int) :: zT) { frames := 0, cells := 0, slots := 0, locals := 0 } [.ref a0] [(a0, .inr (6, [w1, .int 0, w2, w3, w4, w5, w6, w7, w8, w9, w10, w11]))] (zQi (S := Unit) D (fun r_ _ => r_ = 0) (fun _ => [(a0, .inr (6, [w1, .int 0, w2, w3, w4, w5, w6, w7, w8, w9, w10, w11]))])) := by
  refine zent (cc := cX7_openBits) (maxL := 3) (ret := (some .int)) (by decide) (Nat.le_of_ble_eq_true rfl) ?_
  intro p e s m below meth c A H locs ls hx hb hml hr ht hown hlocks hin hA hK hE hS hW hl
  have hown : s.vm.findClass RX7 = some m.cls := hown
  have hW : zPD D A [(a0, .inr (6, [w1, .int 0, w2, w3, w4, w5, w6, w7, w8, w9, w10, w11]))] H := hW
  have hl : lv_has ls 3 [(0, .ref a0)] := hl
  refine lv_iconst (v := 0) hx hb dX7_openBits_0 (by decide) ?_
  refine lv_istore_n (lv' := [(1, .int 0), (0, .ref a0)]) hx hb dX7_openBits_1 rfl hl (by decide) rfl (fun ls hl => ?_)
  refine lv_iconst (v := 0) hx hb dX7_openBits_2 (by decide) ?_
  refine lv_istore_n (lv' := [(2, .int 0), (1, .int 0), (0, .ref a0)]) hx hb dX7_openBits_3 rfl hl (by decide) rfl (fun ls hl => ?_)
  refine lv_iload_n hx hb dX7_openBits_4 rfl (lv_at hl 0 rfl) ?_
  refine lv_aload_n hx hb dX7_openBits_5 rfl (lv_at hl 2 rfl) ?_
  refine zget hx hb ht inlX7 hown hK hW 0 rfl rfl 1 (by decide) zm_67 rfl dX7_openBits_6 ?_
  refine lv_icmp_ge (tgt := 36) hx hb dX7_openBits_9 (by decide) (fun c1_ => ?_) (fun c1_ => absurd (by decide) c1_)
  refine lv_iload_n hx hb dX7_openBits_36 rfl (lv_at hl 1 rfl) ?_
  exact zret_i (v := 0) hx hb hr hlocks hS () rfl hW (Nat.le_of_ble_eq_true rfl) (Nat.le_of_ble_eq_true rfl) dX7_openBits_37
set_option maxHeartbeats 8000000 in
set_option maxRecDepth 100000 in
theorem zc_X9_told_0 (l : Launch) (D : va_G) (y : Nat → ClassId) (a0 : Nat) (p1 : Int32) (w2 : Value) (w3 : Value) (w4 : Value) (a5 : Nat) (w6 : Value) (w7 : Value) (w8 : Value) (w9 : Value) (w10 : Value) (w11 : Value) (a12 : Nat) (w13 : Value) (w14 : Value) (w15 : Value) (w16 : Value) (w17 : Value) (w18 : Value) (w19 : Value) (w20 : Value) (w21 : Value) : zM l D y yX9_told (Cond.code yX9_told cX9_told 2 (some .int) :: zT) { frames := 1, cells := 0, slots := 0, locals := 22 } [.ref a0, .int p1] [(a0, .inr (8, [w2, w3, w4, .ref a5, w6, w7, w8, w9, w10])), (a5, .inr (6, [w11, .int 0, .int 20, .int 0, .int 0, .int 0, .int 0, .int 0, .ref a12, w13, w14, w15])), (a12, .inr (2, [.int 2, .int 15, w16, w17, w18, w19, w20, w21]))] (zQi (S := Unit) D (fun r_ _ => r_ = (if p1 = 0 then 0 else (if p1 = 1 then 0 else (if p1 = 2 then 20 else (if p1 = 3 then 0 else (if p1 = 4 then 2 else (if p1 = 5 then 15 else (if p1 = 6 then 0 else (if p1 = 7 then 0 else (if p1 = 8 then 0 else (-1))))))))))) (fun _ => [])) := by
  refine zent (cc := cX9_told) (maxL := 2) (ret := (some .int)) (by decide) (Nat.le_of_ble_eq_true rfl) ?_
  intro p e s m below meth c A H locs ls hx hb hml hr ht hown hlocks hin hA hK hE hS hW hl
  have hown : s.vm.findClass RX9 = some m.cls := hown
  have hW : zPD D A [(a0, .inr (8, [w2, w3, w4, .ref a5, w6, w7, w8, w9, w10])), (a5, .inr (6, [w11, .int 0, .int 20, .int 0, .int 0, .int 0, .int 0, .int 0, .ref a12, w13, w14, w15])), (a12, .inr (2, [.int 2, .int 15, w16, w17, w18, w19, w20, w21]))] H := hW
  have hl : lv_has ls 2 [(0, .ref a0), (1, .int p1)] := hl
  refine lv_iload_n hx hb dX9_told_0 rfl (lv_at hl 1 rfl) ?_
  by_cases c1_ : p1 = 0
  · refine lv_tableIn (tgt := 52) hx hb dX9_told_1 (by rw [c1_]; decide) (by rw [c1_]; decide) (by rw [c1_]; rfl) (by decide) ?_
    have b2_ : 0 ≤ Int32.toInt p1 ∧ Int32.toInt p1 ≤ 0 := (by have u0 := zbnd p1; have u1 := (zi_eq _ _).mp c1_; have u2 : (0 : Int32).toInt = 0 := (by decide); omega)
    refine lv_aload_n hx hb dX9_told_52 rfl (lv_at hl 0 rfl) ?_
    refine zget hx hb ht inlX9 hown hK hW 0 rfl rfl 3 (by decide) zm_23 rfl dX9_told_53 ?_
    refine zget hx hb ht inlX7 hown hK hW 1 rfl rfl 4 (by decide) zm_262 rfl dX9_told_56 ?_
    exact zret_i (v := 0) hx hb hr hlocks hS () (by show _ = _; rw [if_pos c1_]) (hW.sub [] (by decide) rfl) (Nat.le_of_ble_eq_true rfl) (Nat.le_of_ble_eq_true rfl) dX9_told_59
  · have b3_ : (-2147483648) ≤ Int32.toInt p1 ∧ Int32.toInt p1 ≤ 2147483647 := (by have u0 := zbnd p1; have u1 := (not_congr (zi_eq _ _)).mp c1_; have u2 : (0 : Int32).toInt = 0 := (by decide); omega)
    by_cases c4_ : p1 = 1
    · refine lv_tableIn (tgt := 60) hx hb dX9_told_1 (by rw [c4_]; decide) (by rw [c4_]; decide) (by rw [c4_]; rfl) (by decide) ?_
      have b5_ : 1 ≤ Int32.toInt p1 ∧ Int32.toInt p1 ≤ 1 := (by have u0 := b3_; have u1 := (zi_eq _ _).mp c4_; have u2 : (1 : Int32).toInt = 1 := (by decide); omega)
      refine lv_aload_n hx hb dX9_told_60 rfl (lv_at hl 0 rfl) ?_
      refine zget hx hb ht inlX9 hown hK hW 0 rfl rfl 3 (by decide) zm_23 rfl dX9_told_61 ?_
      refine zget hx hb ht inlX7 hown hK hW 1 rfl rfl 5 (by decide) zm_703 rfl dX9_told_64 ?_
      exact zret_i (v := 0) hx hb hr hlocks hS () (by show _ = _; rw [if_neg c1_, if_pos c4_]) (hW.sub [] (by decide) rfl) (Nat.le_of_ble_eq_true rfl) (Nat.le_of_ble_eq_true rfl) dX9_told_67
    · by_cases c6_ : p1 = 2
      · refine lv_tableIn (tgt := 68) hx hb dX9_told_1 (by rw [c6_]; decide) (by rw [c6_]; decide) (by rw [c6_]; rfl) (by decide) ?_
        have b7_ : 2 ≤ Int32.toInt p1 ∧ Int32.toInt p1 ≤ 2 := (by have u0 := b3_; have u1 := (zi_eq _ _).mp c6_; have u2 : (2 : Int32).toInt = 2 := (by decide); omega)
        refine lv_aload_n hx hb dX9_told_68 rfl (lv_at hl 0 rfl) ?_
        refine zget hx hb ht inlX9 hown hK hW 0 rfl rfl 3 (by decide) zm_23 rfl dX9_told_69 ?_
        refine zget hx hb ht inlX7 hown hK hW 1 rfl rfl 2 (by decide) zm_435 rfl dX9_told_72 ?_
        exact zret_i (v := 20) hx hb hr hlocks hS () (by show _ = _; rw [if_neg c1_, if_neg c4_, if_pos c6_]) (hW.sub [] (by decide) rfl) (Nat.le_of_ble_eq_true rfl) (Nat.le_of_ble_eq_true rfl) dX9_told_75
      · by_cases c8_ : p1 = 3
        · refine lv_tableIn (tgt := 76) hx hb dX9_told_1 (by rw [c8_]; decide) (by rw [c8_]; decide) (by rw [c8_]; rfl) (by decide) ?_
          have b9_ : 3 ≤ Int32.toInt p1 ∧ Int32.toInt p1 ≤ 3 := (by have u0 := b3_; have u1 := (zi_eq _ _).mp c8_; have u2 : (3 : Int32).toInt = 3 := (by decide); omega)
          refine lv_aload_n hx hb dX9_told_76 rfl (lv_at hl 0 rfl) ?_
          refine zget hx hb ht inlX9 hown hK hW 0 rfl rfl 3 (by decide) zm_23 rfl dX9_told_77 ?_
          refine zget hx hb ht inlX7 hown hK hW 1 rfl rfl 3 (by decide) zm_436 rfl dX9_told_80 ?_
          exact zret_i (v := 0) hx hb hr hlocks hS () (by show _ = _; rw [if_neg c1_, if_neg c4_, if_neg c6_, if_pos c8_]) (hW.sub [] (by decide) rfl) (Nat.le_of_ble_eq_true rfl) (Nat.le_of_ble_eq_true rfl) dX9_told_83
        · by_cases c10_ : p1 = 4
          · refine lv_tableIn (tgt := 84) hx hb dX9_told_1 (by rw [c10_]; decide) (by rw [c10_]; decide) (by rw [c10_]; rfl) (by decide) ?_
            have b11_ : 4 ≤ Int32.toInt p1 ∧ Int32.toInt p1 ≤ 4 := (by have u0 := b3_; have u1 := (zi_eq _ _).mp c10_; have u2 : (4 : Int32).toInt = 4 := (by decide); omega)
            refine lv_aload_n hx hb dX9_told_84 rfl (lv_at hl 0 rfl) ?_
            refine zget hx hb ht inlX9 hown hK hW 0 rfl rfl 3 (by decide) zm_23 rfl dX9_told_85 ?_
            refine zget hx hb ht inlX7 hown hK hW 1 rfl rfl 8 (by decide) zm_260 rfl dX9_told_88 ?_
            refine zget hx hb ht inlX2 hown hK hW 2 rfl rfl 0 (by decide) zm_261 rfl dX9_told_91 ?_
            exact zret_i (v := 2) hx hb hr hlocks hS () (by show _ = _; rw [if_neg c1_, if_neg c4_, if_neg c6_, if_neg c8_, if_pos c10_]) (hW.sub [] (by decide) rfl) (Nat.le_of_ble_eq_true rfl) (Nat.le_of_ble_eq_true rfl) dX9_told_94
          · by_cases c12_ : p1 = 5
            · refine lv_tableIn (tgt := 95) hx hb dX9_told_1 (by rw [c12_]; decide) (by rw [c12_]; decide) (by rw [c12_]; rfl) (by decide) ?_
              have b13_ : 5 ≤ Int32.toInt p1 ∧ Int32.toInt p1 ≤ 5 := (by have u0 := b3_; have u1 := (zi_eq _ _).mp c12_; have u2 : (5 : Int32).toInt = 5 := (by decide); omega)
              refine lv_aload_n hx hb dX9_told_95 rfl (lv_at hl 0 rfl) ?_
              refine zget hx hb ht inlX9 hown hK hW 0 rfl rfl 3 (by decide) zm_23 rfl dX9_told_96 ?_
              refine zget hx hb ht inlX7 hown hK hW 1 rfl rfl 8 (by decide) zm_260 rfl dX9_told_99 ?_
              refine zget hx hb ht inlX2 hown hK hW 2 rfl rfl 1 (by decide) zm_704 rfl dX9_told_102 ?_
              exact zret_i (v := 15) hx hb hr hlocks hS () (by show _ = _; rw [if_neg c1_, if_neg c4_, if_neg c6_, if_neg c8_, if_neg c10_, if_pos c12_]) (hW.sub [] (by decide) rfl) (Nat.le_of_ble_eq_true rfl) (Nat.le_of_ble_eq_true rfl) dX9_told_105
            · by_cases c14_ : p1 = 6
              · refine lv_tableIn (tgt := 106) hx hb dX9_told_1 (by rw [c14_]; decide) (by rw [c14_]; decide) (by rw [c14_]; rfl) (by decide) ?_
                have b15_ : 6 ≤ Int32.toInt p1 ∧ Int32.toInt p1 ≤ 6 := (by have u0 := b3_; have u1 := (zi_eq _ _).mp c14_; have u2 : (6 : Int32).toInt = 6 := (by decide); omega)
                refine lv_aload_n hx hb dX9_told_106 rfl (lv_at hl 0 rfl) ?_
                refine zget hx hb ht inlX9 hown hK hW 0 rfl rfl 3 (by decide) zm_23 rfl dX9_told_107 ?_
                refine zget hx hb ht inlX7 hown hK hW 1 rfl rfl 6 (by decide) zm_258 rfl dX9_told_110 ?_
                exact zret_i (v := 0) hx hb hr hlocks hS () (by show _ = _; rw [if_neg c1_, if_neg c4_, if_neg c6_, if_neg c8_, if_neg c10_, if_neg c12_, if_pos c14_]) (hW.sub [] (by decide) rfl) (Nat.le_of_ble_eq_true rfl) (Nat.le_of_ble_eq_true rfl) dX9_told_113
              · by_cases c16_ : p1 = 7
                · refine lv_tableIn (tgt := 114) hx hb dX9_told_1 (by rw [c16_]; decide) (by rw [c16_]; decide) (by rw [c16_]; rfl) (by decide) ?_
                  have b17_ : 7 ≤ Int32.toInt p1 ∧ Int32.toInt p1 ≤ 7 := (by have u0 := b3_; have u1 := (zi_eq _ _).mp c16_; have u2 : (7 : Int32).toInt = 7 := (by decide); omega)
                  refine lv_aload_n hx hb dX9_told_114 rfl (lv_at hl 0 rfl) ?_
                  refine zget hx hb ht inlX9 hown hK hW 0 rfl rfl 3 (by decide) zm_23 rfl dX9_told_115 ?_
                  refine zget hx hb ht inlX7 hown hK hW 1 rfl rfl 7 (by decide) zm_259 rfl dX9_told_118 ?_
                  exact zret_i (v := 0) hx hb hr hlocks hS () (by show _ = _; rw [if_neg c1_, if_neg c4_, if_neg c6_, if_neg c8_, if_neg c10_, if_neg c12_, if_neg c14_, if_pos c16_]) (hW.sub [] (by decide) rfl) (Nat.le_of_ble_eq_true rfl) (Nat.le_of_ble_eq_true rfl) dX9_told_121
                · by_cases c18_ : p1 = 8
                  · refine lv_tableIn (tgt := 122) hx hb dX9_told_1 (by rw [c18_]; decide) (by rw [c18_]; decide) (by rw [c18_]; rfl) (by decide) ?_
                    have b19_ : 8 ≤ Int32.toInt p1 ∧ Int32.toInt p1 ≤ 8 := (by have u0 := b3_; have u1 := (zi_eq _ _).mp c18_; have u2 : (8 : Int32).toInt = 8 := (by decide); omega)
                    refine lv_aload_n hx hb dX9_told_122 rfl (lv_at hl 0 rfl) ?_
                    refine zget hx hb ht inlX9 hown hK hW 0 rfl rfl 3 (by decide) zm_23 rfl dX9_told_123 ?_
                    refine zgo_i (wr := [(a0, .inr (8, [w2, w3, w4, .ref a5, w6, w7, w8, w9, w10])), (a12, .inr (2, [.int 2, .int 15, w16, w17, w18, w19, w20, w21]))]) (zrunV (As := []) (rest := []) ⟨hx, hb, hml, hown, ht⟩ (zc_X7_openBits_0 l D y a5 w11 (.int 20) (.int 0) (.int 0) (.int 0) (.int 0) (.int 0) (.ref a12) w13 w14 w15) (cwV 0 ht (zgV zm_705 zm_706 zm_707 zm_22 zm_708) rfl rfl rfl (by decide +kernel) ⟨(Nat.le_of_ble_eq_true rfl), (Nat.le_of_ble_eq_true rfl)⟩) hK hE hS hA hW [1] (by decide) rfl 0 rfl rfl rfl rfl hl.1 rfl (Nat.le_of_ble_eq_true rfl) dX9_told_126 (Nat.le_of_ble_eq_true rfl) (Nat.le_of_ble_eq_true rfl)) hS hA hW [1] [0, 2] rfl rfl (by decide) (by decide) (fun r20_ u H locs hw hW hS => ?_)
                    have hW : zPD D A [(a0, .inr (8, [w2, w3, w4, .ref a5, w6, w7, w8, w9, w10])), (a12, .inr (2, [.int 2, .int 15, w16, w17, w18, w19, w20, w21])), (a5, .inr (6, [w11, .int 0, .int 20, .int 0, .int 0, .int 0, .int 0, .int 0, .ref a12, w13, w14, w15]))] H := hW
                    have hw : r20_ = 0 := hw
                    subst hw
                    exact zret_i (v := 0) hx hb hr hlocks hS () (by show _ = _; rw [if_neg c1_, if_neg c4_, if_neg c6_, if_neg c8_, if_neg c10_, if_neg c12_, if_neg c14_, if_neg c16_, if_pos c18_]) (hW.sub [] (by decide) rfl) (Nat.le_of_ble_eq_true rfl) (Nat.le_of_ble_eq_true rfl) dX9_told_129
                  · refine lv_tableOut (tgt := 130) hx hb dX9_told_1 (by have u0 := (not_congr (zi_eq _ _)).mp c1_; have w0 : (0 : Int32).toInt = 0 := (by decide); have u1 := (not_congr (zi_eq _ _)).mp c4_; have w1 : (1 : Int32).toInt = 1 := (by decide); have u2 := (not_congr (zi_eq _ _)).mp c6_; have w2 : (2 : Int32).toInt = 2 := (by decide); have u3 := (not_congr (zi_eq _ _)).mp c8_; have w3 : (3 : Int32).toInt = 3 := (by decide); have u4 := (not_congr (zi_eq _ _)).mp c10_; have w4 : (4 : Int32).toInt = 4 := (by decide); have u5 := (not_congr (zi_eq _ _)).mp c12_; have w5 : (5 : Int32).toInt = 5 := (by decide); have u6 := (not_congr (zi_eq _ _)).mp c14_; have w6 : (6 : Int32).toInt = 6 := (by decide); have u7 := (not_congr (zi_eq _ _)).mp c16_; have w7 : (7 : Int32).toInt = 7 := (by decide); have u8 := (not_congr (zi_eq _ _)).mp c18_; have w8 : (8 : Int32).toInt = 8 := (by decide); omega) (by decide) ?_
                    refine lv_iconst (v := (-1)) hx hb dX9_told_130 (by decide) ?_
                    exact zret_i (v := (-1)) hx hb hr hlocks hS () (by show _ = _; rw [if_neg c1_, if_neg c4_, if_neg c6_, if_neg c8_, if_neg c10_, if_neg c12_, if_neg c14_, if_neg c16_, if_neg c18_]) (hW.sub [] (by decide) rfl) (Nat.le_of_ble_eq_true rfl) (Nat.le_of_ble_eq_true rfl) dX9_told_131
set_option maxHeartbeats 8000000 in
set_option maxRecDepth 100000 in
theorem zc_X10_firstClause_0 (l : Launch) (D : va_G) (y : Nat → ClassId) (a0 : Nat) (w1 : Value) (w2 : Value) (w3 : Value) (w4 : Value) (w5 : Value) (w6 : Value) (w7 : Value) (w8 : Value) (w9 : Value) (w10 : Value) (w11 : Value) (w12 : Value) (w13 : Value) (w14 : Value) (w15 : Value) (w16 : Value) (w17 : Value) (w18 : Value) (w19 : Value) (w20 : Value) (w21 : Value) (w22 : Value) (w23 : Value) (w24 : Value) (w25 : Value) (w26 : Value) (w27 : Value) (w28 : Value) (w29 : Value) (w30 : Value) (w31 : Value) (w32 : Value) (w33 : Value) (w34 : Value) (w35 : Value) (w36 : Value) (w37 : Value) (w38 : Value) (w39 : Value) (w40 : Value) (w41 : Value) (w42 : Value) (w43 : Value) (w44 : Value) (w45 : Value) (w46 : Value) (w47 : Value) (w48 : Value) (w49 : Value) (w50 : Value) (w51 : Value) (w52 : Value) (w53 : Value) (w54 : Value) (w55 : Value) (w56 : Value) (w57 : Value) (w58 : Value) (w59 : Value) (w60 : Value) (w61 : Value) (w62 : Value) (w63 : Value) (w64 : Value) (w65 : Value) (w66 : Value) (w67 : Value) (w68 : Value) (w69 : Value) (w70 : Value) (w71 : Value) (w72 : Value) (w73 : Value) (w74 : Value) (w75 : Value) : zM l D y yX10_firstClause (Cond.code yX10_firstClause cX10_firstClause 1 (some .int) :: zT) { frames := 0, cells := 0, slots := 0, locals := 0 } [.ref a0] [(a0, .inr (9, [w1, w2, w3, w4, w5, w6, w7, w8, w9, w10, w11, w12, w13, w14, w15, .int (-1), w16, w17, w18, w19, w20, w21, w22, w23, w24, w25, w26, w27, w28, w29, w30, w31, w32, w33, w34, w35, w36, w37, w38, w39, w40, w41, w42, w43, w44, w45, w46, w47, w48, w49, w50, w51, w52, w53, w54, w55, w56, w57, w58, w59, w60, w61, w62, w63, w64, w65, w66, w67, w68, w69, w70, w71, w72, w73, w74, w75]))] (zQi (S := Unit) D (fun r_ _ => r_ = 0) (fun _ => [(a0, .inr (9, [w1, w2, w3, w4, w5, w6, w7, w8, w9, w10, w11, w12, w13, w14, w15, .int (-1), w16, w17, w18, w19, w20, w21, w22, w23, w24, w25, w26, w27, w28, w29, w30, w31, w32, w33, w34, w35, w36, w37, w38, w39, w40, w41, w42, w43, w44, w45, w46, w47, w48, w49, w50, w51, w52, w53, w54, w55, w56, w57, w58, w59, w60, w61, w62, w63, w64, w65, w66, w67, w68, w69, w70, w71, w72, w73, w74, w75]))])) := by
  refine zent (cc := cX10_firstClause) (maxL := 1) (ret := (some .int)) (by decide) (Nat.le_of_ble_eq_true rfl) ?_
  intro p e s m below meth c A H locs ls hx hb hml hr ht hown hlocks hin hA hK hE hS hW hl
  have hown : s.vm.findClass RX10 = some m.cls := hown
  have hW : zPD D A [(a0, .inr (9, [w1, w2, w3, w4, w5, w6, w7, w8, w9, w10, w11, w12, w13, w14, w15, .int (-1), w16, w17, w18, w19, w20, w21, w22, w23, w24, w25, w26, w27, w28, w29, w30, w31, w32, w33, w34, w35, w36, w37, w38, w39, w40, w41, w42, w43, w44, w45, w46, w47, w48, w49, w50, w51, w52, w53, w54, w55, w56, w57, w58, w59, w60, w61, w62, w63, w64, w65, w66, w67, w68, w69, w70, w71, w72, w73, w74, w75]))] H := hW
  have hl : lv_has ls 1 [(0, .ref a0)] := hl
  refine lv_aload_n hx hb dX10_firstClause_0 rfl (lv_at hl 0 rfl) ?_
  refine zget hx hb ht inlX10 hown hK hW 0 rfl rfl 15 (by decide) zm_155 rfl dX10_firstClause_1 ?_
  refine lv_if_ge (tgt := 11) hx hb dX10_firstClause_4 (by decide) (fun c1_ => absurd c1_ (by decide)) (fun c1_ => ?_)
  refine lv_iconst (v := 0) hx hb dX10_firstClause_7 (by decide) ?_
  refine lv_goto (tgt := 18) hx hb dX10_firstClause_8 (by decide) ?_
  exact zret_i (v := 0) hx hb hr hlocks hS () rfl hW (Nat.le_of_ble_eq_true rfl) (Nat.le_of_ble_eq_true rfl) dX10_firstClause_18
set_option maxHeartbeats 8000000 in
set_option maxRecDepth 100000 in
theorem zc_X10_behindClauses_0 (l : Launch) (D : va_G) (y : Nat → ClassId) (a0 : Nat) (w1 : Value) (w2 : Value) (w3 : Value) (w4 : Value) (w5 : Value) (w6 : Value) (w7 : Value) (w8 : Value) (w9 : Value) (w10 : Value) (w11 : Value) (w12 : Value) (w13 : Value) (w14 : Value) (w15 : Value) (w16 : Value) (w17 : Value) (w18 : Value) (w19 : Value) (w20 : Value) (w21 : Value) (w22 : Value) (w23 : Value) (w24 : Value) (w25 : Value) (w26 : Value) (w27 : Value) (w28 : Value) (w29 : Value) (w30 : Value) (w31 : Value) (w32 : Value) (w33 : Value) (w34 : Value) (w35 : Value) (w36 : Value) (w37 : Value) (w38 : Value) (w39 : Value) (w40 : Value) (w41 : Value) (w42 : Value) (w43 : Value) (w44 : Value) (w45 : Value) (w46 : Value) (w47 : Value) (w48 : Value) (w49 : Value) (w50 : Value) (w51 : Value) (w52 : Value) (w53 : Value) (w54 : Value) (w55 : Value) (w56 : Value) (w57 : Value) (w58 : Value) (w59 : Value) (w60 : Value) (w61 : Value) (w62 : Value) (w63 : Value) (w64 : Value) (w65 : Value) (w66 : Value) (w67 : Value) (w68 : Value) (w69 : Value) (w70 : Value) (w71 : Value) (w72 : Value) (w73 : Value) (w74 : Value) (w75 : Value) : zM l D y yX10_behindClauses (Cond.code yX10_behindClauses cX10_behindClauses 1 (some .int) :: zT) { frames := 0, cells := 0, slots := 0, locals := 0 } [.ref a0] [(a0, .inr (9, [w1, w2, w3, w4, w5, w6, w7, w8, w9, w10, w11, w12, w13, w14, w15, .int (-1), w16, w17, w18, w19, w20, w21, w22, w23, w24, w25, w26, w27, w28, w29, w30, w31, w32, w33, w34, w35, w36, w37, w38, w39, w40, w41, w42, w43, w44, w45, w46, w47, w48, w49, w50, w51, w52, w53, w54, w55, w56, w57, w58, w59, w60, w61, w62, w63, w64, w65, w66, w67, w68, w69, w70, w71, w72, w73, w74, w75]))] (zQi (S := Unit) D (fun r_ _ => r_ = 0) (fun _ => [(a0, .inr (9, [w1, w2, w3, w4, w5, w6, w7, w8, w9, w10, w11, w12, w13, w14, w15, .int (-1), w16, w17, w18, w19, w20, w21, w22, w23, w24, w25, w26, w27, w28, w29, w30, w31, w32, w33, w34, w35, w36, w37, w38, w39, w40, w41, w42, w43, w44, w45, w46, w47, w48, w49, w50, w51, w52, w53, w54, w55, w56, w57, w58, w59, w60, w61, w62, w63, w64, w65, w66, w67, w68, w69, w70, w71, w72, w73, w74, w75]))])) := by
  refine zent (cc := cX10_behindClauses) (maxL := 1) (ret := (some .int)) (by decide) (Nat.le_of_ble_eq_true rfl) ?_
  intro p e s m below meth c A H locs ls hx hb hml hr ht hown hlocks hin hA hK hE hS hW hl
  have hown : s.vm.findClass RX10 = some m.cls := hown
  have hW : zPD D A [(a0, .inr (9, [w1, w2, w3, w4, w5, w6, w7, w8, w9, w10, w11, w12, w13, w14, w15, .int (-1), w16, w17, w18, w19, w20, w21, w22, w23, w24, w25, w26, w27, w28, w29, w30, w31, w32, w33, w34, w35, w36, w37, w38, w39, w40, w41, w42, w43, w44, w45, w46, w47, w48, w49, w50, w51, w52, w53, w54, w55, w56, w57, w58, w59, w60, w61, w62, w63, w64, w65, w66, w67, w68, w69, w70, w71, w72, w73, w74, w75]))] H := hW
  have hl : lv_has ls 1 [(0, .ref a0)] := hl
  refine lv_aload_n hx hb dX10_behindClauses_0 rfl (lv_at hl 0 rfl) ?_
  refine zget hx hb ht inlX10 hown hK hW 0 rfl rfl 15 (by decide) zm_155 rfl dX10_behindClauses_1 ?_
  refine lv_if_ge (tgt := 11) hx hb dX10_behindClauses_4 (by decide) (fun c1_ => absurd c1_ (by decide)) (fun c1_ => ?_)
  refine lv_iconst (v := 0) hx hb dX10_behindClauses_7 (by decide) ?_
  refine lv_goto (tgt := 28) hx hb dX10_behindClauses_8 (by decide) ?_
  exact zret_i (v := 0) hx hb hr hlocks hS () rfl hW (Nat.le_of_ble_eq_true rfl) (Nat.le_of_ble_eq_true rfl) dX10_behindClauses_28
set_option maxHeartbeats 8000000 in
set_option maxRecDepth 100000 in
theorem zc_X10_lastOf_0 (l : Launch) (D : va_G) (y : Nat → ClassId) (a0 : Nat) (w1 : Value) (w2 : Value) (w3 : Value) (w4 : Value) (w5 : Value) (w6 : Value) (w7 : Value) (w8 : Value) (w9 : Value) (w10 : Value) (w11 : Value) (w12 : Value) (w13 : Value) (w14 : Value) (w15 : Value) (w16 : Value) (w17 : Value) (w18 : Value) (w19 : Value) (w20 : Value) (w21 : Value) (w22 : Value) (w23 : Value) (w24 : Value) (w25 : Value) (w26 : Value) (w27 : Value) (w28 : Value) (w29 : Value) (w30 : Value) (w31 : Value) (w32 : Value) (w33 : Value) (w34 : Value) (w35 : Value) (w36 : Value) (w37 : Value) (w38 : Value) (w39 : Value) (w40 : Value) (w41 : Value) (w42 : Value) (w43 : Value) (w44 : Value) (w45 : Value) (w46 : Value) (w47 : Value) (w48 : Value) (w49 : Value) (w50 : Value) (w51 : Value) (w52 : Value) (w53 : Value) (w54 : Value) (w55 : Value) (w56 : Value) (w57 : Value) (w58 : Value) (w59 : Value) (w60 : Value) (w61 : Value) (w62 : Value) (w63 : Value) (w64 : Value) (w65 : Value) (w66 : Value) (w67 : Value) (w68 : Value) (w69 : Value) (w70 : Value) (w71 : Value) (w72 : Value) (w73 : Value) (w74 : Value) (w75 : Value) : zM l D y yX10_lastOf (Cond.code yX10_lastOf cX10_lastOf 5 (some .int) :: zT) { frames := 1, cells := 0, slots := 0, locals := 20 } [.ref a0, .int 2, .int 2] [(a0, .inr (9, [w1, w2, w3, w4, w5, w6, w7, w8, w9, w10, w11, w12, w13, w14, w15, .int (-1), w16, w17, w18, w19, w20, w21, w22, w23, w24, w25, w26, w27, w28, w29, w30, w31, w32, w33, w34, w35, w36, w37, w38, w39, w40, w41, w42, w43, w44, w45, w46, w47, w48, w49, w50, w51, w52, w53, w54, w55, w56, w57, w58, w59, w60, w61, w62, w63, w64, w65, w66, w67, w68, w69, w70, w71, w72, w73, w74, w75]))] (zQi (S := Unit) D (fun r_ _ => r_ = 2) (fun _ => [(a0, .inr (9, [w1, w2, w3, w4, w5, w6, w7, w8, w9, w10, w11, w12, w13, w14, w15, .int (-1), w16, w17, w18, w19, w20, w21, w22, w23, w24, w25, w26, w27, w28, w29, w30, w31, w32, w33, w34, w35, w36, w37, w38, w39, w40, w41, w42, w43, w44, w45, w46, w47, w48, w49, w50, w51, w52, w53, w54, w55, w56, w57, w58, w59, w60, w61, w62, w63, w64, w65, w66, w67, w68, w69, w70, w71, w72, w73, w74, w75]))])) := by
  refine zent (cc := cX10_lastOf) (maxL := 5) (ret := (some .int)) (by decide) (Nat.le_of_ble_eq_true rfl) ?_
  intro p e s m below meth c A H locs ls hx hb hml hr ht hown hlocks hin hA hK hE hS hW hl
  have hown : s.vm.findClass RX10 = some m.cls := hown
  have hW : zPD D A [(a0, .inr (9, [w1, w2, w3, w4, w5, w6, w7, w8, w9, w10, w11, w12, w13, w14, w15, .int (-1), w16, w17, w18, w19, w20, w21, w22, w23, w24, w25, w26, w27, w28, w29, w30, w31, w32, w33, w34, w35, w36, w37, w38, w39, w40, w41, w42, w43, w44, w45, w46, w47, w48, w49, w50, w51, w52, w53, w54, w55, w56, w57, w58, w59, w60, w61, w62, w63, w64, w65, w66, w67, w68, w69, w70, w71, w72, w73, w74, w75]))] H := hW
  have hl : lv_has ls 5 [(0, .ref a0), (1, .int 2), (2, .int 2)] := hl
  refine lv_iload_n hx hb dX10_lastOf_0 rfl (lv_at hl 2 rfl) ?_
  refine lv_istore_n (lv' := [(3, .int 2), (0, .ref a0), (1, .int 2), (2, .int 2)]) hx hb dX10_lastOf_1 rfl hl (by decide) rfl (fun ls hl => ?_)
  refine lv_aload_n hx hb dX10_lastOf_2 rfl (lv_at hl 1 rfl) ?_
  refine zgo_i (wr := []) (zrunV (As := []) (rest := []) ⟨hx, hb, hml, hown, ht⟩ (zc_X10_firstClause_0 l D y a0 w1 w2 w3 w4 w5 w6 w7 w8 w9 w10 w11 w12 w13 w14 w15 w16 w17 w18 w19 w20 w21 w22 w23 w24 w25 w26 w27 w28 w29 w30 w31 w32 w33 w34 w35 w36 w37 w38 w39 w40 w41 w42 w43 w44 w45 w46 w47 w48 w49 w50 w51 w52 w53 w54 w55 w56 w57 w58 w59 w60 w61 w62 w63 w64 w65 w66 w67 w68 w69 w70 w71 w72 w73 w74 w75) (cwV 0 ht (zgV zm_365 zm_366 zm_367 zm_5 zm_368) rfl rfl rfl (by decide +kernel) ⟨(Nat.le_of_ble_eq_true rfl), (Nat.le_of_ble_eq_true rfl)⟩) hK hE hS hA hW [0] (by decide) rfl 0 rfl rfl rfl rfl hl.1 rfl (Nat.le_of_ble_eq_true rfl) dX10_lastOf_3 (Nat.le_of_ble_eq_true rfl) (Nat.le_of_ble_eq_true rfl)) hS hA hW [0] [] rfl rfl (by decide) (by decide) (fun r1_ u H locs hw hW hS => ?_)
  have hW : zPD D A [(a0, .inr (9, [w1, w2, w3, w4, w5, w6, w7, w8, w9, w10, w11, w12, w13, w14, w15, .int (-1), w16, w17, w18, w19, w20, w21, w22, w23, w24, w25, w26, w27, w28, w29, w30, w31, w32, w33, w34, w35, w36, w37, w38, w39, w40, w41, w42, w43, w44, w45, w46, w47, w48, w49, w50, w51, w52, w53, w54, w55, w56, w57, w58, w59, w60, w61, w62, w63, w64, w65, w66, w67, w68, w69, w70, w71, w72, w73, w74, w75]))] H := hW
  have hw : r1_ = 0 := hw
  subst hw
  refine lv_istore (lv' := [(4, .int 0), (3, .int 2), (0, .ref a0), (1, .int 2), (2, .int 2)]) hx hb dX10_lastOf_6 hl (by decide) rfl (fun ls hl => ?_)
  refine lv_iload hx hb dX10_lastOf_8 (lv_at hl 0 rfl) ?_
  refine lv_aload_n hx hb dX10_lastOf_10 rfl (lv_at hl 2 rfl) ?_
  refine zgo_i (wr := []) (zrunV (As := []) (rest := [.int 0]) ⟨hx, hb, hml, hown, ht⟩ (zc_X10_behindClauses_0 l D y a0 w1 w2 w3 w4 w5 w6 w7 w8 w9 w10 w11 w12 w13 w14 w15 w16 w17 w18 w19 w20 w21 w22 w23 w24 w25 w26 w27 w28 w29 w30 w31 w32 w33 w34 w35 w36 w37 w38 w39 w40 w41 w42 w43 w44 w45 w46 w47 w48 w49 w50 w51 w52 w53 w54 w55 w56 w57 w58 w59 w60 w61 w62 w63 w64 w65 w66 w67 w68 w69 w70 w71 w72 w73 w74 w75) (cwV 0 ht (zgV zm_369 zm_370 zm_371 zm_5 zm_372) rfl rfl rfl (by decide +kernel) ⟨(Nat.le_of_ble_eq_true rfl), (Nat.le_of_ble_eq_true rfl)⟩) hK hE hS hA hW [0] (by decide) rfl 0 rfl rfl rfl rfl hl.1 rfl (Nat.le_of_ble_eq_true rfl) dX10_lastOf_11 (Nat.le_of_ble_eq_true rfl) (Nat.le_of_ble_eq_true rfl)) hS hA hW [0] [] rfl rfl (by decide) (by decide) (fun r2_ u H locs hw hW hS => ?_)
  have hW : zPD D A [(a0, .inr (9, [w1, w2, w3, w4, w5, w6, w7, w8, w9, w10, w11, w12, w13, w14, w15, .int (-1), w16, w17, w18, w19, w20, w21, w22, w23, w24, w25, w26, w27, w28, w29, w30, w31, w32, w33, w34, w35, w36, w37, w38, w39, w40, w41, w42, w43, w44, w45, w46, w47, w48, w49, w50, w51, w52, w53, w54, w55, w56, w57, w58, w59, w60, w61, w62, w63, w64, w65, w66, w67, w68, w69, w70, w71, w72, w73, w74, w75]))] H := hW
  have hw : r2_ = 0 := hw
  subst hw
  refine lv_icmp_ge (tgt := 46) hx hb dX10_lastOf_14 (by decide) (fun c3_ => ?_) (fun c3_ => absurd (by decide) c3_)
  refine lv_iload_n hx hb dX10_lastOf_46 rfl (lv_at hl 1 rfl) ?_
  exact zret_i (v := 2) hx hb hr hlocks hS () rfl hW (Nat.le_of_ble_eq_true rfl) (Nat.le_of_ble_eq_true rfl) dX10_lastOf_47
set_option maxHeartbeats 8000000 in
set_option maxRecDepth 100000 in
theorem zc_X10_lastOf_1 (l : Launch) (D : va_G) (y : Nat → ClassId) (a0 : Nat) (w1 : Value) (w2 : Value) (w3 : Value) (w4 : Value) (w5 : Value) (w6 : Value) (w7 : Value) (w8 : Value) (w9 : Value) (w10 : Value) (w11 : Value) (w12 : Value) (w13 : Value) (w14 : Value) (w15 : Value) (w16 : Value) (w17 : Value) (w18 : Value) (w19 : Value) (w20 : Value) (w21 : Value) (w22 : Value) (w23 : Value) (w24 : Value) (w25 : Value) (w26 : Value) (w27 : Value) (w28 : Value) (w29 : Value) (w30 : Value) (w31 : Value) (w32 : Value) (w33 : Value) (w34 : Value) (w35 : Value) (w36 : Value) (w37 : Value) (w38 : Value) (w39 : Value) (w40 : Value) (w41 : Value) (w42 : Value) (w43 : Value) (w44 : Value) (w45 : Value) (w46 : Value) (w47 : Value) (w48 : Value) (w49 : Value) (w50 : Value) (w51 : Value) (w52 : Value) (w53 : Value) (w54 : Value) (w55 : Value) (w56 : Value) (w57 : Value) (w58 : Value) (w59 : Value) (w60 : Value) (w61 : Value) (w62 : Value) (w63 : Value) (w64 : Value) (w65 : Value) (w66 : Value) (w67 : Value) (w68 : Value) (w69 : Value) (w70 : Value) (w71 : Value) (w72 : Value) (w73 : Value) (w74 : Value) (w75 : Value) : zM l D y yX10_lastOf (Cond.code yX10_lastOf cX10_lastOf 5 (some .int) :: zT) { frames := 1, cells := 0, slots := 0, locals := 20 } [.ref a0, .int 3, .int 15] [(a0, .inr (9, [w1, w2, w3, w4, w5, w6, w7, w8, w9, w10, w11, w12, w13, w14, w15, .int (-1), w16, w17, w18, w19, w20, w21, w22, w23, w24, w25, w26, w27, w28, w29, w30, w31, w32, w33, w34, w35, w36, w37, w38, w39, w40, w41, w42, w43, w44, w45, w46, w47, w48, w49, w50, w51, w52, w53, w54, w55, w56, w57, w58, w59, w60, w61, w62, w63, w64, w65, w66, w67, w68, w69, w70, w71, w72, w73, w74, w75]))] (zQi (S := Unit) D (fun r_ _ => r_ = 15) (fun _ => [(a0, .inr (9, [w1, w2, w3, w4, w5, w6, w7, w8, w9, w10, w11, w12, w13, w14, w15, .int (-1), w16, w17, w18, w19, w20, w21, w22, w23, w24, w25, w26, w27, w28, w29, w30, w31, w32, w33, w34, w35, w36, w37, w38, w39, w40, w41, w42, w43, w44, w45, w46, w47, w48, w49, w50, w51, w52, w53, w54, w55, w56, w57, w58, w59, w60, w61, w62, w63, w64, w65, w66, w67, w68, w69, w70, w71, w72, w73, w74, w75]))])) := by
  refine zent (cc := cX10_lastOf) (maxL := 5) (ret := (some .int)) (by decide) (Nat.le_of_ble_eq_true rfl) ?_
  intro p e s m below meth c A H locs ls hx hb hml hr ht hown hlocks hin hA hK hE hS hW hl
  have hown : s.vm.findClass RX10 = some m.cls := hown
  have hW : zPD D A [(a0, .inr (9, [w1, w2, w3, w4, w5, w6, w7, w8, w9, w10, w11, w12, w13, w14, w15, .int (-1), w16, w17, w18, w19, w20, w21, w22, w23, w24, w25, w26, w27, w28, w29, w30, w31, w32, w33, w34, w35, w36, w37, w38, w39, w40, w41, w42, w43, w44, w45, w46, w47, w48, w49, w50, w51, w52, w53, w54, w55, w56, w57, w58, w59, w60, w61, w62, w63, w64, w65, w66, w67, w68, w69, w70, w71, w72, w73, w74, w75]))] H := hW
  have hl : lv_has ls 5 [(0, .ref a0), (1, .int 3), (2, .int 15)] := hl
  refine lv_iload_n hx hb dX10_lastOf_0 rfl (lv_at hl 2 rfl) ?_
  refine lv_istore_n (lv' := [(3, .int 15), (0, .ref a0), (1, .int 3), (2, .int 15)]) hx hb dX10_lastOf_1 rfl hl (by decide) rfl (fun ls hl => ?_)
  refine lv_aload_n hx hb dX10_lastOf_2 rfl (lv_at hl 1 rfl) ?_
  refine zgo_i (wr := []) (zrunV (As := []) (rest := []) ⟨hx, hb, hml, hown, ht⟩ (zc_X10_firstClause_0 l D y a0 w1 w2 w3 w4 w5 w6 w7 w8 w9 w10 w11 w12 w13 w14 w15 w16 w17 w18 w19 w20 w21 w22 w23 w24 w25 w26 w27 w28 w29 w30 w31 w32 w33 w34 w35 w36 w37 w38 w39 w40 w41 w42 w43 w44 w45 w46 w47 w48 w49 w50 w51 w52 w53 w54 w55 w56 w57 w58 w59 w60 w61 w62 w63 w64 w65 w66 w67 w68 w69 w70 w71 w72 w73 w74 w75) (cwV 0 ht (zgV zm_365 zm_366 zm_367 zm_5 zm_368) rfl rfl rfl (by decide +kernel) ⟨(Nat.le_of_ble_eq_true rfl), (Nat.le_of_ble_eq_true rfl)⟩) hK hE hS hA hW [0] (by decide) rfl 0 rfl rfl rfl rfl hl.1 rfl (Nat.le_of_ble_eq_true rfl) dX10_lastOf_3 (Nat.le_of_ble_eq_true rfl) (Nat.le_of_ble_eq_true rfl)) hS hA hW [0] [] rfl rfl (by decide) (by decide) (fun r1_ u H locs hw hW hS => ?_)
  have hW : zPD D A [(a0, .inr (9, [w1, w2, w3, w4, w5, w6, w7, w8, w9, w10, w11, w12, w13, w14, w15, .int (-1), w16, w17, w18, w19, w20, w21, w22, w23, w24, w25, w26, w27, w28, w29, w30, w31, w32, w33, w34, w35, w36, w37, w38, w39, w40, w41, w42, w43, w44, w45, w46, w47, w48, w49, w50, w51, w52, w53, w54, w55, w56, w57, w58, w59, w60, w61, w62, w63, w64, w65, w66, w67, w68, w69, w70, w71, w72, w73, w74, w75]))] H := hW
  have hw : r1_ = 0 := hw
  subst hw
  refine lv_istore (lv' := [(4, .int 0), (3, .int 15), (0, .ref a0), (1, .int 3), (2, .int 15)]) hx hb dX10_lastOf_6 hl (by decide) rfl (fun ls hl => ?_)
  refine lv_iload hx hb dX10_lastOf_8 (lv_at hl 0 rfl) ?_
  refine lv_aload_n hx hb dX10_lastOf_10 rfl (lv_at hl 2 rfl) ?_
  refine zgo_i (wr := []) (zrunV (As := []) (rest := [.int 0]) ⟨hx, hb, hml, hown, ht⟩ (zc_X10_behindClauses_0 l D y a0 w1 w2 w3 w4 w5 w6 w7 w8 w9 w10 w11 w12 w13 w14 w15 w16 w17 w18 w19 w20 w21 w22 w23 w24 w25 w26 w27 w28 w29 w30 w31 w32 w33 w34 w35 w36 w37 w38 w39 w40 w41 w42 w43 w44 w45 w46 w47 w48 w49 w50 w51 w52 w53 w54 w55 w56 w57 w58 w59 w60 w61 w62 w63 w64 w65 w66 w67 w68 w69 w70 w71 w72 w73 w74 w75) (cwV 0 ht (zgV zm_369 zm_370 zm_371 zm_5 zm_372) rfl rfl rfl (by decide +kernel) ⟨(Nat.le_of_ble_eq_true rfl), (Nat.le_of_ble_eq_true rfl)⟩) hK hE hS hA hW [0] (by decide) rfl 0 rfl rfl rfl rfl hl.1 rfl (Nat.le_of_ble_eq_true rfl) dX10_lastOf_11 (Nat.le_of_ble_eq_true rfl) (Nat.le_of_ble_eq_true rfl)) hS hA hW [0] [] rfl rfl (by decide) (by decide) (fun r2_ u H locs hw hW hS => ?_)
  have hW : zPD D A [(a0, .inr (9, [w1, w2, w3, w4, w5, w6, w7, w8, w9, w10, w11, w12, w13, w14, w15, .int (-1), w16, w17, w18, w19, w20, w21, w22, w23, w24, w25, w26, w27, w28, w29, w30, w31, w32, w33, w34, w35, w36, w37, w38, w39, w40, w41, w42, w43, w44, w45, w46, w47, w48, w49, w50, w51, w52, w53, w54, w55, w56, w57, w58, w59, w60, w61, w62, w63, w64, w65, w66, w67, w68, w69, w70, w71, w72, w73, w74, w75]))] H := hW
  have hw : r2_ = 0 := hw
  subst hw
  refine lv_icmp_ge (tgt := 46) hx hb dX10_lastOf_14 (by decide) (fun c3_ => ?_) (fun c3_ => absurd (by decide) c3_)
  refine lv_iload_n hx hb dX10_lastOf_46 rfl (lv_at hl 1 rfl) ?_
  exact zret_i (v := 15) hx hb hr hlocks hS () rfl hW (Nat.le_of_ble_eq_true rfl) (Nat.le_of_ble_eq_true rfl) dX10_lastOf_47
set_option maxHeartbeats 8000000 in
set_option maxRecDepth 100000 in
theorem zc_X10_lastNow_0 (l : Launch) (D : va_G) (y : Nat → ClassId) (a0 : Nat) (w1 : Value) (w2 : Value) (w3 : Value) (w4 : Value) (w5 : Value) (w6 : Value) (w7 : Value) (w8 : Value) (w9 : Value) (w10 : Value) (w11 : Value) (w12 : Value) (w13 : Value) (w14 : Value) (w15 : Value) (w16 : Value) (w17 : Value) (w18 : Value) (w19 : Value) (w20 : Value) (w21 : Value) (w22 : Value) (w23 : Value) (w24 : Value) (w25 : Value) (w26 : Value) (w27 : Value) (w28 : Value) (w29 : Value) (w30 : Value) (w31 : Value) (w32 : Value) (w33 : Value) (w34 : Value) (w35 : Value) (w36 : Value) (w37 : Value) (w38 : Value) (w39 : Value) (w40 : Value) (w41 : Value) (w42 : Value) (w43 : Value) (w44 : Value) (w45 : Value) (w46 : Value) (w47 : Value) (w48 : Value) (w49 : Value) (w50 : Value) (w51 : Value) (w52 : Value) (w53 : Value) (w54 : Value) (w55 : Value) (w56 : Value) (w57 : Value) (w58 : Value) (w59 : Value) (w60 : Value) (w61 : Value) (w62 : Value) (w63 : Value) (w64 : Value) (w65 : Value) (w66 : Value) (w67 : Value) (w68 : Value) (w69 : Value) (w70 : Value) (w71 : Value) (w72 : Value) (w73 : Value) (w74 : Value) (w75 : Value) : zM l D y yX10_lastNow (Cond.code yX10_lastNow cX10_lastNow 1 (some .int) :: zT) { frames := 2, cells := 0, slots := 0, locals := 44 } [.ref a0] [(a0, .inr (9, [w1, w2, w3, w4, w5, w6, w7, w8, w9, w10, w11, w12, w13, w14, w15, .int (-1), w16, w17, w18, w19, w20, w21, w22, w23, w24, w25, w26, w27, w28, w29, w30, w31, w32, w33, w34, w35, w36, w37, w38, w39, w40, w41, w42, w43, w44, w45, w46, w47, w48, w49, w50, w51, w52, w53, w54, w55, w56, w57, w58, w59, w60, w61, w62, w63, w64, w65, w66, w67, w68, w69, w70, w71, w72, w73, w74, w75]))] (zQi (S := Unit) D (fun r_ _ => r_ = 15) (fun _ => [(a0, .inr (9, [w1, w2, w3, w4, w5, w6, w7, w8, w9, w10, w11, w12, w13, w14, w15, .int (-1), w16, w17, w18, w19, w20, w21, w22, w23, w24, w25, w26, w27, w28, w29, w30, w31, w32, w33, w34, w35, w36, w37, w38, w39, w40, w41, w42, w43, w44, w45, w46, w47, w48, w49, w50, w51, w52, w53, w54, w55, w56, w57, w58, w59, w60, w61, w62, w63, w64, w65, w66, w67, w68, w69, w70, w71, w72, w73, w74, w75]))])) := by
  refine zent (cc := cX10_lastNow) (maxL := 1) (ret := (some .int)) (by decide) (Nat.le_of_ble_eq_true rfl) ?_
  intro p e s m below meth c A H locs ls hx hb hml hr ht hown hlocks hin hA hK hE hS hW hl
  have hown : s.vm.findClass RX10 = some m.cls := hown
  have hW : zPD D A [(a0, .inr (9, [w1, w2, w3, w4, w5, w6, w7, w8, w9, w10, w11, w12, w13, w14, w15, .int (-1), w16, w17, w18, w19, w20, w21, w22, w23, w24, w25, w26, w27, w28, w29, w30, w31, w32, w33, w34, w35, w36, w37, w38, w39, w40, w41, w42, w43, w44, w45, w46, w47, w48, w49, w50, w51, w52, w53, w54, w55, w56, w57, w58, w59, w60, w61, w62, w63, w64, w65, w66, w67, w68, w69, w70, w71, w72, w73, w74, w75]))] H := hW
  have hl : lv_has ls 1 [(0, .ref a0)] := hl
  refine lv_aload_n hx hb dX10_lastNow_0 rfl (lv_at hl 0 rfl) ?_
  refine lv_iconst (v := 3) hx hb dX10_lastNow_1 (by decide) ?_
  refine lv_bipush (v := 15) hx hb dX10_lastNow_2 (by decide) ?_
  refine zgo_i (wr := []) (zrunV (As := [.int 3, .int 15]) (rest := []) ⟨hx, hb, hml, hown, ht⟩ (zc_X10_lastOf_1 l D y a0 w1 w2 w3 w4 w5 w6 w7 w8 w9 w10 w11 w12 w13 w14 w15 w16 w17 w18 w19 w20 w21 w22 w23 w24 w25 w26 w27 w28 w29 w30 w31 w32 w33 w34 w35 w36 w37 w38 w39 w40 w41 w42 w43 w44 w45 w46 w47 w48 w49 w50 w51 w52 w53 w54 w55 w56 w57 w58 w59 w60 w61 w62 w63 w64 w65 w66 w67 w68 w69 w70 w71 w72 w73 w74 w75) (cwV 2 ht (zgV zm_361 zm_362 zm_363 zm_5 zm_364) rfl rfl rfl (by decide +kernel) ⟨(Nat.le_of_ble_eq_true rfl), (Nat.le_of_ble_eq_true rfl)⟩) hK hE hS hA hW [0] (by decide) rfl 0 rfl rfl rfl rfl hl.1 rfl (Nat.le_of_ble_eq_true rfl) dX10_lastNow_4 (Nat.le_of_ble_eq_true rfl) (Nat.le_of_ble_eq_true rfl)) hS hA hW [0] [] rfl rfl (by decide) (by decide) (fun r1_ u H locs hw hW hS => ?_)
  have hW : zPD D A [(a0, .inr (9, [w1, w2, w3, w4, w5, w6, w7, w8, w9, w10, w11, w12, w13, w14, w15, .int (-1), w16, w17, w18, w19, w20, w21, w22, w23, w24, w25, w26, w27, w28, w29, w30, w31, w32, w33, w34, w35, w36, w37, w38, w39, w40, w41, w42, w43, w44, w45, w46, w47, w48, w49, w50, w51, w52, w53, w54, w55, w56, w57, w58, w59, w60, w61, w62, w63, w64, w65, w66, w67, w68, w69, w70, w71, w72, w73, w74, w75]))] H := hW
  have hw : r1_ = 15 := hw
  subst hw
  exact zret_i (v := 15) hx hb hr hlocks hS () rfl hW (Nat.le_of_ble_eq_true rfl) (Nat.le_of_ble_eq_true rfl) dX10_lastNow_7
set_option maxHeartbeats 8000000 in
set_option maxRecDepth 100000 in
theorem zc_X10_openSet_0 (l : Launch) (D : va_G) (y : Nat → ClassId) (a0 : Nat) (w1 : Value) (w2 : Value) (w3 : Value) (w4 : Value) (w5 : Value) (w6 : Value) (w7 : Value) (w8 : Value) (w9 : Value) (w10 : Value) (w11 : Value) (w12 : Value) (w13 : Value) (w14 : Value) (w15 : Value) (w16 : Value) (w17 : Value) (w18 : Value) (w19 : Value) (w20 : Value) (w21 : Value) (w22 : Value) (w23 : Value) (w24 : Value) (w25 : Value) (w26 : Value) (w27 : Value) (w28 : Value) (w29 : Value) (w30 : Value) (w31 : Value) (w32 : Value) (w33 : Value) (w34 : Value) (w35 : Value) (w36 : Value) (w37 : Value) (w38 : Value) (w39 : Value) (w40 : Value) (w41 : Value) (w42 : Value) (w43 : Value) (w44 : Value) (w45 : Value) (w46 : Value) (w47 : Value) (w48 : Value) (w49 : Value) (w50 : Value) (w51 : Value) (w52 : Value) (w53 : Value) (w54 : Value) (w55 : Value) (w56 : Value) (w57 : Value) (w58 : Value) (w59 : Value) (w60 : Value) (w61 : Value) (w62 : Value) (w63 : Value) (w64 : Value) (w65 : Value) (w66 : Value) (w67 : Value) (w68 : Value) (w69 : Value) (w70 : Value) (w71 : Value) (w72 : Value) (w73 : Value) (w74 : Value) (w75 : Value) : zM l D y yX10_openSet (Cond.code yX10_openSet cX10_openSet 3 (some .int) :: zT) { frames := 0, cells := 0, slots := 0, locals := 0 } [.ref a0] [(a0, .inr (9, [.int 0, w1, w2, w3, w4, w5, w6, w7, w8, w9, w10, w11, w12, w13, w14, w15, w16, w17, w18, w19, w20, w21, w22, w23, w24, w25, w26, w27, w28, w29, w30, w31, w32, w33, w34, w35, w36, w37, w38, w39, w40, w41, w42, w43, w44, w45, w46, w47, w48, w49, w50, w51, w52, w53, w54, w55, w56, w57, w58, w59, w60, w61, w62, w63, w64, w65, w66, w67, w68, w69, w70, w71, w72, w73, w74, w75]))] (zQi (S := Unit) D (fun r_ _ => r_ = 0) (fun _ => [(a0, .inr (9, [.int 0, w1, w2, w3, w4, w5, w6, w7, w8, w9, w10, w11, w12, w13, w14, w15, w16, w17, w18, w19, w20, w21, w22, w23, w24, w25, w26, w27, w28, w29, w30, w31, w32, w33, w34, w35, w36, w37, w38, w39, w40, w41, w42, w43, w44, w45, w46, w47, w48, w49, w50, w51, w52, w53, w54, w55, w56, w57, w58, w59, w60, w61, w62, w63, w64, w65, w66, w67, w68, w69, w70, w71, w72, w73, w74, w75]))])) := by
  refine zent (cc := cX10_openSet) (maxL := 3) (ret := (some .int)) (by decide) (Nat.le_of_ble_eq_true rfl) ?_
  intro p e s m below meth c A H locs ls hx hb hml hr ht hown hlocks hin hA hK hE hS hW hl
  have hown : s.vm.findClass RX10 = some m.cls := hown
  have hW : zPD D A [(a0, .inr (9, [.int 0, w1, w2, w3, w4, w5, w6, w7, w8, w9, w10, w11, w12, w13, w14, w15, w16, w17, w18, w19, w20, w21, w22, w23, w24, w25, w26, w27, w28, w29, w30, w31, w32, w33, w34, w35, w36, w37, w38, w39, w40, w41, w42, w43, w44, w45, w46, w47, w48, w49, w50, w51, w52, w53, w54, w55, w56, w57, w58, w59, w60, w61, w62, w63, w64, w65, w66, w67, w68, w69, w70, w71, w72, w73, w74, w75]))] H := hW
  have hl : lv_has ls 3 [(0, .ref a0)] := hl
  refine lv_iconst (v := 0) hx hb dX10_openSet_0 (by decide) ?_
  refine lv_istore_n (lv' := [(1, .int 0), (0, .ref a0)]) hx hb dX10_openSet_1 rfl hl (by decide) rfl (fun ls hl => ?_)
  refine lv_iconst (v := 0) hx hb dX10_openSet_2 (by decide) ?_
  refine lv_istore_n (lv' := [(2, .int 0), (1, .int 0), (0, .ref a0)]) hx hb dX10_openSet_3 rfl hl (by decide) rfl (fun ls hl => ?_)
  refine lv_iload_n hx hb dX10_openSet_4 rfl (lv_at hl 0 rfl) ?_
  refine lv_aload_n hx hb dX10_openSet_5 rfl (lv_at hl 2 rfl) ?_
  refine zget hx hb ht inlX10 hown hK hW 0 rfl rfl 0 (by decide) zm_140 rfl dX10_openSet_6 ?_
  refine lv_icmp_ge (tgt := 37) hx hb dX10_openSet_9 (by decide) (fun c1_ => ?_) (fun c1_ => absurd (by decide) c1_)
  refine lv_iload_n hx hb dX10_openSet_37 rfl (lv_at hl 1 rfl) ?_
  exact zret_i (v := 0) hx hb hr hlocks hS () rfl hW (Nat.le_of_ble_eq_true rfl) (Nat.le_of_ble_eq_true rfl) dX10_openSet_38
set_option maxHeartbeats 8000000 in
set_option maxRecDepth 100000 in
theorem zc_X10_told_0 (l : Launch) (D : va_G) (y : Nat → ClassId) (a0 : Nat) (p1 : Int32) (w2 : Value) (w3 : Value) (w4 : Value) (w5 : Value) (w6 : Value) (w7 : Value) (w8 : Value) (w9 : Value) (w10 : Value) (w11 : Value) (w12 : Value) (w13 : Value) (w14 : Value) (w15 : Value) (w16 : Value) (w17 : Value) (w18 : Value) (w19 : Value) (w20 : Value) (w21 : Value) (w22 : Value) (w23 : Value) (w24 : Value) (w25 : Value) (w26 : Value) (w27 : Value) (w28 : Value) (w29 : Value) (w30 : Value) (w31 : Value) (w32 : Value) (w33 : Value) (w34 : Value) (w35 : Value) (w36 : Value) (w37 : Value) (w38 : Value) (w39 : Value) (w40 : Value) (w41 : Value) (w42 : Value) (w43 : Value) (w44 : Value) (w45 : Value) (w46 : Value) (w47 : Value) (w48 : Value) (w49 : Value) (w50 : Value) (w51 : Value) (w52 : Value) (w53 : Value) (w54 : Value) (w55 : Value) (w56 : Value) (w57 : Value) (w58 : Value) (w59 : Value) (w60 : Value) (w61 : Value) (w62 : Value) (w63 : Value) (w64 : Value) (w65 : Value) (w66 : Value) (w67 : Value) (w68 : Value) (w69 : Value) : zM l D y yX10_told (Cond.code yX10_told cX10_told 2 (some .int) :: zT) { frames := 3, cells := 0, slots := 0, locals := 64 } [.ref a0, .int p1] [(a0, .inr (9, [.int 0, .int 0, .int 0, .int 20, .int 0, .int 0, .int 0, w2, w3, w4, w5, w6, w7, w8, w9, .int (-1), w10, w11, w12, w13, w14, w15, w16, w17, w18, w19, w20, w21, w22, w23, w24, w25, w26, w27, w28, w29, w30, w31, w32, w33, w34, w35, w36, w37, w38, w39, w40, w41, w42, w43, w44, w45, w46, w47, w48, w49, w50, w51, w52, w53, w54, w55, w56, w57, w58, w59, w60, w61, w62, w63, w64, w65, w66, w67, w68, w69]))] (zQi (S := Unit) D (fun r_ _ => r_ = (if p1 = 0 then 0 else (if p1 = 1 then 0 else (if p1 = 2 then 20 else (if p1 = 3 then 0 else (if p1 = 4 then 2 else (if p1 = 5 then 15 else (if p1 = 6 then 0 else (if p1 = 7 then 0 else (if p1 = 8 then 0 else (-1))))))))))) (fun _ => [])) := by
  refine zent (cc := cX10_told) (maxL := 2) (ret := (some .int)) (by decide) (Nat.le_of_ble_eq_true rfl) ?_
  intro p e s m below meth c A H locs ls hx hb hml hr ht hown hlocks hin hA hK hE hS hW hl
  have hown : s.vm.findClass RX10 = some m.cls := hown
  have hW : zPD D A [(a0, .inr (9, [.int 0, .int 0, .int 0, .int 20, .int 0, .int 0, .int 0, w2, w3, w4, w5, w6, w7, w8, w9, .int (-1), w10, w11, w12, w13, w14, w15, w16, w17, w18, w19, w20, w21, w22, w23, w24, w25, w26, w27, w28, w29, w30, w31, w32, w33, w34, w35, w36, w37, w38, w39, w40, w41, w42, w43, w44, w45, w46, w47, w48, w49, w50, w51, w52, w53, w54, w55, w56, w57, w58, w59, w60, w61, w62, w63, w64, w65, w66, w67, w68, w69]))] H := hW
  have hl : lv_has ls 2 [(0, .ref a0), (1, .int p1)] := hl
  refine lv_iload_n hx hb dX10_told_0 rfl (lv_at hl 1 rfl) ?_
  by_cases c1_ : p1 = 0
  · refine lv_tableIn (tgt := 52) hx hb dX10_told_1 (by rw [c1_]; decide) (by rw [c1_]; decide) (by rw [c1_]; rfl) (by decide) ?_
    have b2_ : 0 ≤ Int32.toInt p1 ∧ Int32.toInt p1 ≤ 0 := (by have u0 := zbnd p1; have u1 := (zi_eq _ _).mp c1_; have u2 : (0 : Int32).toInt = 0 := (by decide); omega)
    refine lv_aload_n hx hb dX10_told_52 rfl (lv_at hl 0 rfl) ?_
    refine zget hx hb ht inlX10 hown hK hW 0 rfl rfl 1 (by decide) zm_141 rfl dX10_told_53 ?_
    exact zret_i (v := 0) hx hb hr hlocks hS () (by show _ = _; rw [if_pos c1_]) (hW.sub [] (by decide) rfl) (Nat.le_of_ble_eq_true rfl) (Nat.le_of_ble_eq_true rfl) dX10_told_56
  · have b3_ : (-2147483648) ≤ Int32.toInt p1 ∧ Int32.toInt p1 ≤ 2147483647 := (by have u0 := zbnd p1; have u1 := (not_congr (zi_eq _ _)).mp c1_; have u2 : (0 : Int32).toInt = 0 := (by decide); omega)
    by_cases c4_ : p1 = 1
    · refine lv_tableIn (tgt := 57) hx hb dX10_told_1 (by rw [c4_]; decide) (by rw [c4_]; decide) (by rw [c4_]; rfl) (by decide) ?_
      have b5_ : 1 ≤ Int32.toInt p1 ∧ Int32.toInt p1 ≤ 1 := (by have u0 := b3_; have u1 := (zi_eq _ _).mp c4_; have u2 : (1 : Int32).toInt = 1 := (by decide); omega)
      refine lv_aload_n hx hb dX10_told_57 rfl (lv_at hl 0 rfl) ?_
      refine zget hx hb ht inlX10 hown hK hW 0 rfl rfl 2 (by decide) zm_142 rfl dX10_told_58 ?_
      exact zret_i (v := 0) hx hb hr hlocks hS () (by show _ = _; rw [if_neg c1_, if_pos c4_]) (hW.sub [] (by decide) rfl) (Nat.le_of_ble_eq_true rfl) (Nat.le_of_ble_eq_true rfl) dX10_told_61
    · by_cases c6_ : p1 = 2
      · refine lv_tableIn (tgt := 62) hx hb dX10_told_1 (by rw [c6_]; decide) (by rw [c6_]; decide) (by rw [c6_]; rfl) (by decide) ?_
        have b7_ : 2 ≤ Int32.toInt p1 ∧ Int32.toInt p1 ≤ 2 := (by have u0 := b3_; have u1 := (zi_eq _ _).mp c6_; have u2 : (2 : Int32).toInt = 2 := (by decide); omega)
        refine lv_aload_n hx hb dX10_told_62 rfl (lv_at hl 0 rfl) ?_
        refine zget hx hb ht inlX10 hown hK hW 0 rfl rfl 3 (by decide) zm_143 rfl dX10_told_63 ?_
        exact zret_i (v := 20) hx hb hr hlocks hS () (by show _ = _; rw [if_neg c1_, if_neg c4_, if_pos c6_]) (hW.sub [] (by decide) rfl) (Nat.le_of_ble_eq_true rfl) (Nat.le_of_ble_eq_true rfl) dX10_told_66
      · by_cases c8_ : p1 = 3
        · refine lv_tableIn (tgt := 67) hx hb dX10_told_1 (by rw [c8_]; decide) (by rw [c8_]; decide) (by rw [c8_]; rfl) (by decide) ?_
          have b9_ : 3 ≤ Int32.toInt p1 ∧ Int32.toInt p1 ≤ 3 := (by have u0 := b3_; have u1 := (zi_eq _ _).mp c8_; have u2 : (3 : Int32).toInt = 3 := (by decide); omega)
          refine lv_aload_n hx hb dX10_told_67 rfl (lv_at hl 0 rfl) ?_
          refine zget hx hb ht inlX10 hown hK hW 0 rfl rfl 4 (by decide) zm_144 rfl dX10_told_68 ?_
          exact zret_i (v := 0) hx hb hr hlocks hS () (by show _ = _; rw [if_neg c1_, if_neg c4_, if_neg c6_, if_pos c8_]) (hW.sub [] (by decide) rfl) (Nat.le_of_ble_eq_true rfl) (Nat.le_of_ble_eq_true rfl) dX10_told_71
        · by_cases c10_ : p1 = 4
          · refine lv_tableIn (tgt := 72) hx hb dX10_told_1 (by rw [c10_]; decide) (by rw [c10_]; decide) (by rw [c10_]; rfl) (by decide) ?_
            have b11_ : 4 ≤ Int32.toInt p1 ∧ Int32.toInt p1 ≤ 4 := (by have u0 := b3_; have u1 := (zi_eq _ _).mp c10_; have u2 : (4 : Int32).toInt = 4 := (by decide); omega)
            refine lv_aload_n hx hb dX10_told_72 rfl (lv_at hl 0 rfl) ?_
            refine lv_iconst (v := 2) hx hb dX10_told_73 (by decide) ?_
            refine lv_iconst (v := 2) hx hb dX10_told_74 (by decide) ?_
            refine zgo_i (wr := []) (zrunV (As := [.int 2, .int 2]) (rest := []) ⟨hx, hb, hml, hown, ht⟩ (zc_X10_lastOf_0 l D y a0 (.int 0) (.int 0) (.int 0) (.int 20) (.int 0) (.int 0) (.int 0) w2 w3 w4 w5 w6 w7 w8 w9 w10 w11 w12 w13 w14 w15 w16 w17 w18 w19 w20 w21 w22 w23 w24 w25 w26 w27 w28 w29 w30 w31 w32 w33 w34 w35 w36 w37 w38 w39 w40 w41 w42 w43 w44 w45 w46 w47 w48 w49 w50 w51 w52 w53 w54 w55 w56 w57 w58 w59 w60 w61 w62 w63 w64 w65 w66 w67 w68 w69) (cwV 2 ht (zgV zm_361 zm_362 zm_363 zm_5 zm_364) rfl rfl rfl (by decide +kernel) ⟨(Nat.le_of_ble_eq_true rfl), (Nat.le_of_ble_eq_true rfl)⟩) hK hE hS hA hW [0] (by decide) rfl 0 rfl rfl rfl rfl hl.1 rfl (Nat.le_of_ble_eq_true rfl) dX10_told_75 (Nat.le_of_ble_eq_true rfl) (Nat.le_of_ble_eq_true rfl)) hS hA hW [0] [] rfl rfl (by decide) (by decide) (fun r12_ u H locs hw hW hS => ?_)
            have hW : zPD D A [(a0, .inr (9, [.int 0, .int 0, .int 0, .int 20, .int 0, .int 0, .int 0, w2, w3, w4, w5, w6, w7, w8, w9, .int (-1), w10, w11, w12, w13, w14, w15, w16, w17, w18, w19, w20, w21, w22, w23, w24, w25, w26, w27, w28, w29, w30, w31, w32, w33, w34, w35, w36, w37, w38, w39, w40, w41, w42, w43, w44, w45, w46, w47, w48, w49, w50, w51, w52, w53, w54, w55, w56, w57, w58, w59, w60, w61, w62, w63, w64, w65, w66, w67, w68, w69]))] H := hW
            have hw : r12_ = 2 := hw
            subst hw
            exact zret_i (v := 2) hx hb hr hlocks hS () (by show _ = _; rw [if_neg c1_, if_neg c4_, if_neg c6_, if_neg c8_, if_pos c10_]) (hW.sub [] (by decide) rfl) (Nat.le_of_ble_eq_true rfl) (Nat.le_of_ble_eq_true rfl) dX10_told_78
          · by_cases c13_ : p1 = 5
            · refine lv_tableIn (tgt := 79) hx hb dX10_told_1 (by rw [c13_]; decide) (by rw [c13_]; decide) (by rw [c13_]; rfl) (by decide) ?_
              have b14_ : 5 ≤ Int32.toInt p1 ∧ Int32.toInt p1 ≤ 5 := (by have u0 := b3_; have u1 := (zi_eq _ _).mp c13_; have u2 : (5 : Int32).toInt = 5 := (by decide); omega)
              refine lv_aload_n hx hb dX10_told_79 rfl (lv_at hl 0 rfl) ?_
              refine zgo_i (wr := []) (zrunV (As := []) (rest := []) ⟨hx, hb, hml, hown, ht⟩ (zc_X10_lastNow_0 l D y a0 (.int 0) (.int 0) (.int 0) (.int 20) (.int 0) (.int 0) (.int 0) w2 w3 w4 w5 w6 w7 w8 w9 w10 w11 w12 w13 w14 w15 w16 w17 w18 w19 w20 w21 w22 w23 w24 w25 w26 w27 w28 w29 w30 w31 w32 w33 w34 w35 w36 w37 w38 w39 w40 w41 w42 w43 w44 w45 w46 w47 w48 w49 w50 w51 w52 w53 w54 w55 w56 w57 w58 w59 w60 w61 w62 w63 w64 w65 w66 w67 w68 w69) (cwV 0 ht (zgV zm_381 zm_382 zm_383 zm_5 zm_384) rfl rfl rfl (by decide +kernel) ⟨(Nat.le_of_ble_eq_true rfl), (Nat.le_of_ble_eq_true rfl)⟩) hK hE hS hA hW [0] (by decide) rfl 0 rfl rfl rfl rfl hl.1 rfl (Nat.le_of_ble_eq_true rfl) dX10_told_80 (Nat.le_of_ble_eq_true rfl) (Nat.le_of_ble_eq_true rfl)) hS hA hW [0] [] rfl rfl (by decide) (by decide) (fun r15_ u H locs hw hW hS => ?_)
              have hW : zPD D A [(a0, .inr (9, [.int 0, .int 0, .int 0, .int 20, .int 0, .int 0, .int 0, w2, w3, w4, w5, w6, w7, w8, w9, .int (-1), w10, w11, w12, w13, w14, w15, w16, w17, w18, w19, w20, w21, w22, w23, w24, w25, w26, w27, w28, w29, w30, w31, w32, w33, w34, w35, w36, w37, w38, w39, w40, w41, w42, w43, w44, w45, w46, w47, w48, w49, w50, w51, w52, w53, w54, w55, w56, w57, w58, w59, w60, w61, w62, w63, w64, w65, w66, w67, w68, w69]))] H := hW
              have hw : r15_ = 15 := hw
              subst hw
              exact zret_i (v := 15) hx hb hr hlocks hS () (by show _ = _; rw [if_neg c1_, if_neg c4_, if_neg c6_, if_neg c8_, if_neg c10_, if_pos c13_]) (hW.sub [] (by decide) rfl) (Nat.le_of_ble_eq_true rfl) (Nat.le_of_ble_eq_true rfl) dX10_told_83
            · by_cases c16_ : p1 = 6
              · refine lv_tableIn (tgt := 84) hx hb dX10_told_1 (by rw [c16_]; decide) (by rw [c16_]; decide) (by rw [c16_]; rfl) (by decide) ?_
                have b17_ : 6 ≤ Int32.toInt p1 ∧ Int32.toInt p1 ≤ 6 := (by have u0 := b3_; have u1 := (zi_eq _ _).mp c16_; have u2 : (6 : Int32).toInt = 6 := (by decide); omega)
                refine lv_aload_n hx hb dX10_told_84 rfl (lv_at hl 0 rfl) ?_
                refine zget hx hb ht inlX10 hown hK hW 0 rfl rfl 5 (by decide) zm_145 rfl dX10_told_85 ?_
                exact zret_i (v := 0) hx hb hr hlocks hS () (by show _ = _; rw [if_neg c1_, if_neg c4_, if_neg c6_, if_neg c8_, if_neg c10_, if_neg c13_, if_pos c16_]) (hW.sub [] (by decide) rfl) (Nat.le_of_ble_eq_true rfl) (Nat.le_of_ble_eq_true rfl) dX10_told_88
              · by_cases c18_ : p1 = 7
                · refine lv_tableIn (tgt := 89) hx hb dX10_told_1 (by rw [c18_]; decide) (by rw [c18_]; decide) (by rw [c18_]; rfl) (by decide) ?_
                  have b19_ : 7 ≤ Int32.toInt p1 ∧ Int32.toInt p1 ≤ 7 := (by have u0 := b3_; have u1 := (zi_eq _ _).mp c18_; have u2 : (7 : Int32).toInt = 7 := (by decide); omega)
                  refine lv_aload_n hx hb dX10_told_89 rfl (lv_at hl 0 rfl) ?_
                  refine zget hx hb ht inlX10 hown hK hW 0 rfl rfl 6 (by decide) zm_146 rfl dX10_told_90 ?_
                  exact zret_i (v := 0) hx hb hr hlocks hS () (by show _ = _; rw [if_neg c1_, if_neg c4_, if_neg c6_, if_neg c8_, if_neg c10_, if_neg c13_, if_neg c16_, if_pos c18_]) (hW.sub [] (by decide) rfl) (Nat.le_of_ble_eq_true rfl) (Nat.le_of_ble_eq_true rfl) dX10_told_93
                · by_cases c20_ : p1 = 8
                  · refine lv_tableIn (tgt := 94) hx hb dX10_told_1 (by rw [c20_]; decide) (by rw [c20_]; decide) (by rw [c20_]; rfl) (by decide) ?_
                    have b21_ : 8 ≤ Int32.toInt p1 ∧ Int32.toInt p1 ≤ 8 := (by have u0 := b3_; have u1 := (zi_eq _ _).mp c20_; have u2 : (8 : Int32).toInt = 8 := (by decide); omega)
                    refine lv_aload_n hx hb dX10_told_94 rfl (lv_at hl 0 rfl) ?_
                    refine zgo_i (wr := []) (zrunV (As := []) (rest := []) ⟨hx, hb, hml, hown, ht⟩ (zc_X10_openSet_0 l D y a0 (.int 0) (.int 0) (.int 20) (.int 0) (.int 0) (.int 0) w2 w3 w4 w5 w6 w7 w8 w9 (.int (-1)) w10 w11 w12 w13 w14 w15 w16 w17 w18 w19 w20 w21 w22 w23 w24 w25 w26 w27 w28 w29 w30 w31 w32 w33 w34 w35 w36 w37 w38 w39 w40 w41 w42 w43 w44 w45 w46 w47 w48 w49 w50 w51 w52 w53 w54 w55 w56 w57 w58 w59 w60 w61 w62 w63 w64 w65 w66 w67 w68 w69) (cwV 0 ht (zgV zm_714 zm_715 zm_716 zm_5 zm_717) rfl rfl rfl (by decide +kernel) ⟨(Nat.le_of_ble_eq_true rfl), (Nat.le_of_ble_eq_true rfl)⟩) hK hE hS hA hW [0] (by decide) rfl 0 rfl rfl rfl rfl hl.1 rfl (Nat.le_of_ble_eq_true rfl) dX10_told_95 (Nat.le_of_ble_eq_true rfl) (Nat.le_of_ble_eq_true rfl)) hS hA hW [0] [] rfl rfl (by decide) (by decide) (fun r22_ u H locs hw hW hS => ?_)
                    have hW : zPD D A [(a0, .inr (9, [.int 0, .int 0, .int 0, .int 20, .int 0, .int 0, .int 0, w2, w3, w4, w5, w6, w7, w8, w9, .int (-1), w10, w11, w12, w13, w14, w15, w16, w17, w18, w19, w20, w21, w22, w23, w24, w25, w26, w27, w28, w29, w30, w31, w32, w33, w34, w35, w36, w37, w38, w39, w40, w41, w42, w43, w44, w45, w46, w47, w48, w49, w50, w51, w52, w53, w54, w55, w56, w57, w58, w59, w60, w61, w62, w63, w64, w65, w66, w67, w68, w69]))] H := hW
                    have hw : r22_ = 0 := hw
                    subst hw
                    exact zret_i (v := 0) hx hb hr hlocks hS () (by show _ = _; rw [if_neg c1_, if_neg c4_, if_neg c6_, if_neg c8_, if_neg c10_, if_neg c13_, if_neg c16_, if_neg c18_, if_pos c20_]) (hW.sub [] (by decide) rfl) (Nat.le_of_ble_eq_true rfl) (Nat.le_of_ble_eq_true rfl) dX10_told_98
                  · refine lv_tableOut (tgt := 99) hx hb dX10_told_1 (by have u0 := (not_congr (zi_eq _ _)).mp c1_; have w0 : (0 : Int32).toInt = 0 := (by decide); have u1 := (not_congr (zi_eq _ _)).mp c4_; have w1 : (1 : Int32).toInt = 1 := (by decide); have u2 := (not_congr (zi_eq _ _)).mp c6_; have w2 : (2 : Int32).toInt = 2 := (by decide); have u3 := (not_congr (zi_eq _ _)).mp c8_; have w3 : (3 : Int32).toInt = 3 := (by decide); have u4 := (not_congr (zi_eq _ _)).mp c10_; have w4 : (4 : Int32).toInt = 4 := (by decide); have u5 := (not_congr (zi_eq _ _)).mp c13_; have w5 : (5 : Int32).toInt = 5 := (by decide); have u6 := (not_congr (zi_eq _ _)).mp c16_; have w6 : (6 : Int32).toInt = 6 := (by decide); have u7 := (not_congr (zi_eq _ _)).mp c18_; have w7 : (7 : Int32).toInt = 7 := (by decide); have u8 := (not_congr (zi_eq _ _)).mp c20_; have w8 : (8 : Int32).toInt = 8 := (by decide); omega) (by decide) ?_
                    refine lv_iconst (v := (-1)) hx hb dX10_told_99 (by decide) ?_
                    exact zret_i (v := (-1)) hx hb hr hlocks hS () (by show _ = _; rw [if_neg c1_, if_neg c4_, if_neg c6_, if_neg c8_, if_neg c10_, if_neg c13_, if_neg c16_, if_neg c18_, if_neg c20_]) (hW.sub [] (by decide) rfl) (Nat.le_of_ble_eq_true rfl) (Nat.le_of_ble_eq_true rfl) dX10_told_100
set_option maxHeartbeats 8000000 in
set_option maxRecDepth 100000 in
theorem zc_X1_turnTo_0 (l : Launch) (D : va_G) (y : Nat → ClassId) (a0 : Nat) (a1 : Nat) (w2 : Value) (w3 : Value) (w4 : Value) (w5 : Value) (w6 : Value) (w7 : Value) (a8 : Nat) (w9 : Value) (w10 : Value) (w11 : Value) (w12 : Value) (w13 : Value) (w14 : Value) (w15 : Value) (w16 : Value) (w17 : Value) (w18 : Value) (w19 : Value) : zM l D y yX1_turnTo (Cond.code yX1_turnTo cX1_turnTo 3 none :: zT) { frames := 0, cells := 0, slots := 0, locals := 0 } [.ref a0, .int 0] [(a0, .inr (1, [.ref a1, .int 0, w2, w3, w4, w5, w6, w7, .ref a8])), (a1, .inr (6, [w9, .int 0, w10, w11, w12, w13, w14, w15, w16, w17, w18, w19])), (a8, .inl (y 2, 4, .inl (fun _ => 0)))] (zQv (S := Unit) D (fun _ => True) (fun _ => [(a0, .inr (1, [.ref a1, .int 0, w2, w3, w4, w5, w6, w7, .ref a8])), (a1, .inr (6, [w9, .int 0, w10, w11, w12, w13, w14, w15, w16, w17, w18, w19])), (a8, .inl (y 2, 4, .inl (upd (fun _ => 0) 0 1)))])) := by
  refine zent (cc := cX1_turnTo) (maxL := 3) (ret := none) (by decide) (Nat.le_of_ble_eq_true rfl) ?_
  intro p e s m below meth c A H locs ls hx hb hml hr ht hown hlocks hin hA hK hE hS hW hl
  have hown : s.vm.findClass RX1 = some m.cls := hown
  have hW : zPD D A [(a0, .inr (1, [.ref a1, .int 0, w2, w3, w4, w5, w6, w7, .ref a8])), (a1, .inr (6, [w9, .int 0, w10, w11, w12, w13, w14, w15, w16, w17, w18, w19])), (a8, .inl (y 2, 4, .inl (fun _ => 0)))] H := hW
  have hl : lv_has ls 3 [(0, .ref a0), (1, .int 0)] := hl
  refine lv_iload_n hx hb dX1_turnTo_0 rfl (lv_at hl 1 rfl) ?_
  refine lv_if_lt (tgt := 9) hx hb dX1_turnTo_1 (by decide) (fun c1_ => absurd c1_ (by decide)) (fun c1_ => ?_)
  refine lv_iload_n hx hb dX1_turnTo_4 rfl (lv_at hl 1 rfl) ?_
  refine lv_iconst (v := 4) hx hb dX1_turnTo_5 (by decide) ?_
  refine lv_icmp_lt (tgt := 10) hx hb dX1_turnTo_6 (by decide) (fun c2_ => ?_) (fun c2_ => absurd (by decide) c2_)
  refine lv_aload_n hx hb dX1_turnTo_10 rfl (lv_at hl 0 rfl) ?_
  refine lv_iload_n hx hb dX1_turnTo_11 rfl (lv_at hl 1 rfl) ?_
  refine zput (ws' := [(a0, .inr (1, [.ref a1, .int 0, w2, w3, w4, w5, w6, w7, .ref a8])), (a1, .inr (6, [w9, .int 0, w10, w11, w12, w13, w14, w15, w16, w17, w18, w19])), (a8, .inl (y 2, 4, .inl (fun _ => 0)))]) hx hb ht inlX1 tyX1 tyX1_ok nmX1 hown hK hS hW 0 rfl rfl 1 (by decide) zm_109 rfl rfl rfl (Nat.le_of_ble_eq_true rfl) rfl dX1_turnTo_12 (fun H locs hW hS => ?_)
  refine lv_aload_n hx hb dX1_turnTo_15 rfl (lv_at hl 0 rfl) ?_
  refine zget hx hb ht inlX1 hown hK hW 0 rfl rfl 8 (by decide) zm_118 rfl dX1_turnTo_16 ?_
  refine lv_aload_n hx hb dX1_turnTo_19 rfl (lv_at hl 0 rfl) ?_
  refine zget hx hb ht inlX1 hown hK hW 0 rfl rfl 1 (by decide) zm_109 rfl dX1_turnTo_20 ?_
  refine zzald (v := 0) hx hb hK hW 2 rfl (by unfold vp_in; decide) rfl dX1_turnTo_23 ?_
  refine lv_if_eq (tgt := 28) hx hb dX1_turnTo_24 (by decide) (fun c3_ => ?_) (fun c3_ => absurd (by decide) c3_)
  refine lv_iconst (v := 0) hx hb dX1_turnTo_28 (by decide) ?_
  refine lv_istore_n (lv' := [(2, .int 0), (0, .ref a0), (1, .int 0)]) hx hb dX1_turnTo_29 rfl hl (by decide) rfl (fun ls hl => ?_)
  refine lv_iload_n hx hb dX1_turnTo_30 rfl (lv_at hl 0 rfl) ?_
  refine lv_aload_n hx hb dX1_turnTo_31 rfl (lv_at hl 1 rfl) ?_
  refine zget hx hb ht inlX1 hown hK hW 0 rfl rfl 0 (by decide) zm_119 rfl dX1_turnTo_32 ?_
  refine zget hx hb ht inlX7 hown hK hW 1 rfl rfl 1 (by decide) zm_284 rfl dX1_turnTo_35 ?_
  refine lv_icmp_ge (tgt := 52) hx hb dX1_turnTo_38 (by decide) (fun c4_ => ?_) (fun c4_ => absurd (by decide) c4_)
  refine lv_aload_n hx hb dX1_turnTo_52 rfl (lv_at hl 1 rfl) ?_
  refine zget hx hb ht inlX1 hown hK hW 0 rfl rfl 8 (by decide) zm_118 rfl dX1_turnTo_53 ?_
  refine lv_aload_n hx hb dX1_turnTo_56 rfl (lv_at hl 1 rfl) ?_
  refine zget hx hb ht inlX1 hown hK hW 0 rfl rfl 1 (by decide) zm_109 rfl dX1_turnTo_57 ?_
  refine lv_iconst (v := 1) hx hb dX1_turnTo_60 (by decide) ?_
  refine zzast (ws' := [(a0, .inr (1, [.ref a1, .int 0, w2, w3, w4, w5, w6, w7, .ref a8])), (a1, .inr (6, [w9, .int 0, w10, w11, w12, w13, w14, w15, w16, w17, w18, w19])), (a8, .inl (y 2, 4, .inl (upd (fun _ => 0) 0 1)))]) hx hb hK hS hW 2 rfl (by unfold vp_in; decide) rfl rfl dX1_turnTo_61 (fun H locs hW hS => ?_)
  exact zret_v hx hb hr hlocks hS () trivial hW (Nat.le_of_ble_eq_true rfl) (Nat.le_of_ble_eq_true rfl) dX1_turnTo_62
set_option maxHeartbeats 8000000 in
set_option maxRecDepth 100000 in
theorem zc_X1_nobodyShuts_0 (l : Launch) (D : va_G) (y : Nat → ClassId) (a0 : Nat) (a1 : Nat) (w2 : Value) (w3 : Value) (w4 : Value) (w5 : Value) (w6 : Value) (w7 : Value) (w8 : Value) (w9 : Value) (w10 : Value) (w11 : Value) (w12 : Value) (w13 : Value) (w14 : Value) (w15 : Value) (w16 : Value) (w17 : Value) (w18 : Value) (w19 : Value) (w20 : Value) : zM l D y yX1_nobodyShuts (Cond.code yX1_nobodyShuts cX1_nobodyShuts 2 none :: zT) { frames := 0, cells := 0, slots := 0, locals := 0 } [.ref a0] [(a0, .inr (1, [.ref a1, w2, w3, w4, w5, w6, w7, w8, w9])), (a1, .inr (6, [w10, .int 0, w11, w12, w13, w14, w15, w16, w17, w18, w19, w20]))] (zQv (S := Unit) D (fun _ => True) (fun _ => [(a0, .inr (1, [.ref a1, w2, w3, w4, w5, w6, w7, w8, w9])), (a1, .inr (6, [w10, .int 0, w11, w12, w13, w14, w15, w16, w17, w18, w19, w20]))])) := by
  refine zent (cc := cX1_nobodyShuts) (maxL := 2) (ret := none) (by decide) (Nat.le_of_ble_eq_true rfl) ?_
  intro p e s m below meth c A H locs ls hx hb hml hr ht hown hlocks hin hA hK hE hS hW hl
  have hown : s.vm.findClass RX1 = some m.cls := hown
  have hW : zPD D A [(a0, .inr (1, [.ref a1, w2, w3, w4, w5, w6, w7, w8, w9])), (a1, .inr (6, [w10, .int 0, w11, w12, w13, w14, w15, w16, w17, w18, w19, w20]))] H := hW
  have hl : lv_has ls 2 [(0, .ref a0)] := hl
  refine lv_iconst (v := 0) hx hb dX1_nobodyShuts_0 (by decide) ?_
  refine lv_istore_n (lv' := [(1, .int 0), (0, .ref a0)]) hx hb dX1_nobodyShuts_1 rfl hl (by decide) rfl (fun ls hl => ?_)
  refine lv_iload_n hx hb dX1_nobodyShuts_2 rfl (lv_at hl 0 rfl) ?_
  refine lv_aload_n hx hb dX1_nobodyShuts_3 rfl (lv_at hl 1 rfl) ?_
  refine zget hx hb ht inlX1 hown hK hW 0 rfl rfl 0 (by decide) zm_119 rfl dX1_nobodyShuts_4 ?_
  refine zget hx hb ht inlX7 hown hK hW 1 rfl rfl 1 (by decide) zm_284 rfl dX1_nobodyShuts_7 ?_
  refine lv_icmp_ge (tgt := 46) hx hb dX1_nobodyShuts_10 (by decide) (fun c1_ => ?_) (fun c1_ => absurd (by decide) c1_)
  exact zret_v hx hb hr hlocks hS () trivial hW (Nat.le_of_ble_eq_true rfl) (Nat.le_of_ble_eq_true rfl) dX1_nobodyShuts_46
set_option maxHeartbeats 8000000 in
set_option maxRecDepth 100000 in
theorem zc_X1_beginFromNow_0 (l : Launch) (D : va_G) (y : Nat → ClassId) (a0 : Nat) (a1 : Nat) (w2 : Value) (w3 : Value) (w4 : Value) (w5 : Value) (w6 : Value) (a7 : Nat) (w8 : Value) (w9 : Value) (w10 : Value) (w11 : Value) (w12 : Value) (w13 : Value) (w14 : Value) (w15 : Value) (w16 : Value) : zM l D y yX1_beginFromNow (Cond.code yX1_beginFromNow cX1_beginFromNow 1 none :: zT) { frames := 1, cells := 0, slots := 0, locals := 22 } [.ref a0] [(a0, .inr (1, [.ref a1, .int 0, .int 0, w2, w3, w4, w5, w6, .ref a7])), (a1, .inr (6, [w8, .int 0, .int 20, .int 0, w9, w10, w11, w12, w13, w14, w15, w16])), (a7, .inl (y 2, 4, .inl (fun _ => 0)))] (zQv (S := Unit) D (fun _ => True) (fun _ => [(a0, .inr (1, [.ref a1, .int 0, .int 20, w2, w3, w4, w5, w6, .ref a7])), (a1, .inr (6, [w8, .int 0, .int 20, .int 0, w9, w10, w11, w12, w13, w14, w15, w16])), (a7, .inl (y 2, 4, .inl (upd (fun _ => 0) 0 1)))])) := by
  refine zent (cc := cX1_beginFromNow) (maxL := 1) (ret := none) (by decide) (Nat.le_of_ble_eq_true rfl) ?_
  intro p e s m below meth c A H locs ls hx hb hml hr ht hown hlocks hin hA hK hE hS hW hl
  have hown : s.vm.findClass RX1 = some m.cls := hown
  have hW : zPD D A [(a0, .inr (1, [.ref a1, .int 0, .int 0, w2, w3, w4, w5, w6, .ref a7])), (a1, .inr (6, [w8, .int 0, .int 20, .int 0, w9, w10, w11, w12, w13, w14, w15, w16])), (a7, .inl (y 2, 4, .inl (fun _ => 0)))] H := hW
  have hl : lv_has ls 1 [(0, .ref a0)] := hl
  refine lv_aload_n hx hb dX1_beginFromNow_0 rfl (lv_at hl 0 rfl) ?_
  refine lv_aload_n hx hb dX1_beginFromNow_1 rfl (lv_at hl 0 rfl) ?_
  refine zget hx hb ht inlX1 hown hK hW 0 rfl rfl 0 (by decide) zm_119 rfl dX1_beginFromNow_2 ?_
  refine zget hx hb ht inlX7 hown hK hW 1 rfl rfl 2 (by decide) zm_278 rfl dX1_beginFromNow_5 ?_
  refine zput (ws' := [(a0, .inr (1, [.ref a1, .int 0, .int 20, w2, w3, w4, w5, w6, .ref a7])), (a1, .inr (6, [w8, .int 0, .int 20, .int 0, w9, w10, w11, w12, w13, w14, w15, w16])), (a7, .inl (y 2, 4, .inl (fun _ => 0)))]) hx hb ht inlX1 tyX1 tyX1_ok nmX1 hown hK hS hW 0 rfl rfl 2 (by decide) zm_110 rfl rfl rfl (Nat.le_of_ble_eq_true rfl) rfl dX1_beginFromNow_8 (fun H locs hW hS => ?_)
  refine lv_aload_n hx hb dX1_beginFromNow_11 rfl (lv_at hl 0 rfl) ?_
  refine lv_aload_n hx hb dX1_beginFromNow_12 rfl (lv_at hl 0 rfl) ?_
  refine zget hx hb ht inlX1 hown hK hW 0 rfl rfl 0 (by decide) zm_119 rfl dX1_beginFromNow_13 ?_
  refine zget hx hb ht inlX7 hown hK hW 1 rfl rfl 3 (by decide) zm_279 rfl dX1_beginFromNow_16 ?_
  refine zgo_v (wr := []) (zrunV (As := [.int 0]) (rest := []) ⟨hx, hb, hml, hown, ht⟩ (zc_X1_turnTo_0 l D y a0 a1 (.int 20) w2 w3 w4 w5 w6 a7 w8 (.int 20) (.int 0) w9 w10 w11 w12 w13 w14 w15 w16) (cwV 1 ht (zgV zm_280 zm_281 zm_282 zm_28 zm_283) rfl rfl rfl (by decide +kernel) ⟨(Nat.le_of_ble_eq_true rfl), (Nat.le_of_ble_eq_true rfl)⟩) hK hE hS hA hW [0, 1, 2] (by decide) rfl 0 rfl rfl rfl rfl hl.1 rfl (Nat.le_of_ble_eq_true rfl) dX1_beginFromNow_19 (Nat.le_of_ble_eq_true rfl) (Nat.le_of_ble_eq_true rfl)) hS hA hW [0, 1, 2] [] rfl rfl (by decide) (by decide) (fun u H locs hw hW hS => ?_)
  have hW : zPD D A [(a0, .inr (1, [.ref a1, .int 0, .int 20, w2, w3, w4, w5, w6, .ref a7])), (a1, .inr (6, [w8, .int 0, .int 20, .int 0, w9, w10, w11, w12, w13, w14, w15, w16])), (a7, .inl (y 2, 4, .inl (upd (fun _ => 0) 0 1)))] H := hW
  refine lv_aload_n hx hb dX1_beginFromNow_22 rfl (lv_at hl 0 rfl) ?_
  refine zgo_v (wr := [(a7, .inl (y 2, 4, .inl (upd (fun _ => 0) 0 1)))]) (zrunV (As := []) (rest := []) ⟨hx, hb, hml, hown, ht⟩ (zc_X1_nobodyShuts_0 l D y a0 a1 (.int 0) (.int 20) w2 w3 w4 w5 w6 (.ref a7) w8 (.int 20) (.int 0) w9 w10 w11 w12 w13 w14 w15 w16) (cwV 0 ht (zgV zm_325 zm_326 zm_327 zm_28 zm_328) rfl rfl rfl (by decide +kernel) ⟨(Nat.le_of_ble_eq_true rfl), (Nat.le_of_ble_eq_true rfl)⟩) hK hE hS hA hW [0, 1] (by decide) rfl 0 rfl rfl rfl rfl hl.1 rfl (Nat.le_of_ble_eq_true rfl) dX1_beginFromNow_23 (Nat.le_of_ble_eq_true rfl) (Nat.le_of_ble_eq_true rfl)) hS hA hW [0, 1] [2] rfl rfl (by decide) (by decide) (fun u H locs hw hW hS => ?_)
  have hW : zPD D A [(a7, .inl (y 2, 4, .inl (upd (fun _ => 0) 0 1))), (a0, .inr (1, [.ref a1, .int 0, .int 20, w2, w3, w4, w5, w6, .ref a7])), (a1, .inr (6, [w8, .int 0, .int 20, .int 0, w9, w10, w11, w12, w13, w14, w15, w16]))] H := hW
  exact zret_v hx hb hr hlocks hS () trivial (hW.sub [1, 2, 0] (by decide) rfl) (Nat.le_of_ble_eq_true rfl) (Nat.le_of_ble_eq_true rfl) dX1_beginFromNow_26
set_option maxHeartbeats 8000000 in
set_option maxRecDepth 100000 in
theorem zc_X1_harmOfAll_0 (l : Launch) (D : va_G) (y : Nat → ClassId) (a0 : Nat) (p1 : Int32) (a2 : Nat) (w3 : Value) (w4 : Value) (w5 : Value) (w6 : Value) (w7 : Value) (w8 : Value) (w9 : Value) (w10 : Value) (w11 : Value) (w12 : Value) (w13 : Value) (w14 : Value) (w15 : Value) (w16 : Value) (w17 : Value) (w18 : Value) (w19 : Value) (w20 : Value) (w21 : Value) : zM l D y yX1_harmOfAll (Cond.code yX1_harmOfAll cX1_harmOfAll 5 (some .int) :: zT) { frames := 0, cells := 0, slots := 0, locals := 0 } [.ref a0, .int 0, .int p1] [(a0, .inr (1, [.ref a2, w3, w4, w5, w6, w7, w8, w9, w10])), (a2, .inr (6, [w11, .int 0, w12, w13, w14, w15, w16, w17, w18, w19, w20, w21]))] (zQi (S := Unit) D (fun r_ _ => r_ = 0) (fun _ => [(a0, .inr (1, [.ref a2, w3, w4, w5, w6, w7, w8, w9, w10])), (a2, .inr (6, [w11, .int 0, w12, w13, w14, w15, w16, w17, w18, w19, w20, w21]))])) := by
  refine zent (cc := cX1_harmOfAll) (maxL := 5) (ret := (some .int)) (by decide) (Nat.le_of_ble_eq_true rfl) ?_
  intro p e s m below meth c A H locs ls hx hb hml hr ht hown hlocks hin hA hK hE hS hW hl
  have hown : s.vm.findClass RX1 = some m.cls := hown
  have hW : zPD D A [(a0, .inr (1, [.ref a2, w3, w4, w5, w6, w7, w8, w9, w10])), (a2, .inr (6, [w11, .int 0, w12, w13, w14, w15, w16, w17, w18, w19, w20, w21]))] H := hW
  have hl : lv_has ls 5 [(0, .ref a0), (1, .int 0), (2, .int p1)] := hl
  refine lv_iconst (v := 0) hx hb dX1_harmOfAll_0 (by decide) ?_
  refine lv_istore_n (lv' := [(3, .int 0), (0, .ref a0), (1, .int 0), (2, .int p1)]) hx hb dX1_harmOfAll_1 rfl hl (by decide) rfl (fun ls hl => ?_)
  refine lv_iconst (v := 0) hx hb dX1_harmOfAll_2 (by decide) ?_
  refine lv_istore (lv' := [(4, .int 0), (3, .int 0), (0, .ref a0), (1, .int 0), (2, .int p1)]) hx hb dX1_harmOfAll_3 hl (by decide) rfl (fun ls hl => ?_)
  refine lv_iload hx hb dX1_harmOfAll_5 (lv_at hl 0 rfl) ?_
  refine lv_aload_n hx hb dX1_harmOfAll_7 rfl (lv_at hl 2 rfl) ?_
  refine zget hx hb ht inlX1 hown hK hW 0 rfl rfl 0 (by decide) zm_119 rfl dX1_harmOfAll_8 ?_
  refine zget hx hb ht inlX7 hown hK hW 1 rfl rfl 1 (by decide) zm_284 rfl dX1_harmOfAll_11 ?_
  refine lv_icmp_ge (tgt := 34) hx hb dX1_harmOfAll_14 (by decide) (fun c1_ => ?_) (fun c1_ => absurd (by decide) c1_)
  refine lv_iload_n hx hb dX1_harmOfAll_34 rfl (lv_at hl 1 rfl) ?_
  exact zret_i (v := 0) hx hb hr hlocks hS () rfl hW (Nat.le_of_ble_eq_true rfl) (Nat.le_of_ble_eq_true rfl) dX1_harmOfAll_35
set_option maxHeartbeats 8000000 in
set_option maxRecDepth 100000 in
theorem zc_X9_wetMore_0 (l : Launch) (D : va_G) (y : Nat → ClassId) (a0 : Nat) (p1 : Int32) (w2 : Value) (w3 : Value) (w4 : Value) (a5 : Nat) (w6 : Value) (w7 : Value) (a8 : Nat) (w9 : Value) (w10 : Value) (w11 : Value) (w12 : Value) (w13 : Value) (w14 : Value) (w15 : Value) (w16 : Value) (w17 : Value) (w18 : Value) (w19 : Value) (w20 : Value) (w21 : Value) (w22 : Value) (w23 : Value) (w24 : Value) (w25 : Value) (w26 : Value) (w27 : Value) : zM l D y yX9_wetMore (Cond.code yX9_wetMore cX9_wetMore 3 (some .int) :: zT) { frames := 1, cells := 0, slots := 0, locals := 24 } [.ref a0, .int p1] [(a0, .inr (8, [w2, w3, w4, .ref a5, w6, w7, .ref a8, w9, w10])), (a5, .inr (6, [w11, .int 0, w12, w13, .int 0, .int 0, w14, w15, w16, w17, w18, w19])), (a8, .inr (1, [.ref a5, w20, w21, w22, w23, w24, w25, w26, w27]))] (zQi (S := Unit) D (fun r_ _ => r_ = 0) (fun _ => [(a0, .inr (8, [w2, w3, w4, .ref a5, w6, w7, .ref a8, w9, w10])), (a5, .inr (6, [w11, .int 0, w12, w13, .int 0, .int 0, w14, w15, w16, w17, w18, w19])), (a8, .inr (1, [.ref a5, w20, w21, w22, w23, w24, w25, w26, w27]))])) := by
  refine zent (cc := cX9_wetMore) (maxL := 3) (ret := (some .int)) (by decide) (Nat.le_of_ble_eq_true rfl) ?_
  intro p e s m below meth c A H locs ls hx hb hml hr ht hown hlocks hin hA hK hE hS hW hl
  have hown : s.vm.findClass RX9 = some m.cls := hown
  have hW : zPD D A [(a0, .inr (8, [w2, w3, w4, .ref a5, w6, w7, .ref a8, w9, w10])), (a5, .inr (6, [w11, .int 0, w12, w13, .int 0, .int 0, w14, w15, w16, w17, w18, w19])), (a8, .inr (1, [.ref a5, w20, w21, w22, w23, w24, w25, w26, w27]))] H := hW
  have hl : lv_has ls 3 [(0, .ref a0), (1, .int p1)] := hl
  refine lv_aload_n hx hb dX9_wetMore_0 rfl (lv_at hl 0 rfl) ?_
  refine zget hx hb ht inlX9 hown hK hW 0 rfl rfl 6 (by decide) zm_29 rfl dX9_wetMore_1 ?_
  refine lv_aload_n hx hb dX9_wetMore_4 rfl (lv_at hl 0 rfl) ?_
  refine zget hx hb ht inlX9 hown hK hW 0 rfl rfl 3 (by decide) zm_23 rfl dX9_wetMore_5 ?_
  refine zget hx hb ht inlX7 hown hK hW 1 rfl rfl 4 (by decide) zm_262 rfl dX9_wetMore_8 ?_
  refine lv_aload_n hx hb dX9_wetMore_11 rfl (lv_at hl 0 rfl) ?_
  refine zget hx hb ht inlX9 hown hK hW 0 rfl rfl 3 (by decide) zm_23 rfl dX9_wetMore_12 ?_
  refine zget hx hb ht inlX7 hown hK hW 1 rfl rfl 4 (by decide) zm_262 rfl dX9_wetMore_15 ?_
  refine lv_iload_n hx hb dX9_wetMore_18 rfl (lv_at hl 1 rfl) ?_
  refine lv_iadd hx hb dX9_wetMore_19 ?_
  refine zgo_i (wr := [(a0, .inr (8, [w2, w3, w4, .ref a5, w6, w7, .ref a8, w9, w10]))]) (zrunV (As := [.int 0, .int (0 + p1)]) (rest := []) ⟨hx, hb, hml, hown, ht⟩ (zc_X1_harmOfAll_0 l D y a8 (0 + p1) a5 w20 w21 w22 w23 w24 w25 w26 w27 w11 w12 w13 (.int 0) (.int 0) w14 w15 w16 w17 w18 w19) (cwV 2 ht (zgV zm_732 zm_733 zm_734 zm_28 zm_735) rfl rfl rfl (by decide +kernel) ⟨(Nat.le_of_ble_eq_true rfl), (Nat.le_of_ble_eq_true rfl)⟩) hK hE hS hA hW [2, 1] (by decide) rfl 0 rfl rfl rfl rfl hl.1 rfl (Nat.le_of_ble_eq_true rfl) dX9_wetMore_20 (Nat.le_of_ble_eq_true rfl) (Nat.le_of_ble_eq_true rfl)) hS hA hW [2, 1] [0] rfl rfl (by decide) (by decide) (fun r1_ u H locs hw hW hS => ?_)
  have hW : zPD D A [(a0, .inr (8, [w2, w3, w4, .ref a5, w6, w7, .ref a8, w9, w10])), (a8, .inr (1, [.ref a5, w20, w21, w22, w23, w24, w25, w26, w27])), (a5, .inr (6, [w11, .int 0, w12, w13, .int 0, .int 0, w14, w15, w16, w17, w18, w19]))] H := hW
  have hw : r1_ = 0 := hw
  subst hw
  refine lv_istore_n (lv' := [(2, .int 0), (0, .ref a0), (1, .int p1)]) hx hb dX9_wetMore_23 rfl hl (by decide) rfl (fun ls hl => ?_)
  refine lv_iload_n hx hb dX9_wetMore_24 rfl (lv_at hl 0 rfl) ?_
  refine lv_ldcw (v := 999999) hx hb hown (ht _ zm_730) dX9_wetMore_25 ?_
  refine lv_aload_n hx hb dX9_wetMore_28 rfl (lv_at hl 1 rfl) ?_
  refine zget hx hb ht inlX9 hown hK hW 0 rfl rfl 3 (by decide) zm_23 rfl dX9_wetMore_29 ?_
  refine zget hx hb ht inlX7 hown hK hW 2 rfl rfl 5 (by decide) zm_703 rfl dX9_wetMore_32 ?_
  refine lv_isub hx hb dX9_wetMore_35 ?_
  refine ztop (w := .int 999999) (congrArg Value.int (by decide)) ?_
  refine va_mmin hx hb (by rw [hml]; exact hl.1.symm) hown (ht _ zm_731) (ht _ zm_297) (ht _ zm_91) (ht _ zm_298) (Nat.le_of_ble_eq_true rfl) (Nat.le_of_ble_eq_true rfl) (Nat.le_of_ble_eq_true rfl) (Nat.le_of_ble_eq_true rfl) dX9_wetMore_36 ?_
  refine ztop (w := .int 0) (congrArg Value.int (by decide)) ?_
  exact zret_i (v := 0) hx hb hr hlocks hS () rfl (hW.sub [0, 2, 1] (by decide) rfl) (Nat.le_of_ble_eq_true rfl) (Nat.le_of_ble_eq_true rfl) dX9_wetMore_39
set_option maxHeartbeats 8000000 in
set_option maxRecDepth 100000 in
theorem zc_X9_go_0 (l : Launch) (D : va_G) (y : Nat → ClassId) (a0 : Nat) (p1 : Int32) (w2 : Value) (w3 : Value) (w4 : Value) (a5 : Nat) (w6 : Value) (w7 : Value) (a8 : Nat) (w9 : Value) (w10 : Value) (w11 : Value) (w12 : Value) (w13 : Value) (w14 : Value) (w15 : Value) (w16 : Value) (w17 : Value) (w18 : Value) (w19 : Value) (w20 : Value) (w21 : Value) (w22 : Value) (w23 : Value) (w24 : Value) (w25 : Value) (w26 : Value) (w27 : Value) : zM l D y yX9_go (Cond.code yX9_go cX9_go 3 (some .int) :: zT) { frames := 2, cells := 0, slots := 0, locals := 46 } [.ref a0, .int p1] [(a0, .inr (8, [w2, w3, w4, .ref a5, w6, w7, .ref a8, w9, w10])), (a5, .inr (6, [w11, .int 0, w12, w13, .int 0, .int 0, w14, w15, w16, w17, w18, w19])), (a8, .inr (1, [.ref a5, w20, w21, w22, w23, w24, w25, w26, w27]))] (zQi (S := Unit) D (fun r_ _ => r_ = 0) (fun _ => [(a0, .inr (8, [w2, w3, w4, .ref a5, w6, w7, .ref a8, w9, w10])), (a5, .inr (6, [w11, .int 0, w12, w13, .int (0 + p1), .int 0, w14, w15, w16, w17, w18, w19])), (a8, .inr (1, [.ref a5, w20, w21, w22, w23, w24, w25, w26, w27]))])) := by
  refine zent (cc := cX9_go) (maxL := 3) (ret := (some .int)) (by decide) (Nat.le_of_ble_eq_true rfl) ?_
  intro p e s m below meth c A H locs ls hx hb hml hr ht hown hlocks hin hA hK hE hS hW hl
  have hown : s.vm.findClass RX9 = some m.cls := hown
  have hW : zPD D A [(a0, .inr (8, [w2, w3, w4, .ref a5, w6, w7, .ref a8, w9, w10])), (a5, .inr (6, [w11, .int 0, w12, w13, .int 0, .int 0, w14, w15, w16, w17, w18, w19])), (a8, .inr (1, [.ref a5, w20, w21, w22, w23, w24, w25, w26, w27]))] H := hW
  have hl : lv_has ls 3 [(0, .ref a0), (1, .int p1)] := hl
  refine lv_aload_n hx hb dX9_go_0 rfl (lv_at hl 0 rfl) ?_
  refine lv_iload_n hx hb dX9_go_1 rfl (lv_at hl 1 rfl) ?_
  refine zgo_i (wr := []) (zrunV (As := [.int p1]) (rest := []) ⟨hx, hb, hml, hown, ht⟩ (zc_X9_wetMore_0 l D y a0 p1 w2 w3 w4 a5 w6 w7 a8 w9 w10 w11 w12 w13 w14 w15 w16 w17 w18 w19 w20 w21 w22 w23 w24 w25 w26 w27) (cwV 1 ht (zgV zm_726 zm_727 zm_728 zm_2 zm_729) rfl rfl rfl (by decide +kernel) ⟨(Nat.le_of_ble_eq_true rfl), (Nat.le_of_ble_eq_true rfl)⟩) hK hE hS hA hW [0, 1, 2] (by decide) rfl 0 rfl rfl rfl rfl hl.1 rfl (Nat.le_of_ble_eq_true rfl) dX9_go_2 (Nat.le_of_ble_eq_true rfl) (Nat.le_of_ble_eq_true rfl)) hS hA hW [0, 1, 2] [] rfl rfl (by decide) (by decide) (fun r1_ u H locs hw hW hS => ?_)
  have hW : zPD D A [(a0, .inr (8, [w2, w3, w4, .ref a5, w6, w7, .ref a8, w9, w10])), (a5, .inr (6, [w11, .int 0, w12, w13, .int 0, .int 0, w14, w15, w16, w17, w18, w19])), (a8, .inr (1, [.ref a5, w20, w21, w22, w23, w24, w25, w26, w27]))] H := hW
  have hw : r1_ = 0 := hw
  subst hw
  refine lv_istore_n (lv' := [(2, .int 0), (0, .ref a0), (1, .int p1)]) hx hb dX9_go_5 rfl hl (by decide) rfl (fun ls hl => ?_)
  refine lv_aload_n hx hb dX9_go_6 rfl (lv_at hl 1 rfl) ?_
  refine zget hx hb ht inlX9 hown hK hW 0 rfl rfl 3 (by decide) zm_23 rfl dX9_go_7 ?_
  refine lv_dup hx hb dX9_go_10 rfl ?_
  refine zget hx hb ht inlX7 hown hK hW 1 rfl rfl 5 (by decide) zm_703 rfl dX9_go_11 ?_
  refine lv_iload_n hx hb dX9_go_14 rfl (lv_at hl 0 rfl) ?_
  refine lv_iadd hx hb dX9_go_15 ?_
  refine ztop (w := .int 0) (congrArg Value.int (by decide)) ?_
  refine zput (ws' := [(a0, .inr (8, [w2, w3, w4, .ref a5, w6, w7, .ref a8, w9, w10])), (a5, .inr (6, [w11, .int 0, w12, w13, .int 0, .int 0, w14, w15, w16, w17, w18, w19])), (a8, .inr (1, [.ref a5, w20, w21, w22, w23, w24, w25, w26, w27]))]) hx hb ht inlX7 tyX7 tyX7_ok nmX7 hown hK hS hW 1 rfl rfl 5 (by decide) zm_703 rfl rfl rfl (Nat.le_of_ble_eq_true rfl) rfl dX9_go_16 (fun H locs hW hS => ?_)
  refine lv_aload_n hx hb dX9_go_19 rfl (lv_at hl 1 rfl) ?_
  refine zget hx hb ht inlX9 hown hK hW 0 rfl rfl 3 (by decide) zm_23 rfl dX9_go_20 ?_
  refine lv_dup hx hb dX9_go_23 rfl ?_
  refine zget hx hb ht inlX7 hown hK hW 1 rfl rfl 4 (by decide) zm_262 rfl dX9_go_24 ?_
  refine lv_iload_n hx hb dX9_go_27 rfl (lv_at hl 2 rfl) ?_
  refine lv_iadd hx hb dX9_go_28 ?_
  refine zput (ws' := [(a0, .inr (8, [w2, w3, w4, .ref a5, w6, w7, .ref a8, w9, w10])), (a5, .inr (6, [w11, .int 0, w12, w13, .int (0 + p1), .int 0, w14, w15, w16, w17, w18, w19])), (a8, .inr (1, [.ref a5, w20, w21, w22, w23, w24, w25, w26, w27]))]) hx hb ht inlX7 tyX7 tyX7_ok nmX7 hown hK hS hW 1 rfl rfl 4 (by decide) zm_262 rfl rfl rfl (Nat.le_of_ble_eq_true rfl) rfl dX9_go_29 (fun H locs hW hS => ?_)
  refine lv_iload_n hx hb dX9_go_32 rfl (lv_at hl 0 rfl) ?_
  exact zret_i (v := 0) hx hb hr hlocks hS () rfl hW (Nat.le_of_ble_eq_true rfl) (Nat.le_of_ble_eq_true rfl) dX9_go_33
set_option maxHeartbeats 8000000 in
set_option maxRecDepth 100000 in
theorem zc_X9_pass_0 (l : Launch) (D : va_G) (y : Nat → ClassId) (a0 : Nat) (p1 : Int32) (w2 : Value) (w3 : Value) (w4 : Value) (a5 : Nat) (w6 : Value) (w7 : Value) (a8 : Nat) (w9 : Value) (w10 : Value) (w11 : Value) (w12 : Value) (w13 : Value) (w14 : Value) (w15 : Value) (w16 : Value) (w17 : Value) (w18 : Value) (w19 : Value) (w20 : Value) (w21 : Value) (w22 : Value) (a23 : Nat) : zM l D y yX9_pass (Cond.code yX9_pass cX9_pass 2 (some .int) :: zT) { frames := 3, cells := 0, slots := 0, locals := 68 } [.ref a0, .int p1] [(a0, .inr (8, [w2, w3, w4, .ref a5, w6, w7, .ref a8, w9, w10])), (a5, .inr (6, [w11, .int 0, .int 20, .int 0, .int 0, .int 0, w12, w13, w14, w15, w16, w17])), (a8, .inr (1, [.ref a5, .int 0, .int 0, w18, w19, w20, w21, w22, .ref a23])), (a23, .inl (y 2, 4, .inl (fun _ => 0)))] (zQi (S := Unit) D (fun r_ _ => r_ = (if p1 < 0 then (-2) else (if 99 < p1 then (-2) else 0))) (fun _ => [])) := by
  refine zent (cc := cX9_pass) (maxL := 2) (ret := (some .int)) (by decide) (Nat.le_of_ble_eq_true rfl) ?_
  intro p e s m below meth c A H locs ls hx hb hml hr ht hown hlocks hin hA hK hE hS hW hl
  have hown : s.vm.findClass RX9 = some m.cls := hown
  have hW : zPD D A [(a0, .inr (8, [w2, w3, w4, .ref a5, w6, w7, .ref a8, w9, w10])), (a5, .inr (6, [w11, .int 0, .int 20, .int 0, .int 0, .int 0, w12, w13, w14, w15, w16, w17])), (a8, .inr (1, [.ref a5, .int 0, .int 0, w18, w19, w20, w21, w22, .ref a23])), (a23, .inl (y 2, 4, .inl (fun _ => 0)))] H := hW
  have hl : lv_has ls 2 [(0, .ref a0), (1, .int p1)] := hl
  refine lv_iload_n hx hb dX9_pass_0 rfl (lv_at hl 1 rfl) ?_
  refine lv_iconst (v := 0) hx hb dX9_pass_1 (by decide) ?_
  refine lv_bipush (v := 99) hx hb dX9_pass_2 (by decide) ?_
  refine zgo0_i (zrunS (As := [.int p1, .int 0, .int 99]) (rest := []) ⟨hx, hb, hml, hown, ht⟩ (zc_X9_within_5 l D y p1) (va_cwS 3 ht (zgS zm_222 zm_223 zm_2 zm_224) rfl rfl rfl (by decide +kernel) ⟨(Nat.le_of_ble_eq_true rfl), (Nat.le_of_ble_eq_true rfl)⟩) hK hE hS hA hW [] (by decide) rfl rfl hl.1 rfl (Nat.le_of_ble_eq_true rfl) dX9_pass_4 (Nat.le_of_ble_eq_true rfl) (Nat.le_of_ble_eq_true rfl)) hS hA hW (fun r1_ u H locs hw hW hS => ?_)
  have hw : r1_ = (if p1 < 0 then 0 else (if 99 < p1 then 0 else 1)) := hw
  by_cases c2_ : p1 < 0
  · have b3_ : (-2147483648) ≤ Int32.toInt p1 ∧ Int32.toInt p1 ≤ (-1) := (by have u0 := zbnd p1; have u1 := (zi_lt _ _).mp c2_; have u2 : (0 : Int32).toInt = 0 := (by decide); omega)
    rw [if_pos c2_] at hw
    subst hw
    refine lv_if_ne (tgt := 13) hx hb dX9_pass_7 (by decide) (fun c4_ => absurd (by decide) c4_) (fun c4_ => ?_)
    refine lv_bipush (v := (-2)) hx hb dX9_pass_10 (by decide) ?_
    exact zret_i (v := (-2)) hx hb hr hlocks hS () (by show _ = _; rw [if_pos c2_]) (hW.sub [] (by decide) rfl) (Nat.le_of_ble_eq_true rfl) (Nat.le_of_ble_eq_true rfl) dX9_pass_12
  · have b5_ : 0 ≤ Int32.toInt p1 ∧ Int32.toInt p1 ≤ 2147483647 := (by have u0 := zbnd p1; have u1 := (not_congr (zi_lt _ _)).mp c2_; have u2 : (0 : Int32).toInt = 0 := (by decide); omega)
    rw [if_neg c2_] at hw
    by_cases c6_ : 99 < p1
    · have b7_ : 100 ≤ Int32.toInt p1 ∧ Int32.toInt p1 ≤ 2147483647 := (by have u0 := b5_; have u1 := (zi_lt _ _).mp c6_; have u2 : (99 : Int32).toInt = 99 := (by decide); omega)
      rw [if_pos c6_] at hw
      subst hw
      refine lv_if_ne (tgt := 13) hx hb dX9_pass_7 (by decide) (fun c8_ => absurd (by decide) c8_) (fun c8_ => ?_)
      refine lv_bipush (v := (-2)) hx hb dX9_pass_10 (by decide) ?_
      exact zret_i (v := (-2)) hx hb hr hlocks hS () (by show _ = _; rw [if_neg c2_, if_pos c6_]) (hW.sub [] (by decide) rfl) (Nat.le_of_ble_eq_true rfl) (Nat.le_of_ble_eq_true rfl) dX9_pass_12
    · have b9_ : 0 ≤ Int32.toInt p1 ∧ Int32.toInt p1 ≤ 99 := (by have u0 := b5_; have u1 := (not_congr (zi_lt _ _)).mp c6_; have u2 : (99 : Int32).toInt = 99 := (by decide); omega)
      rw [if_neg c6_] at hw
      subst hw
      refine lv_if_ne (tgt := 13) hx hb dX9_pass_7 (by decide) (fun c10_ => ?_) (fun c10_ => absurd c10_ (by decide))
      refine lv_aload_n hx hb dX9_pass_13 rfl (lv_at hl 0 rfl) ?_
      refine zget hx hb ht inlX9 hown hK hW 0 rfl rfl 3 (by decide) zm_23 rfl dX9_pass_14 ?_
      refine zget hx hb ht inlX7 hown hK hW 1 rfl rfl 4 (by decide) zm_262 rfl dX9_pass_17 ?_
      refine lv_iload_n hx hb dX9_pass_20 rfl (lv_at hl 1 rfl) ?_
      refine lv_iadd hx hb dX9_pass_21 ?_
      have b11_ : 0 ≤ Int32.toInt (0 + p1) ∧ Int32.toInt (0 + p1) ≤ 99 := by have u0 := (show (0 : Int32).toInt = 0 from (by decide)); have u1 := b9_; have u2 := zadd 0 p1 (by omega) (by omega); omega
      refine lv_sipush (v := 9999) hx hb dX9_pass_22 (by decide) ?_
      refine lv_icmp_le (tgt := 31) hx hb dX9_pass_25 (by decide) (fun c12_ => ?_) (fun c12_ => absurd (by have z0 := b11_; have e0 : (9999 : Int32).toInt = 9999 := (by decide); rw [zi_le]; omega) c12_)
      refine lv_aload_n hx hb dX9_pass_31 rfl (lv_at hl 0 rfl) ?_
      refine zget hx hb ht inlX9 hown hK hW 0 rfl rfl 6 (by decide) zm_29 rfl dX9_pass_32 ?_
      refine zgo_v (wr := [(a0, .inr (8, [w2, w3, w4, .ref a5, w6, w7, .ref a8, w9, w10]))]) (zrunV (As := []) (rest := []) ⟨hx, hb, hml, hown, ht⟩ (zc_X1_beginFromNow_0 l D y a8 a5 w18 w19 w20 w21 w22 a23 w11 (.int 0) (.int 0) w12 w13 w14 w15 w16 w17) (cwV 0 ht (zgV zm_274 zm_275 zm_276 zm_28 zm_277) rfl rfl rfl (by decide +kernel) ⟨(Nat.le_of_ble_eq_true rfl), (Nat.le_of_ble_eq_true rfl)⟩) hK hE hS hA hW [2, 1, 3] (by decide) rfl 0 rfl rfl rfl rfl hl.1 rfl (Nat.le_of_ble_eq_true rfl) dX9_pass_35 (Nat.le_of_ble_eq_true rfl) (Nat.le_of_ble_eq_true rfl)) hS hA hW [2, 1, 3] [0] rfl rfl (by decide) (by decide) (fun u H locs hw hW hS => ?_)
      have hW : zPD D A [(a0, .inr (8, [w2, w3, w4, .ref a5, w6, w7, .ref a8, w9, w10])), (a8, .inr (1, [.ref a5, .int 0, .int 20, w18, w19, w20, w21, w22, .ref a23])), (a5, .inr (6, [w11, .int 0, .int 20, .int 0, .int 0, .int 0, w12, w13, w14, w15, w16, w17])), (a23, .inl (y 2, 4, .inl (upd (fun _ => 0) 0 1)))] H := hW
      refine lv_aload_n hx hb dX9_pass_38 rfl (lv_at hl 0 rfl) ?_
      refine lv_iload_n hx hb dX9_pass_39 rfl (lv_at hl 1 rfl) ?_
      refine zgo_i (wr := [(a23, .inl (y 2, 4, .inl (upd (fun _ => 0) 0 1)))]) (zrunV (As := [.int p1]) (rest := []) ⟨hx, hb, hml, hown, ht⟩ (zc_X9_go_0 l D y a0 p1 w2 w3 w4 a5 w6 w7 a8 w9 w10 w11 (.int 20) (.int 0) w12 w13 w14 w15 w16 w17 (.int 0) (.int 20) w18 w19 w20 w21 w22 (.ref a23)) (cwV 1 ht (zgV zm_722 zm_723 zm_724 zm_2 zm_725) rfl rfl rfl (by decide +kernel) ⟨(Nat.le_of_ble_eq_true rfl), (Nat.le_of_ble_eq_true rfl)⟩) hK hE hS hA hW [0, 2, 1] (by decide) rfl 0 rfl rfl rfl rfl hl.1 rfl (Nat.le_of_ble_eq_true rfl) dX9_pass_40 (Nat.le_of_ble_eq_true rfl) (Nat.le_of_ble_eq_true rfl)) hS hA hW [0, 2, 1] [3] rfl rfl (by decide) (by decide) (fun r14_ u H locs hw hW hS => ?_)
      have hW : zPD D A [(a23, .inl (y 2, 4, .inl (upd (fun _ => 0) 0 1))), (a0, .inr (8, [w2, w3, w4, .ref a5, w6, w7, .ref a8, w9, w10])), (a5, .inr (6, [w11, .int 0, .int 20, .int 0, .int (0 + p1), .int 0, w12, w13, w14, w15, w16, w17])), (a8, .inr (1, [.ref a5, .int 0, .int 20, w18, w19, w20, w21, w22, .ref a23]))] H := hW
      have hw : r14_ = 0 := hw
      subst hw
      exact zret_i (v := 0) hx hb hr hlocks hS () (by show _ = _; rw [if_neg c2_, if_neg c6_]) (hW.sub [] (by decide) rfl) (Nat.le_of_ble_eq_true rfl) (Nat.le_of_ble_eq_true rfl) dX9_pass_43
set_option maxHeartbeats 8000000 in
set_option maxRecDepth 100000 in
theorem zc_X10_layRain_0 (l : Launch) (D : va_G) (y : Nat → ClassId) (a0 : Nat) (w1 : Value) (w2 : Value) (w3 : Value) (w4 : Value) (w5 : Value) (w6 : Value) (w7 : Value) (w8 : Value) (w9 : Value) (w10 : Value) (w11 : Value) (w12 : Value) (w13 : Value) (w14 : Value) (w15 : Value) (w16 : Value) (w17 : Value) (w18 : Value) (w19 : Value) (w20 : Value) (w21 : Value) (w22 : Value) (w23 : Value) (w24 : Value) (w25 : Value) (w26 : Value) (w27 : Value) (w28 : Value) (w29 : Value) (w30 : Value) (w31 : Value) (w32 : Value) (w33 : Value) (w34 : Value) (w35 : Value) (w36 : Value) (w37 : Value) (w38 : Value) (w39 : Value) (w40 : Value) (w41 : Value) (w42 : Value) (w43 : Value) (w44 : Value) (w45 : Value) (w46 : Value) (w47 : Value) (w48 : Value) (w49 : Value) (w50 : Value) (w51 : Value) (w52 : Value) (w53 : Value) (w54 : Value) (w55 : Value) (w56 : Value) (w57 : Value) (w58 : Value) (w59 : Value) (w60 : Value) (w61 : Value) (w62 : Value) (w63 : Value) (w64 : Value) (w65 : Value) (w66 : Value) (w67 : Value) (w68 : Value) (w69 : Value) (w70 : Value) (w71 : Value) (w72 : Value) (w73 : Value) : zM l D y yX10_layRain (Cond.code yX10_layRain cX10_layRain 3 none :: zT) { frames := 3, cells := 0, slots := 0, locals := 64 } [.ref a0] [(a0, .inr (9, [.int 0, w1, w2, w3, w4, w5, w6, w7, w8, w9, w10, w11, w12, w13, w14, .int (-1), w15, w16, w17, w18, w19, w20, w21, w22, w23, w24, w25, w26, w27, w28, w29, w30, .int 0, w31, w32, w33, w34, w35, w36, w37, w38, w39, w40, w41, w42, w43, w44, w45, w46, w47, w48, w49, w50, w51, w52, w53, w54, w55, w56, w57, w58, w59, w60, w61, w62, w63, w64, w65, w66, w67, w68, w69, w70, w71, w72, w73]))] (zQv (S := Unit) D (fun _ => True) (fun _ => [(a0, .inr (9, [.int 0, w1, w2, w3, w4, w5, w6, w7, w8, w9, w10, w11, w12, w13, w14, .int (-1), w15, w16, w17, w18, w19, w20, w21, w22, w23, w24, w25, w26, w27, w28, w29, w30, .int 0, w31, w32, w33, w34, w35, w36, w37, w38, w39, w40, w41, w42, w43, w44, w45, w46, w47, w48, w49, w50, w51, w52, w53, w54, w55, w56, w57, w58, w59, w60, w61, w62, w63, w64, w65, w66, w67, w68, w69, w70, w71, w72, w73]))])) := by
  refine zent (cc := cX10_layRain) (maxL := 3) (ret := none) (by decide) (Nat.le_of_ble_eq_true rfl) ?_
  intro p e s m below meth c A H locs ls hx hb hml hr ht hown hlocks hin hA hK hE hS hW hl
  have hown : s.vm.findClass RX10 = some m.cls := hown
  have hW : zPD D A [(a0, .inr (9, [.int 0, w1, w2, w3, w4, w5, w6, w7, w8, w9, w10, w11, w12, w13, w14, .int (-1), w15, w16, w17, w18, w19, w20, w21, w22, w23, w24, w25, w26, w27, w28, w29, w30, .int 0, w31, w32, w33, w34, w35, w36, w37, w38, w39, w40, w41, w42, w43, w44, w45, w46, w47, w48, w49, w50, w51, w52, w53, w54, w55, w56, w57, w58, w59, w60, w61, w62, w63, w64, w65, w66, w67, w68, w69, w70, w71, w72, w73]))] H := hW
  have hl : lv_has ls 3 [(0, .ref a0)] := hl
  refine lv_aload_n hx hb dX10_layRain_0 rfl (lv_at hl 0 rfl) ?_
  refine zgo_i (wr := []) (zrunV (As := []) (rest := []) ⟨hx, hb, hml, hown, ht⟩ (zc_X10_lastNow_0 l D y a0 (.int 0) w1 w2 w3 w4 w5 w6 w7 w8 w9 w10 w11 w12 w13 w14 w15 w16 w17 w18 w19 w20 w21 w22 w23 w24 w25 w26 w27 w28 w29 w30 (.int 0) w31 w32 w33 w34 w35 w36 w37 w38 w39 w40 w41 w42 w43 w44 w45 w46 w47 w48 w49 w50 w51 w52 w53 w54 w55 w56 w57 w58 w59 w60 w61 w62 w63 w64 w65 w66 w67 w68 w69 w70 w71 w72 w73) (cwV 0 ht (zgV zm_381 zm_382 zm_383 zm_5 zm_384) rfl rfl rfl (by decide +kernel) ⟨(Nat.le_of_ble_eq_true rfl), (Nat.le_of_ble_eq_true rfl)⟩) hK hE hS hA hW [0] (by decide) rfl 0 rfl rfl rfl rfl hl.1 rfl (Nat.le_of_ble_eq_true rfl) dX10_layRain_1 (Nat.le_of_ble_eq_true rfl) (Nat.le_of_ble_eq_true rfl)) hS hA hW [0] [] rfl rfl (by decide) (by decide) (fun r1_ u H locs hw hW hS => ?_)
  have hW : zPD D A [(a0, .inr (9, [.int 0, w1, w2, w3, w4, w5, w6, w7, w8, w9, w10, w11, w12, w13, w14, .int (-1), w15, w16, w17, w18, w19, w20, w21, w22, w23, w24, w25, w26, w27, w28, w29, w30, .int 0, w31, w32, w33, w34, w35, w36, w37, w38, w39, w40, w41, w42, w43, w44, w45, w46, w47, w48, w49, w50, w51, w52, w53, w54, w55, w56, w57, w58, w59, w60, w61, w62, w63, w64, w65, w66, w67, w68, w69, w70, w71, w72, w73]))] H := hW
  have hw : r1_ = 15 := hw
  subst hw
  refine lv_istore_n (lv' := [(1, .int 15), (0, .ref a0)]) hx hb dX10_layRain_4 rfl hl (by decide) rfl (fun ls hl => ?_)
  refine lv_iconst (v := 0) hx hb dX10_layRain_5 (by decide) ?_
  refine lv_istore_n (lv' := [(2, .int 0), (1, .int 15), (0, .ref a0)]) hx hb dX10_layRain_6 rfl hl (by decide) rfl (fun ls hl => ?_)
  refine lv_iload_n hx hb dX10_layRain_7 rfl (lv_at hl 0 rfl) ?_
  refine lv_aload_n hx hb dX10_layRain_8 rfl (lv_at hl 2 rfl) ?_
  refine zget hx hb ht inlX10 hown hK hW 0 rfl rfl 0 (by decide) zm_140 rfl dX10_layRain_9 ?_
  refine lv_icmp_ge (tgt := 66) hx hb dX10_layRain_12 (by decide) (fun c2_ => ?_) (fun c2_ => absurd (by decide) c2_)
  refine lv_aload_n hx hb dX10_layRain_66 rfl (lv_at hl 2 rfl) ?_
  refine lv_iconst (v := 0) hx hb dX10_layRain_67 (by decide) ?_
  refine zput (ws' := [(a0, .inr (9, [.int 0, w1, w2, w3, w4, w5, w6, w7, w8, w9, w10, w11, w12, w13, w14, .int (-1), w15, w16, w17, w18, w19, w20, w21, w22, w23, w24, w25, w26, w27, w28, w29, w30, .int 0, w31, w32, w33, w34, w35, w36, w37, w38, w39, w40, w41, w42, w43, w44, w45, w46, w47, w48, w49, w50, w51, w52, w53, w54, w55, w56, w57, w58, w59, w60, w61, w62, w63, w64, w65, w66, w67, w68, w69, w70, w71, w72, w73]))]) hx hb ht inlX10 tyX10 tyX10_ok nmX10 hown hK hS hW 0 rfl rfl 32 (by decide) zm_172 rfl rfl rfl (Nat.le_of_ble_eq_true rfl) rfl dX10_layRain_68 (fun H locs hW hS => ?_)
  exact zret_v hx hb hr hlocks hS () trivial hW (Nat.le_of_ble_eq_true rfl) (Nat.le_of_ble_eq_true rfl) dX10_layRain_71
set_option maxHeartbeats 8000000 in
set_option maxRecDepth 100000 in
theorem zc_X10_layOpen_0 (l : Launch) (D : va_G) (y : Nat → ClassId) (a0 : Nat) (w1 : Value) (w2 : Value) (w3 : Value) (w4 : Value) (w5 : Value) (w6 : Value) (w7 : Value) (w8 : Value) (w9 : Value) (w10 : Value) (w11 : Value) (w12 : Value) (w13 : Value) (a14 : Nat) (w15 : Value) (w16 : Value) (w17 : Value) (w18 : Value) (w19 : Value) (w20 : Value) (w21 : Value) (w22 : Value) (w23 : Value) (w24 : Value) (w25 : Value) (w26 : Value) (w27 : Value) (w28 : Value) (w29 : Value) (w30 : Value) (w31 : Value) (w32 : Value) (w33 : Value) (w34 : Value) (a35 : Nat) (w36 : Value) (w37 : Value) (w38 : Value) (w39 : Value) (w40 : Value) (w41 : Value) (w42 : Value) (w43 : Value) (w44 : Value) (w45 : Value) (w46 : Value) (w47 : Value) (w48 : Value) (w49 : Value) (w50 : Value) (w51 : Value) (w52 : Value) (w53 : Value) (w54 : Value) (w55 : Value) (w56 : Value) (w57 : Value) (w58 : Value) (w59 : Value) (w60 : Value) (w61 : Value) (w62 : Value) (w63 : Value) (w64 : Value) (w65 : Value) (w66 : Value) (w67 : Value) (w68 : Value) (w69 : Value) (w70 : Value) (w71 : Value) (w72 : Value) (w73 : Value) (w74 : Value) (w75 : Value) (w76 : Value) : zM l D y yX10_layOpen (Cond.code yX10_layOpen cX10_layOpen 2 none :: zT) { frames := 0, cells := 0, slots := 0, locals := 0 } [.ref a0] [(a0, .inr (9, [w1, w2, w3, w4, w5, w6, w7, w8, w9, w10, w11, w12, w13, .ref a14, w15, w16, w17, w18, w19, w20, w21, w22, w23, w24, w25, w26, w27, w28, w29, w30, w31, w32, w33, w34, .ref a35, w36, w37, w38, w39, w40, w41, w42, w43, w44, w45, w46, w47, w48, w49, w50, w51, w52, w53, w54, w55, w56, w57, w58, w59, w60, w61, w62, w63, w64, w65, w66, w67, w68, w69, w70, w71, w72, w73, w74, w75, w76])), (a14, .inl (y 2, 7, .inl (fun _ => 0))), (a35, .inl (y 0, 7, .inl (fun _ => 0)))] (zQv (S := Unit) D (fun _ => True) (fun _ => [(a0, .inr (9, [w1, w2, w3, w4, w5, w6, w7, w8, w9, w10, w11, w12, w13, .ref a14, w15, w16, w17, w18, w19, w20, w21, w22, w23, w24, w25, w26, w27, w28, w29, w30, w31, w32, w33, w34, .ref a35, w36, w37, w38, w39, w40, w41, w42, w43, w44, w45, w46, w47, w48, w49, w50, w51, w52, w53, w54, w55, w56, w57, w58, w59, w60, w61, w62, w63, w64, w65, w66, w67, w68, w69, w70, w71, w72, w73, w74, w75, w76])), (a14, .inl (y 2, 7, .inl (fun _ => 0))), (a35, .inl (y 0, 7, .inl (upd (upd (upd (upd (upd (upd (upd (fun _ => 0) 0 99999) 1 99999) 2 99999) 3 99999) 4 99999) 5 99999) 6 99999)))])) := by
  refine zent (cc := cX10_layOpen) (maxL := 2) (ret := none) (by decide) (Nat.le_of_ble_eq_true rfl) ?_
  intro p e s m below meth c A H locs ls hx hb hml hr ht hown hlocks hin hA hK hE hS hW hl
  have hown : s.vm.findClass RX10 = some m.cls := hown
  have hW : zPD D A [(a0, .inr (9, [w1, w2, w3, w4, w5, w6, w7, w8, w9, w10, w11, w12, w13, .ref a14, w15, w16, w17, w18, w19, w20, w21, w22, w23, w24, w25, w26, w27, w28, w29, w30, w31, w32, w33, w34, .ref a35, w36, w37, w38, w39, w40, w41, w42, w43, w44, w45, w46, w47, w48, w49, w50, w51, w52, w53, w54, w55, w56, w57, w58, w59, w60, w61, w62, w63, w64, w65, w66, w67, w68, w69, w70, w71, w72, w73, w74, w75, w76])), (a14, .inl (y 2, 7, .inl (fun _ => 0))), (a35, .inl (y 0, 7, .inl (fun _ => 0)))] H := hW
  have hl : lv_has ls 2 [(0, .ref a0)] := hl
  refine lv_iconst (v := 0) hx hb dX10_layOpen_0 (by decide) ?_
  refine lv_istore_n (lv' := [(1, .int 0), (0, .ref a0)]) hx hb dX10_layOpen_1 rfl hl (by decide) rfl (fun ls hl => ?_)
  refine lv_iload_n hx hb dX10_layOpen_2 rfl (lv_at hl 0 rfl) ?_
  refine lv_bipush (v := 7) hx hb dX10_layOpen_3 (by decide) ?_
  refine lv_icmp_ge (tgt := 36) hx hb dX10_layOpen_5 (by decide) (fun c1_ => absurd c1_ (by decide)) (fun c1_ => ?_)
  refine lv_aload_n hx hb dX10_layOpen_8 rfl (lv_at hl 1 rfl) ?_
  refine zget hx hb ht inlX10 hown hK hW 0 rfl rfl 34 (by decide) zm_174 rfl dX10_layOpen_9 ?_
  refine lv_iload_n hx hb dX10_layOpen_12 rfl (lv_at hl 0 rfl) ?_
  refine lv_aload_n hx hb dX10_layOpen_13 rfl (lv_at hl 1 rfl) ?_
  refine zget hx hb ht inlX10 hown hK hW 0 rfl rfl 13 (by decide) zm_153 rfl dX10_layOpen_14 ?_
  refine lv_iload_n hx hb dX10_layOpen_17 rfl (lv_at hl 0 rfl) ?_
  refine zzald (v := 0) hx hb hK hW 1 rfl (by unfold vp_in; decide) rfl dX10_layOpen_18 ?_
  refine lv_if_eq (tgt := 26) hx hb dX10_layOpen_19 (by decide) (fun c2_ => ?_) (fun c2_ => absurd (by decide) c2_)
  refine lv_ldcw (v := 99999) hx hb hown (ht _ zm_401) dX10_layOpen_26 ?_
  refine ziast (ws' := [(a0, .inr (9, [w1, w2, w3, w4, w5, w6, w7, w8, w9, w10, w11, w12, w13, .ref a14, w15, w16, w17, w18, w19, w20, w21, w22, w23, w24, w25, w26, w27, w28, w29, w30, w31, w32, w33, w34, .ref a35, w36, w37, w38, w39, w40, w41, w42, w43, w44, w45, w46, w47, w48, w49, w50, w51, w52, w53, w54, w55, w56, w57, w58, w59, w60, w61, w62, w63, w64, w65, w66, w67, w68, w69, w70, w71, w72, w73, w74, w75, w76])), (a14, .inl (y 2, 7, .inl (fun _ => 0))), (a35, .inl (y 0, 7, .inl (upd (fun _ => 0) 0 99999)))]) hx hb hK hS hW 2 rfl (by unfold vp_in; decide) rfl rfl dX10_layOpen_29 (fun H locs hW hS => ?_)
  refine lv_iinc (k := 0) (v := 1) (lv' := [(1, .int 1), (0, .ref a0)]) hx hb dX10_layOpen_30 hl rfl (by decide) (by decide) rfl (fun ls hl => ?_)
  refine lv_goto (tgt := 2) hx hb dX10_layOpen_33 (by decide) ?_
  refine lv_iload_n hx hb dX10_layOpen_2 rfl (lv_at hl 0 rfl) ?_
  refine lv_bipush (v := 7) hx hb dX10_layOpen_3 (by decide) ?_
  refine lv_icmp_ge (tgt := 36) hx hb dX10_layOpen_5 (by decide) (fun c3_ => absurd c3_ (by decide)) (fun c3_ => ?_)
  refine lv_aload_n hx hb dX10_layOpen_8 rfl (lv_at hl 1 rfl) ?_
  refine zget hx hb ht inlX10 hown hK hW 0 rfl rfl 34 (by decide) zm_174 rfl dX10_layOpen_9 ?_
  refine lv_iload_n hx hb dX10_layOpen_12 rfl (lv_at hl 0 rfl) ?_
  refine lv_aload_n hx hb dX10_layOpen_13 rfl (lv_at hl 1 rfl) ?_
  refine zget hx hb ht inlX10 hown hK hW 0 rfl rfl 13 (by decide) zm_153 rfl dX10_layOpen_14 ?_
  refine lv_iload_n hx hb dX10_layOpen_17 rfl (lv_at hl 0 rfl) ?_
  refine zzald (v := 0) hx hb hK hW 1 rfl (by unfold vp_in; decide) rfl dX10_layOpen_18 ?_
  refine lv_if_eq (tgt := 26) hx hb dX10_layOpen_19 (by decide) (fun c4_ => ?_) (fun c4_ => absurd (by decide) c4_)
  refine lv_ldcw (v := 99999) hx hb hown (ht _ zm_401) dX10_layOpen_26 ?_
  refine ziast (ws' := [(a0, .inr (9, [w1, w2, w3, w4, w5, w6, w7, w8, w9, w10, w11, w12, w13, .ref a14, w15, w16, w17, w18, w19, w20, w21, w22, w23, w24, w25, w26, w27, w28, w29, w30, w31, w32, w33, w34, .ref a35, w36, w37, w38, w39, w40, w41, w42, w43, w44, w45, w46, w47, w48, w49, w50, w51, w52, w53, w54, w55, w56, w57, w58, w59, w60, w61, w62, w63, w64, w65, w66, w67, w68, w69, w70, w71, w72, w73, w74, w75, w76])), (a14, .inl (y 2, 7, .inl (fun _ => 0))), (a35, .inl (y 0, 7, .inl (upd (upd (fun _ => 0) 0 99999) 1 99999)))]) hx hb hK hS hW 2 rfl (by unfold vp_in; decide) rfl rfl dX10_layOpen_29 (fun H locs hW hS => ?_)
  refine lv_iinc (k := 0) (v := 2) (lv' := [(1, .int 2), (0, .ref a0)]) hx hb dX10_layOpen_30 hl rfl (by decide) (by decide) rfl (fun ls hl => ?_)
  refine lv_goto (tgt := 2) hx hb dX10_layOpen_33 (by decide) ?_
  refine lv_iload_n hx hb dX10_layOpen_2 rfl (lv_at hl 0 rfl) ?_
  refine lv_bipush (v := 7) hx hb dX10_layOpen_3 (by decide) ?_
  refine lv_icmp_ge (tgt := 36) hx hb dX10_layOpen_5 (by decide) (fun c5_ => absurd c5_ (by decide)) (fun c5_ => ?_)
  refine lv_aload_n hx hb dX10_layOpen_8 rfl (lv_at hl 1 rfl) ?_
  refine zget hx hb ht inlX10 hown hK hW 0 rfl rfl 34 (by decide) zm_174 rfl dX10_layOpen_9 ?_
  refine lv_iload_n hx hb dX10_layOpen_12 rfl (lv_at hl 0 rfl) ?_
  refine lv_aload_n hx hb dX10_layOpen_13 rfl (lv_at hl 1 rfl) ?_
  refine zget hx hb ht inlX10 hown hK hW 0 rfl rfl 13 (by decide) zm_153 rfl dX10_layOpen_14 ?_
  refine lv_iload_n hx hb dX10_layOpen_17 rfl (lv_at hl 0 rfl) ?_
  refine zzald (v := 0) hx hb hK hW 1 rfl (by unfold vp_in; decide) rfl dX10_layOpen_18 ?_
  refine lv_if_eq (tgt := 26) hx hb dX10_layOpen_19 (by decide) (fun c6_ => ?_) (fun c6_ => absurd (by decide) c6_)
  refine lv_ldcw (v := 99999) hx hb hown (ht _ zm_401) dX10_layOpen_26 ?_
  refine ziast (ws' := [(a0, .inr (9, [w1, w2, w3, w4, w5, w6, w7, w8, w9, w10, w11, w12, w13, .ref a14, w15, w16, w17, w18, w19, w20, w21, w22, w23, w24, w25, w26, w27, w28, w29, w30, w31, w32, w33, w34, .ref a35, w36, w37, w38, w39, w40, w41, w42, w43, w44, w45, w46, w47, w48, w49, w50, w51, w52, w53, w54, w55, w56, w57, w58, w59, w60, w61, w62, w63, w64, w65, w66, w67, w68, w69, w70, w71, w72, w73, w74, w75, w76])), (a14, .inl (y 2, 7, .inl (fun _ => 0))), (a35, .inl (y 0, 7, .inl (upd (upd (upd (fun _ => 0) 0 99999) 1 99999) 2 99999)))]) hx hb hK hS hW 2 rfl (by unfold vp_in; decide) rfl rfl dX10_layOpen_29 (fun H locs hW hS => ?_)
  refine lv_iinc (k := 0) (v := 3) (lv' := [(1, .int 3), (0, .ref a0)]) hx hb dX10_layOpen_30 hl rfl (by decide) (by decide) rfl (fun ls hl => ?_)
  refine lv_goto (tgt := 2) hx hb dX10_layOpen_33 (by decide) ?_
  refine lv_iload_n hx hb dX10_layOpen_2 rfl (lv_at hl 0 rfl) ?_
  refine lv_bipush (v := 7) hx hb dX10_layOpen_3 (by decide) ?_
  refine lv_icmp_ge (tgt := 36) hx hb dX10_layOpen_5 (by decide) (fun c7_ => absurd c7_ (by decide)) (fun c7_ => ?_)
  refine lv_aload_n hx hb dX10_layOpen_8 rfl (lv_at hl 1 rfl) ?_
  refine zget hx hb ht inlX10 hown hK hW 0 rfl rfl 34 (by decide) zm_174 rfl dX10_layOpen_9 ?_
  refine lv_iload_n hx hb dX10_layOpen_12 rfl (lv_at hl 0 rfl) ?_
  refine lv_aload_n hx hb dX10_layOpen_13 rfl (lv_at hl 1 rfl) ?_
  refine zget hx hb ht inlX10 hown hK hW 0 rfl rfl 13 (by decide) zm_153 rfl dX10_layOpen_14 ?_
  refine lv_iload_n hx hb dX10_layOpen_17 rfl (lv_at hl 0 rfl) ?_
  refine zzald (v := 0) hx hb hK hW 1 rfl (by unfold vp_in; decide) rfl dX10_layOpen_18 ?_
  refine lv_if_eq (tgt := 26) hx hb dX10_layOpen_19 (by decide) (fun c8_ => ?_) (fun c8_ => absurd (by decide) c8_)
  refine lv_ldcw (v := 99999) hx hb hown (ht _ zm_401) dX10_layOpen_26 ?_
  refine ziast (ws' := [(a0, .inr (9, [w1, w2, w3, w4, w5, w6, w7, w8, w9, w10, w11, w12, w13, .ref a14, w15, w16, w17, w18, w19, w20, w21, w22, w23, w24, w25, w26, w27, w28, w29, w30, w31, w32, w33, w34, .ref a35, w36, w37, w38, w39, w40, w41, w42, w43, w44, w45, w46, w47, w48, w49, w50, w51, w52, w53, w54, w55, w56, w57, w58, w59, w60, w61, w62, w63, w64, w65, w66, w67, w68, w69, w70, w71, w72, w73, w74, w75, w76])), (a14, .inl (y 2, 7, .inl (fun _ => 0))), (a35, .inl (y 0, 7, .inl (upd (upd (upd (upd (fun _ => 0) 0 99999) 1 99999) 2 99999) 3 99999)))]) hx hb hK hS hW 2 rfl (by unfold vp_in; decide) rfl rfl dX10_layOpen_29 (fun H locs hW hS => ?_)
  refine lv_iinc (k := 0) (v := 4) (lv' := [(1, .int 4), (0, .ref a0)]) hx hb dX10_layOpen_30 hl rfl (by decide) (by decide) rfl (fun ls hl => ?_)
  refine lv_goto (tgt := 2) hx hb dX10_layOpen_33 (by decide) ?_
  refine lv_iload_n hx hb dX10_layOpen_2 rfl (lv_at hl 0 rfl) ?_
  refine lv_bipush (v := 7) hx hb dX10_layOpen_3 (by decide) ?_
  refine lv_icmp_ge (tgt := 36) hx hb dX10_layOpen_5 (by decide) (fun c9_ => absurd c9_ (by decide)) (fun c9_ => ?_)
  refine lv_aload_n hx hb dX10_layOpen_8 rfl (lv_at hl 1 rfl) ?_
  refine zget hx hb ht inlX10 hown hK hW 0 rfl rfl 34 (by decide) zm_174 rfl dX10_layOpen_9 ?_
  refine lv_iload_n hx hb dX10_layOpen_12 rfl (lv_at hl 0 rfl) ?_
  refine lv_aload_n hx hb dX10_layOpen_13 rfl (lv_at hl 1 rfl) ?_
  refine zget hx hb ht inlX10 hown hK hW 0 rfl rfl 13 (by decide) zm_153 rfl dX10_layOpen_14 ?_
  refine lv_iload_n hx hb dX10_layOpen_17 rfl (lv_at hl 0 rfl) ?_
  refine zzald (v := 0) hx hb hK hW 1 rfl (by unfold vp_in; decide) rfl dX10_layOpen_18 ?_
  refine lv_if_eq (tgt := 26) hx hb dX10_layOpen_19 (by decide) (fun c10_ => ?_) (fun c10_ => absurd (by decide) c10_)
  refine lv_ldcw (v := 99999) hx hb hown (ht _ zm_401) dX10_layOpen_26 ?_
  refine ziast (ws' := [(a0, .inr (9, [w1, w2, w3, w4, w5, w6, w7, w8, w9, w10, w11, w12, w13, .ref a14, w15, w16, w17, w18, w19, w20, w21, w22, w23, w24, w25, w26, w27, w28, w29, w30, w31, w32, w33, w34, .ref a35, w36, w37, w38, w39, w40, w41, w42, w43, w44, w45, w46, w47, w48, w49, w50, w51, w52, w53, w54, w55, w56, w57, w58, w59, w60, w61, w62, w63, w64, w65, w66, w67, w68, w69, w70, w71, w72, w73, w74, w75, w76])), (a14, .inl (y 2, 7, .inl (fun _ => 0))), (a35, .inl (y 0, 7, .inl (upd (upd (upd (upd (upd (fun _ => 0) 0 99999) 1 99999) 2 99999) 3 99999) 4 99999)))]) hx hb hK hS hW 2 rfl (by unfold vp_in; decide) rfl rfl dX10_layOpen_29 (fun H locs hW hS => ?_)
  refine lv_iinc (k := 0) (v := 5) (lv' := [(1, .int 5), (0, .ref a0)]) hx hb dX10_layOpen_30 hl rfl (by decide) (by decide) rfl (fun ls hl => ?_)
  refine lv_goto (tgt := 2) hx hb dX10_layOpen_33 (by decide) ?_
  refine lv_iload_n hx hb dX10_layOpen_2 rfl (lv_at hl 0 rfl) ?_
  refine lv_bipush (v := 7) hx hb dX10_layOpen_3 (by decide) ?_
  refine lv_icmp_ge (tgt := 36) hx hb dX10_layOpen_5 (by decide) (fun c11_ => absurd c11_ (by decide)) (fun c11_ => ?_)
  refine lv_aload_n hx hb dX10_layOpen_8 rfl (lv_at hl 1 rfl) ?_
  refine zget hx hb ht inlX10 hown hK hW 0 rfl rfl 34 (by decide) zm_174 rfl dX10_layOpen_9 ?_
  refine lv_iload_n hx hb dX10_layOpen_12 rfl (lv_at hl 0 rfl) ?_
  refine lv_aload_n hx hb dX10_layOpen_13 rfl (lv_at hl 1 rfl) ?_
  refine zget hx hb ht inlX10 hown hK hW 0 rfl rfl 13 (by decide) zm_153 rfl dX10_layOpen_14 ?_
  refine lv_iload_n hx hb dX10_layOpen_17 rfl (lv_at hl 0 rfl) ?_
  refine zzald (v := 0) hx hb hK hW 1 rfl (by unfold vp_in; decide) rfl dX10_layOpen_18 ?_
  refine lv_if_eq (tgt := 26) hx hb dX10_layOpen_19 (by decide) (fun c12_ => ?_) (fun c12_ => absurd (by decide) c12_)
  refine lv_ldcw (v := 99999) hx hb hown (ht _ zm_401) dX10_layOpen_26 ?_
  refine ziast (ws' := [(a0, .inr (9, [w1, w2, w3, w4, w5, w6, w7, w8, w9, w10, w11, w12, w13, .ref a14, w15, w16, w17, w18, w19, w20, w21, w22, w23, w24, w25, w26, w27, w28, w29, w30, w31, w32, w33, w34, .ref a35, w36, w37, w38, w39, w40, w41, w42, w43, w44, w45, w46, w47, w48, w49, w50, w51, w52, w53, w54, w55, w56, w57, w58, w59, w60, w61, w62, w63, w64, w65, w66, w67, w68, w69, w70, w71, w72, w73, w74, w75, w76])), (a14, .inl (y 2, 7, .inl (fun _ => 0))), (a35, .inl (y 0, 7, .inl (upd (upd (upd (upd (upd (upd (fun _ => 0) 0 99999) 1 99999) 2 99999) 3 99999) 4 99999) 5 99999)))]) hx hb hK hS hW 2 rfl (by unfold vp_in; decide) rfl rfl dX10_layOpen_29 (fun H locs hW hS => ?_)
  refine lv_iinc (k := 0) (v := 6) (lv' := [(1, .int 6), (0, .ref a0)]) hx hb dX10_layOpen_30 hl rfl (by decide) (by decide) rfl (fun ls hl => ?_)
  refine lv_goto (tgt := 2) hx hb dX10_layOpen_33 (by decide) ?_
  refine lv_iload_n hx hb dX10_layOpen_2 rfl (lv_at hl 0 rfl) ?_
  refine lv_bipush (v := 7) hx hb dX10_layOpen_3 (by decide) ?_
  refine lv_icmp_ge (tgt := 36) hx hb dX10_layOpen_5 (by decide) (fun c13_ => absurd c13_ (by decide)) (fun c13_ => ?_)
  refine lv_aload_n hx hb dX10_layOpen_8 rfl (lv_at hl 1 rfl) ?_
  refine zget hx hb ht inlX10 hown hK hW 0 rfl rfl 34 (by decide) zm_174 rfl dX10_layOpen_9 ?_
  refine lv_iload_n hx hb dX10_layOpen_12 rfl (lv_at hl 0 rfl) ?_
  refine lv_aload_n hx hb dX10_layOpen_13 rfl (lv_at hl 1 rfl) ?_
  refine zget hx hb ht inlX10 hown hK hW 0 rfl rfl 13 (by decide) zm_153 rfl dX10_layOpen_14 ?_
  refine lv_iload_n hx hb dX10_layOpen_17 rfl (lv_at hl 0 rfl) ?_
  refine zzald (v := 0) hx hb hK hW 1 rfl (by unfold vp_in; decide) rfl dX10_layOpen_18 ?_
  refine lv_if_eq (tgt := 26) hx hb dX10_layOpen_19 (by decide) (fun c14_ => ?_) (fun c14_ => absurd (by decide) c14_)
  refine lv_ldcw (v := 99999) hx hb hown (ht _ zm_401) dX10_layOpen_26 ?_
  refine ziast (ws' := [(a0, .inr (9, [w1, w2, w3, w4, w5, w6, w7, w8, w9, w10, w11, w12, w13, .ref a14, w15, w16, w17, w18, w19, w20, w21, w22, w23, w24, w25, w26, w27, w28, w29, w30, w31, w32, w33, w34, .ref a35, w36, w37, w38, w39, w40, w41, w42, w43, w44, w45, w46, w47, w48, w49, w50, w51, w52, w53, w54, w55, w56, w57, w58, w59, w60, w61, w62, w63, w64, w65, w66, w67, w68, w69, w70, w71, w72, w73, w74, w75, w76])), (a14, .inl (y 2, 7, .inl (fun _ => 0))), (a35, .inl (y 0, 7, .inl (upd (upd (upd (upd (upd (upd (upd (fun _ => 0) 0 99999) 1 99999) 2 99999) 3 99999) 4 99999) 5 99999) 6 99999)))]) hx hb hK hS hW 2 rfl (by unfold vp_in; decide) rfl rfl dX10_layOpen_29 (fun H locs hW hS => ?_)
  refine lv_iinc (k := 0) (v := 7) (lv' := [(1, .int 7), (0, .ref a0)]) hx hb dX10_layOpen_30 hl rfl (by decide) (by decide) rfl (fun ls hl => ?_)
  refine lv_goto (tgt := 2) hx hb dX10_layOpen_33 (by decide) ?_
  refine lv_iload_n hx hb dX10_layOpen_2 rfl (lv_at hl 0 rfl) ?_
  refine lv_bipush (v := 7) hx hb dX10_layOpen_3 (by decide) ?_
  refine lv_icmp_ge (tgt := 36) hx hb dX10_layOpen_5 (by decide) (fun c15_ => ?_) (fun c15_ => absurd (by decide) c15_)
  exact zret_v hx hb hr hlocks hS () trivial hW (Nat.le_of_ble_eq_true rfl) (Nat.le_of_ble_eq_true rfl) dX10_layOpen_36
set_option maxHeartbeats 8000000 in
set_option maxRecDepth 100000 in
theorem zc_X10_harmAt_0 (l : Launch) (D : va_G) (y : Nat → ClassId) (a0 : Nat) (p1 : Int32) (w2 : Value) (w3 : Value) (w4 : Value) (w5 : Value) (w6 : Value) (w7 : Value) (w8 : Value) (w9 : Value) (w10 : Value) (w11 : Value) (w12 : Value) (w13 : Value) (w14 : Value) (w15 : Value) (w16 : Value) (w17 : Value) (w18 : Value) (w19 : Value) (w20 : Value) (w21 : Value) (w22 : Value) (w23 : Value) (w24 : Value) (w25 : Value) (w26 : Value) (w27 : Value) (w28 : Value) (w29 : Value) (w30 : Value) (w31 : Value) (w32 : Value) (w33 : Value) (w34 : Value) (w35 : Value) (w36 : Value) (w37 : Value) (w38 : Value) (w39 : Value) (w40 : Value) (w41 : Value) (w42 : Value) (w43 : Value) (w44 : Value) (w45 : Value) (w46 : Value) (w47 : Value) (w48 : Value) (w49 : Value) (w50 : Value) (w51 : Value) (w52 : Value) (w53 : Value) (w54 : Value) (w55 : Value) (w56 : Value) (w57 : Value) (w58 : Value) (w59 : Value) (w60 : Value) (w61 : Value) (w62 : Value) (w63 : Value) (w64 : Value) (w65 : Value) (w66 : Value) (w67 : Value) (w68 : Value) (w69 : Value) (w70 : Value) (w71 : Value) (w72 : Value) (w73 : Value) (w74 : Value) (w75 : Value) (w76 : Value) : zM l D y yX10_harmAt (Cond.code yX10_harmAt cX10_harmAt 4 (some .int) :: zT) { frames := 0, cells := 0, slots := 0, locals := 0 } [.ref a0, .int p1] [(a0, .inr (9, [.int 0, w2, w3, w4, w5, w6, w7, w8, w9, w10, w11, w12, w13, w14, w15, w16, w17, w18, w19, w20, w21, w22, w23, w24, w25, w26, w27, w28, w29, w30, w31, w32, w33, w34, w35, w36, w37, w38, w39, w40, w41, w42, w43, w44, w45, w46, w47, w48, w49, w50, w51, w52, w53, w54, w55, w56, w57, w58, w59, w60, w61, w62, w63, w64, w65, w66, w67, w68, w69, w70, w71, w72, w73, w74, w75, w76]))] (zQi (S := Unit) D (fun r_ _ => r_ = 0) (fun _ => [(a0, .inr (9, [.int 0, w2, w3, w4, w5, w6, w7, w8, w9, w10, w11, w12, w13, w14, w15, w16, w17, w18, w19, w20, w21, w22, w23, w24, w25, w26, w27, w28, w29, w30, w31, w32, w33, w34, w35, w36, w37, w38, w39, w40, w41, w42, w43, w44, w45, w46, w47, w48, w49, w50, w51, w52, w53, w54, w55, w56, w57, w58, w59, w60, w61, w62, w63, w64, w65, w66, w67, w68, w69, w70, w71, w72, w73, w74, w75, w76]))])) := by
  refine zent (cc := cX10_harmAt) (maxL := 4) (ret := (some .int)) (by decide) (Nat.le_of_ble_eq_true rfl) ?_
  intro p e s m below meth c A H locs ls hx hb hml hr ht hown hlocks hin hA hK hE hS hW hl
  have hown : s.vm.findClass RX10 = some m.cls := hown
  have hW : zPD D A [(a0, .inr (9, [.int 0, w2, w3, w4, w5, w6, w7, w8, w9, w10, w11, w12, w13, w14, w15, w16, w17, w18, w19, w20, w21, w22, w23, w24, w25, w26, w27, w28, w29, w30, w31, w32, w33, w34, w35, w36, w37, w38, w39, w40, w41, w42, w43, w44, w45, w46, w47, w48, w49, w50, w51, w52, w53, w54, w55, w56, w57, w58, w59, w60, w61, w62, w63, w64, w65, w66, w67, w68, w69, w70, w71, w72, w73, w74, w75, w76]))] H := hW
  have hl : lv_has ls 4 [(0, .ref a0), (1, .int p1)] := hl
  refine lv_iconst (v := 0) hx hb dX10_harmAt_0 (by decide) ?_
  refine lv_istore_n (lv' := [(2, .int 0), (0, .ref a0), (1, .int p1)]) hx hb dX10_harmAt_1 rfl hl (by decide) rfl (fun ls hl => ?_)
  refine lv_iconst (v := 0) hx hb dX10_harmAt_2 (by decide) ?_
  refine lv_istore_n (lv' := [(3, .int 0), (2, .int 0), (0, .ref a0), (1, .int p1)]) hx hb dX10_harmAt_3 rfl hl (by decide) rfl (fun ls hl => ?_)
  refine lv_iload_n hx hb dX10_harmAt_4 rfl (lv_at hl 0 rfl) ?_
  refine lv_aload_n hx hb dX10_harmAt_5 rfl (lv_at hl 2 rfl) ?_
  refine zget hx hb ht inlX10 hown hK hW 0 rfl rfl 0 (by decide) zm_140 rfl dX10_harmAt_6 ?_
  refine lv_icmp_ge (tgt := 27) hx hb dX10_harmAt_9 (by decide) (fun c1_ => ?_) (fun c1_ => absurd (by decide) c1_)
  refine lv_iload_n hx hb dX10_harmAt_27 rfl (lv_at hl 1 rfl) ?_
  exact zret_i (v := 0) hx hb hr hlocks hS () rfl hW (Nat.le_of_ble_eq_true rfl) (Nat.le_of_ble_eq_true rfl) dX10_harmAt_28
set_option maxHeartbeats 8000000 in
set_option maxRecDepth 100000 in
theorem zc_X10_harmFrom_0 (l : Launch) (D : va_G) (y : Nat → ClassId) (a0 : Nat) (p1 : Int32) (w2 : Value) (w3 : Value) (w4 : Value) (w5 : Value) (w6 : Value) (w7 : Value) (w8 : Value) (w9 : Value) (w10 : Value) (w11 : Value) (w12 : Value) (w13 : Value) (w14 : Value) (w15 : Value) (w16 : Value) (w17 : Value) (w18 : Value) (w19 : Value) (w20 : Value) (w21 : Value) (w22 : Value) (w23 : Value) (w24 : Value) (w25 : Value) (w26 : Value) (w27 : Value) (w28 : Value) (w29 : Value) (w30 : Value) (w31 : Value) (w32 : Value) (w33 : Value) (w34 : Value) (w35 : Value) (w36 : Value) (w37 : Value) (w38 : Value) (w39 : Value) (w40 : Value) (w41 : Value) (w42 : Value) (w43 : Value) (w44 : Value) (w45 : Value) (w46 : Value) (w47 : Value) (w48 : Value) (w49 : Value) (w50 : Value) (w51 : Value) (w52 : Value) (w53 : Value) (w54 : Value) (w55 : Value) (w56 : Value) (w57 : Value) (w58 : Value) (w59 : Value) (w60 : Value) (w61 : Value) (w62 : Value) (w63 : Value) (w64 : Value) (w65 : Value) (w66 : Value) (w67 : Value) (w68 : Value) (w69 : Value) (w70 : Value) (w71 : Value) (w72 : Value) (w73 : Value) (w74 : Value) (hp1 : 0 ≤ Int32.toInt p1 ∧ Int32.toInt p1 ≤ 99) : zM l D y yX10_harmFrom (Cond.code yX10_harmFrom cX10_harmFrom 5 (some .int) :: zT) { frames := 3, cells := 0, slots := 0, locals := 64 } [.ref a0, .int 0, .int p1] [(a0, .inr (9, [.int 0, w2, w3, .int 20, w4, w5, w6, w7, w8, w9, w10, w11, w12, w13, w14, .int (-1), w15, w16, w17, w18, w19, w20, w21, w22, w23, w24, w25, w26, w27, w28, w29, w30, w31, w32, w33, w34, w35, w36, w37, w38, w39, w40, w41, w42, w43, w44, w45, w46, w47, w48, w49, w50, w51, w52, w53, w54, w55, w56, w57, w58, w59, w60, w61, w62, w63, w64, w65, w66, w67, w68, w69, w70, w71, w72, w73, w74]))] (zQi (S := Unit) D (fun r_ _ => r_ = 0) (fun _ => [(a0, .inr (9, [.int 0, w2, w3, .int 20, w4, w5, w6, w7, w8, w9, w10, w11, w12, w13, w14, .int (-1), w15, w16, w17, w18, w19, w20, w21, w22, w23, w24, w25, w26, w27, w28, w29, w30, w31, w32, w33, w34, w35, w36, w37, w38, w39, w40, w41, w42, w43, w44, w45, w46, w47, w48, w49, w50, w51, w52, w53, w54, w55, w56, w57, w58, w59, w60, w61, w62, w63, w64, w65, w66, w67, w68, w69, w70, w71, w72, w73, w74]))])) := by
  refine zent (cc := cX10_harmFrom) (maxL := 5) (ret := (some .int)) (by decide) (Nat.le_of_ble_eq_true rfl) ?_
  intro p e s m below meth c A H locs ls hx hb hml hr ht hown hlocks hin hA hK hE hS hW hl
  have hown : s.vm.findClass RX10 = some m.cls := hown
  replace hW : zPD D A [(a0, .inr (9, [.int 0, w2, w3, .int 20, w4, w5, w6, w7, w8, w9, w10, w11, w12, w13, w14, .int (-1), w15, w16, w17, w18, w19, w20, w21, w22, w23, w24, w25, w26, w27, w28, w29, w30, w31, w32, w33, w34, w35, w36, w37, w38, w39, w40, w41, w42, w43, w44, w45, w46, w47, w48, w49, w50, w51, w52, w53, w54, w55, w56, w57, w58, w59, w60, w61, w62, w63, w64, w65, w66, w67, w68, w69, w70, w71, w72, w73, w74]))] H := hW
  replace hl : lv_has ls 5 [(0, .ref a0), (1, .int 0), (2, .int p1)] := hl
  refine lv_iconst (v := 0) hx hb dX10_harmFrom_0 (by decide) ?_
  refine lv_istore_n (lv' := [(3, .int 0), (0, .ref a0), (1, .int 0), (2, .int p1)]) hx hb dX10_harmFrom_1 rfl hl (by decide) rfl (fun ls hl => ?_)
  refine lv_iload_n hx hb dX10_harmFrom_2 rfl (lv_at hl 2 rfl) ?_
  refine lv_aload_n hx hb dX10_harmFrom_3 rfl (lv_at hl 1 rfl) ?_
  refine zget hx hb ht inlX10 hown hK hW 0 rfl rfl 3 (by decide) zm_143 rfl dX10_harmFrom_4 ?_
  refine lv_icmp_ge (tgt := 17) hx hb dX10_harmFrom_7 (by decide) (fun c1_ => absurd c1_ (by decide)) (fun c1_ => ?_)
  refine lv_aload_n hx hb dX10_harmFrom_10 rfl (lv_at hl 1 rfl) ?_
  refine zget hx hb ht inlX10 hown hK hW 0 rfl rfl 3 (by decide) zm_143 rfl dX10_harmFrom_11 ?_
  refine lv_goto (tgt := 18) hx hb dX10_harmFrom_14 (by decide) ?_
  refine lv_istore (lv' := [(4, .int 20), (3, .int 0), (0, .ref a0), (1, .int 0), (2, .int p1)]) hx hb dX10_harmFrom_18 hl (by decide) rfl (fun ls hl => ?_)
  obtain ⟨x2_, ex2_⟩ : ∃ z : Int32, z = 20 := ⟨_, rfl⟩
  obtain ⟨n20_, hI20_⟩ : ∃ n : Nat, (0 ≤ Int32.toInt x2_ ∧ Int32.toInt x2_ ≤ 250) ∧ (250 - Int32.toInt x2_ < (n : Int)) ∧ zPD D A [(a0, .inr (9, [.int 0, w2, w3, .int 20, w4, w5, w6, w7, w8, w9, w10, w11, w12, w13, w14, .int (-1), w15, w16, w17, w18, w19, w20, w21, w22, w23, w24, w25, w26, w27, w28, w29, w30, w31, w32, w33, w34, w35, w36, w37, w38, w39, w40, w41, w42, w43, w44, w45, w46, w47, w48, w49, w50, w51, w52, w53, w54, w55, w56, w57, w58, w59, w60, w61, w62, w63, w64, w65, w66, w67, w68, w69, w70, w71, w72, w73, w74]))] H ∧ va_S A s.heap H locs ∧ lv_has ls 5 [(4, .int x2_), (3, .int 0), (0, .ref a0), (1, .int 0), (2, .int p1)] := ⟨(250 - Int32.toInt x2_ + 1).toNat, by rw [ex2_]; exact (by decide), by omega, by (try rw [ex2_]); exact hW, hS, by (try rw [ex2_]); exact hl⟩
  clear hW hS hl ex2_
  induction n20_ generalizing x2_ H locs ls with
  | zero => obtain ⟨bx2_, hn, -⟩ := hI20_; exact absurd hn (by omega)
  | succ n ih =>
    obtain ⟨bx2_, hn, hW, hS, hl⟩ := hI20_
    refine lv_iload hx hb dX10_harmFrom_20 (lv_at hl 0 rfl) ?_
    refine lv_iload_n hx hb dX10_harmFrom_22 rfl (lv_at hl 4 rfl) ?_
    refine lv_icmp_ge (tgt := 55) hx hb dX10_harmFrom_23 (by decide) (fun c3_ => ?_) (fun c3_ => ?_)
    · refine lv_iload_n hx hb dX10_harmFrom_55 rfl (lv_at hl 1 rfl) ?_
      exact zret_i (v := 0) hx hb hr hlocks hS () rfl hW (Nat.le_of_ble_eq_true rfl) (Nat.le_of_ble_eq_true rfl) dX10_harmFrom_56
    · have b4_ : 1 ≤ Int32.toInt p1 ∧ Int32.toInt p1 ≤ 99 := (by have u0 := hp1; have u1 := (not_congr (zi_le _ _)).mp c3_; have u2 := bx2_; omega)
      have b5_ : 0 ≤ Int32.toInt x2_ ∧ Int32.toInt x2_ ≤ 98 := (by have u0 := bx2_; have u1 := (not_congr (zi_le _ _)).mp c3_; have u2 := b4_; omega)
      refine lv_iload hx hb dX10_harmFrom_26 (lv_at hl 0 rfl) ?_
      refine lv_aload_n hx hb dX10_harmFrom_28 rfl (lv_at hl 2 rfl) ?_
      refine zget hx hb ht inlX10 hown hK hW 0 rfl rfl 3 (by decide) zm_143 rfl dX10_harmFrom_29 ?_
      refine lv_aload_n hx hb dX10_harmFrom_32 rfl (lv_at hl 2 rfl) ?_
      refine zgo_i (wr := []) (zrunV (As := []) (rest := [.int 20, .int x2_]) ⟨hx, hb, hml, hown, ht⟩ (zc_X10_lastNow_0 l D y a0 (.int 0) w2 w3 (.int 20) w4 w5 w6 w7 w8 w9 w10 w11 w12 w13 w14 w15 w16 w17 w18 w19 w20 w21 w22 w23 w24 w25 w26 w27 w28 w29 w30 w31 w32 w33 w34 w35 w36 w37 w38 w39 w40 w41 w42 w43 w44 w45 w46 w47 w48 w49 w50 w51 w52 w53 w54 w55 w56 w57 w58 w59 w60 w61 w62 w63 w64 w65 w66 w67 w68 w69 w70 w71 w72 w73 w74) (cwV 0 ht (zgV zm_381 zm_382 zm_383 zm_5 zm_384) rfl rfl rfl (by decide +kernel) ⟨(Nat.le_of_ble_eq_true rfl), (Nat.le_of_ble_eq_true rfl)⟩) hK hE hS hA hW [0] (by decide) rfl 0 rfl rfl rfl rfl hl.1 rfl (Nat.le_of_ble_eq_true rfl) dX10_harmFrom_33 (Nat.le_of_ble_eq_true rfl) (Nat.le_of_ble_eq_true rfl)) hS hA hW [0] [] rfl rfl (by decide) (by decide) (fun r6_ u H locs hw hW hS => ?_)
      replace hW : zPD D A [(a0, .inr (9, [.int 0, w2, w3, .int 20, w4, w5, w6, w7, w8, w9, w10, w11, w12, w13, w14, .int (-1), w15, w16, w17, w18, w19, w20, w21, w22, w23, w24, w25, w26, w27, w28, w29, w30, w31, w32, w33, w34, w35, w36, w37, w38, w39, w40, w41, w42, w43, w44, w45, w46, w47, w48, w49, w50, w51, w52, w53, w54, w55, w56, w57, w58, w59, w60, w61, w62, w63, w64, w65, w66, w67, w68, w69, w70, w71, w72, w73, w74]))] H := hW
      have hw : r6_ = 15 := hw
      subst hw
      refine lv_iadd hx hb dX10_harmFrom_36 ?_
      refine ztop (w := .int 35) (congrArg Value.int (by decide)) ?_
      refine lv_icmp_ge (tgt := 55) hx hb dX10_harmFrom_37 (by decide) (fun c7_ => ?_) (fun c7_ => ?_)
      · have b8_ : 35 ≤ Int32.toInt x2_ ∧ Int32.toInt x2_ ≤ 98 := (by have u0 := b5_; have u1 := (zi_le _ _).mp c7_; have u2 : (35 : Int32).toInt = 35 := (by decide); omega)
        refine lv_iload_n hx hb dX10_harmFrom_55 rfl (lv_at hl 1 rfl) ?_
        exact zret_i (v := 0) hx hb hr hlocks hS () rfl hW (Nat.le_of_ble_eq_true rfl) (Nat.le_of_ble_eq_true rfl) dX10_harmFrom_56
      · have b9_ : 0 ≤ Int32.toInt x2_ ∧ Int32.toInt x2_ ≤ 34 := (by have u0 := b5_; have u1 := (not_congr (zi_le _ _)).mp c7_; have u2 : (35 : Int32).toInt = 35 := (by decide); omega)
        refine lv_iload_n hx hb dX10_harmFrom_40 rfl (lv_at hl 1 rfl) ?_
        refine lv_aload_n hx hb dX10_harmFrom_41 rfl (lv_at hl 2 rfl) ?_
        refine lv_iload hx hb dX10_harmFrom_42 (lv_at hl 0 rfl) ?_
        refine zgo_i (wr := []) (zrunV (As := [.int x2_]) (rest := [.int 0]) ⟨hx, hb, hml, hown, ht⟩ (zc_X10_harmAt_0 l D y a0 x2_ w2 w3 (.int 20) w4 w5 w6 w7 w8 w9 w10 w11 w12 w13 w14 (.int (-1)) w15 w16 w17 w18 w19 w20 w21 w22 w23 w24 w25 w26 w27 w28 w29 w30 w31 w32 w33 w34 w35 w36 w37 w38 w39 w40 w41 w42 w43 w44 w45 w46 w47 w48 w49 w50 w51 w52 w53 w54 w55 w56 w57 w58 w59 w60 w61 w62 w63 w64 w65 w66 w67 w68 w69 w70 w71 w72 w73 w74) (cwV 1 ht (zgV zm_750 zm_751 zm_752 zm_5 zm_753) rfl rfl rfl (by decide +kernel) ⟨(Nat.le_of_ble_eq_true rfl), (Nat.le_of_ble_eq_true rfl)⟩) hK hE hS hA hW [0] (by decide) rfl 0 rfl rfl rfl rfl hl.1 rfl (Nat.le_of_ble_eq_true rfl) dX10_harmFrom_44 (Nat.le_of_ble_eq_true rfl) (Nat.le_of_ble_eq_true rfl)) hS hA hW [0] [] rfl rfl (by decide) (by decide) (fun r10_ u H locs hw hW hS => ?_)
        replace hW : zPD D A [(a0, .inr (9, [.int 0, w2, w3, .int 20, w4, w5, w6, w7, w8, w9, w10, w11, w12, w13, w14, .int (-1), w15, w16, w17, w18, w19, w20, w21, w22, w23, w24, w25, w26, w27, w28, w29, w30, w31, w32, w33, w34, w35, w36, w37, w38, w39, w40, w41, w42, w43, w44, w45, w46, w47, w48, w49, w50, w51, w52, w53, w54, w55, w56, w57, w58, w59, w60, w61, w62, w63, w64, w65, w66, w67, w68, w69, w70, w71, w72, w73, w74]))] H := hW
        have hw : r10_ = 0 := hw
        subst hw
        refine lv_iadd hx hb dX10_harmFrom_47 ?_
        refine ztop (w := .int 0) (congrArg Value.int (by decide)) ?_
        refine lv_istore_n (lv' := [(3, .int 0), (4, .int x2_), (0, .ref a0), (1, .int 0), (2, .int p1)]) hx hb dX10_harmFrom_48 rfl hl (by decide) rfl (fun ls hl => ?_)
        refine lv_iinc (k := 1) (v := (x2_ + 1)) (lv' := [(4, .int (x2_ + 1)), (3, .int 0), (0, .ref a0), (1, .int 0), (2, .int p1)]) hx hb dX10_harmFrom_49 hl rfl (by rfl) (by decide) rfl (fun ls hl => ?_)
        refine lv_goto (tgt := 20) hx hb dX10_harmFrom_52 (by decide) ?_
        have b11_ : 1 ≤ Int32.toInt (x2_ + 1) ∧ Int32.toInt (x2_ + 1) ≤ 35 := by have u0 := b9_; have u1 := zadd_1 x2_ (by omega); omega
        exact ih _ _ _ _ ⟨(by have u0 := b11_; omega), by have u0 := zadd_1 x2_ (by have u0 := b9_; omega); omega, hW, hS, (lv_sub hl [0, 1, 2, 3, 4] rfl)⟩
set_option maxHeartbeats 8000000 in
set_option maxRecDepth 100000 in
theorem zc_X10_goMinutes_0 (l : Launch) (D : va_G) (y : Nat → ClassId) (a0 : Nat) (p1 : Int32) (w2 : Value) (w3 : Value) (w4 : Value) (w5 : Value) (w6 : Value) (w7 : Value) (w8 : Value) (w9 : Value) (w10 : Value) (a11 : Nat) (w12 : Value) (w13 : Value) (w14 : Value) (w15 : Value) (w16 : Value) (w17 : Value) (w18 : Value) (w19 : Value) (w20 : Value) (w21 : Value) (w22 : Value) (w23 : Value) (w24 : Value) (w25 : Value) (w26 : Value) (w27 : Value) (w28 : Value) (w29 : Value) (a30 : Nat) (w31 : Value) (w32 : Value) (w33 : Value) (w34 : Value) (w35 : Value) (w36 : Value) (w37 : Value) (w38 : Value) (w39 : Value) (w40 : Value) (w41 : Value) (w42 : Value) (w43 : Value) (w44 : Value) (w45 : Value) (w46 : Value) (w47 : Value) (w48 : Value) (w49 : Value) (w50 : Value) (w51 : Value) (w52 : Value) (w53 : Value) (w54 : Value) (w55 : Value) (w56 : Value) (w57 : Value) (w58 : Value) (w59 : Value) (w60 : Value) (w61 : Value) (w62 : Value) (w63 : Value) (w64 : Value) (w65 : Value) (w66 : Value) (w67 : Value) (w68 : Value) (w69 : Value) (w70 : Value) (w71 : Value) (hp1 : 0 ≤ Int32.toInt p1 ∧ Int32.toInt p1 ≤ 99) : zM l D y yX10_goMinutes (Cond.code yX10_goMinutes cX10_goMinutes 3 (some .int) :: zT) { frames := 4, cells := 0, slots := 0, locals := 88 } [.ref a0, .int p1] [(a0, .inr (9, [.int 0, .int 0, .int 0, .int 20, w2, w3, w4, w5, w6, w7, w8, w9, w10, .ref a11, w12, .int (-1), w13, w14, w15, w16, w17, w18, w19, w20, w21, w22, w23, w24, w25, w26, w27, w28, .int 0, w29, .ref a30, w31, w32, w33, w34, w35, w36, w37, w38, w39, w40, w41, w42, w43, w44, w45, w46, w47, w48, w49, w50, w51, w52, w53, w54, w55, w56, w57, w58, w59, w60, w61, w62, w63, w64, w65, w66, w67, w68, w69, w70, w71])), (a11, .inl (y 2, 7, .inl (fun _ => 0))), (a30, .inl (y 0, 7, .inl (fun _ => 0)))] (zQi (S := Unit) D (fun r_ _ => r_ = 0) (fun _ => [(a0, .inr (9, [.int 0, .int (0 + p1), .int 0, .int 20, w2, w3, w4, w5, w6, w7, w8, w9, w10, .ref a11, w12, .int (-1), w13, w14, w15, w16, w17, w18, w19, w20, w21, w22, w23, w24, w25, w26, w27, w28, .int 0, w29, .ref a30, w31, w32, w33, w34, w35, w36, w37, w38, w39, w40, w41, w42, w43, w44, w45, w46, w47, w48, w49, w50, w51, w52, w53, w54, w55, w56, w57, w58, w59, w60, w61, w62, w63, w64, w65, w66, w67, w68, w69, w70, w71])), (a11, .inl (y 2, 7, .inl (fun _ => 0))), (a30, .inl (y 0, 7, .inl (upd (upd (upd (upd (upd (upd (upd (fun _ => 0) 0 99999) 1 99999) 2 99999) 3 99999) 4 99999) 5 99999) 6 99999)))])) := by
  refine zent (cc := cX10_goMinutes) (maxL := 3) (ret := (some .int)) (by decide) (Nat.le_of_ble_eq_true rfl) ?_
  intro p e s m below meth c A H locs ls hx hb hml hr ht hown hlocks hin hA hK hE hS hW hl
  have hown : s.vm.findClass RX10 = some m.cls := hown
  have hW : zPD D A [(a0, .inr (9, [.int 0, .int 0, .int 0, .int 20, w2, w3, w4, w5, w6, w7, w8, w9, w10, .ref a11, w12, .int (-1), w13, w14, w15, w16, w17, w18, w19, w20, w21, w22, w23, w24, w25, w26, w27, w28, .int 0, w29, .ref a30, w31, w32, w33, w34, w35, w36, w37, w38, w39, w40, w41, w42, w43, w44, w45, w46, w47, w48, w49, w50, w51, w52, w53, w54, w55, w56, w57, w58, w59, w60, w61, w62, w63, w64, w65, w66, w67, w68, w69, w70, w71])), (a11, .inl (y 2, 7, .inl (fun _ => 0))), (a30, .inl (y 0, 7, .inl (fun _ => 0)))] H := hW
  have hl : lv_has ls 3 [(0, .ref a0), (1, .int p1)] := hl
  refine lv_aload_n hx hb dX10_goMinutes_0 rfl (lv_at hl 0 rfl) ?_
  refine zgo_v (wr := [(a11, .inl (y 2, 7, .inl (fun _ => 0))), (a30, .inl (y 0, 7, .inl (fun _ => 0)))]) (zrunV (As := []) (rest := []) ⟨hx, hb, hml, hown, ht⟩ (zc_X10_layRain_0 l D y a0 (.int 0) (.int 0) (.int 20) w2 w3 w4 w5 w6 w7 w8 w9 w10 (.ref a11) w12 w13 w14 w15 w16 w17 w18 w19 w20 w21 w22 w23 w24 w25 w26 w27 w28 w29 (.ref a30) w31 w32 w33 w34 w35 w36 w37 w38 w39 w40 w41 w42 w43 w44 w45 w46 w47 w48 w49 w50 w51 w52 w53 w54 w55 w56 w57 w58 w59 w60 w61 w62 w63 w64 w65 w66 w67 w68 w69 w70 w71) (cwV 0 ht (zgV zm_377 zm_378 zm_379 zm_5 zm_380) rfl rfl rfl (by decide +kernel) ⟨(Nat.le_of_ble_eq_true rfl), (Nat.le_of_ble_eq_true rfl)⟩) hK hE hS hA hW [0] (by decide) rfl 0 rfl rfl rfl rfl hl.1 rfl (Nat.le_of_ble_eq_true rfl) dX10_goMinutes_1 (Nat.le_of_ble_eq_true rfl) (Nat.le_of_ble_eq_true rfl)) hS hA hW [0] [1, 2] rfl rfl (by decide) (by decide) (fun u H locs hw hW hS => ?_)
  have hW : zPD D A [(a11, .inl (y 2, 7, .inl (fun _ => 0))), (a30, .inl (y 0, 7, .inl (fun _ => 0))), (a0, .inr (9, [.int 0, .int 0, .int 0, .int 20, w2, w3, w4, w5, w6, w7, w8, w9, w10, .ref a11, w12, .int (-1), w13, w14, w15, w16, w17, w18, w19, w20, w21, w22, w23, w24, w25, w26, w27, w28, .int 0, w29, .ref a30, w31, w32, w33, w34, w35, w36, w37, w38, w39, w40, w41, w42, w43, w44, w45, w46, w47, w48, w49, w50, w51, w52, w53, w54, w55, w56, w57, w58, w59, w60, w61, w62, w63, w64, w65, w66, w67, w68, w69, w70, w71]))] H := hW
  refine lv_aload_n hx hb dX10_goMinutes_4 rfl (lv_at hl 0 rfl) ?_
  refine zgo_v (wr := []) (zrunV (As := []) (rest := []) ⟨hx, hb, hml, hown, ht⟩ (zc_X10_layOpen_0 l D y a0 (.int 0) (.int 0) (.int 0) (.int 20) w2 w3 w4 w5 w6 w7 w8 w9 w10 a11 w12 (.int (-1)) w13 w14 w15 w16 w17 w18 w19 w20 w21 w22 w23 w24 w25 w26 w27 w28 (.int 0) w29 a30 w31 w32 w33 w34 w35 w36 w37 w38 w39 w40 w41 w42 w43 w44 w45 w46 w47 w48 w49 w50 w51 w52 w53 w54 w55 w56 w57 w58 w59 w60 w61 w62 w63 w64 w65 w66 w67 w68 w69 w70 w71) (cwV 0 ht (zgV zm_397 zm_398 zm_399 zm_5 zm_400) rfl rfl rfl (by decide +kernel) ⟨(Nat.le_of_ble_eq_true rfl), (Nat.le_of_ble_eq_true rfl)⟩) hK hE hS hA hW [2, 0, 1] (by decide) rfl 0 rfl rfl rfl rfl hl.1 rfl (Nat.le_of_ble_eq_true rfl) dX10_goMinutes_5 (Nat.le_of_ble_eq_true rfl) (Nat.le_of_ble_eq_true rfl)) hS hA hW [2, 0, 1] [] rfl rfl (by decide) (by decide) (fun u H locs hw hW hS => ?_)
  have hW : zPD D A [(a0, .inr (9, [.int 0, .int 0, .int 0, .int 20, w2, w3, w4, w5, w6, w7, w8, w9, w10, .ref a11, w12, .int (-1), w13, w14, w15, w16, w17, w18, w19, w20, w21, w22, w23, w24, w25, w26, w27, w28, .int 0, w29, .ref a30, w31, w32, w33, w34, w35, w36, w37, w38, w39, w40, w41, w42, w43, w44, w45, w46, w47, w48, w49, w50, w51, w52, w53, w54, w55, w56, w57, w58, w59, w60, w61, w62, w63, w64, w65, w66, w67, w68, w69, w70, w71])), (a11, .inl (y 2, 7, .inl (fun _ => 0))), (a30, .inl (y 0, 7, .inl (upd (upd (upd (upd (upd (upd (upd (fun _ => 0) 0 99999) 1 99999) 2 99999) 3 99999) 4 99999) 5 99999) 6 99999)))] H := hW
  refine lv_aload_n hx hb dX10_goMinutes_8 rfl (lv_at hl 0 rfl) ?_
  refine lv_aload_n hx hb dX10_goMinutes_9 rfl (lv_at hl 0 rfl) ?_
  refine zget hx hb ht inlX10 hown hK hW 0 rfl rfl 1 (by decide) zm_141 rfl dX10_goMinutes_10 ?_
  refine lv_aload_n hx hb dX10_goMinutes_13 rfl (lv_at hl 0 rfl) ?_
  refine zget hx hb ht inlX10 hown hK hW 0 rfl rfl 1 (by decide) zm_141 rfl dX10_goMinutes_14 ?_
  refine lv_iload_n hx hb dX10_goMinutes_17 rfl (lv_at hl 1 rfl) ?_
  refine lv_iadd hx hb dX10_goMinutes_18 ?_
  have b3_ : 0 ≤ Int32.toInt (0 + p1) ∧ Int32.toInt (0 + p1) ≤ 99 := by have u0 := (show (0 : Int32).toInt = 0 from (by decide)); have u1 := hp1; have u2 := zadd 0 p1 (by omega) (by omega); omega
  refine zgo_i (wr := [(a11, .inl (y 2, 7, .inl (fun _ => 0))), (a30, .inl (y 0, 7, .inl (upd (upd (upd (upd (upd (upd (upd (fun _ => 0) 0 99999) 1 99999) 2 99999) 3 99999) 4 99999) 5 99999) 6 99999)))]) (zrunV (As := [.int 0, .int (0 + p1)]) (rest := []) ⟨hx, hb, hml, hown, ht⟩ (zc_X10_harmFrom_0 l D y a0 (0 + p1) (.int 0) (.int 0) w2 w3 w4 w5 w6 w7 w8 w9 w10 (.ref a11) w12 w13 w14 w15 w16 w17 w18 w19 w20 w21 w22 w23 w24 w25 w26 w27 w28 (.int 0) w29 (.ref a30) w31 w32 w33 w34 w35 w36 w37 w38 w39 w40 w41 w42 w43 w44 w45 w46 w47 w48 w49 w50 w51 w52 w53 w54 w55 w56 w57 w58 w59 w60 w61 w62 w63 w64 w65 w66 w67 w68 w69 w70 w71 b3_) (cwV 2 ht (zgV zm_746 zm_747 zm_748 zm_5 zm_749) rfl rfl rfl (by decide +kernel) ⟨(Nat.le_of_ble_eq_true rfl), (Nat.le_of_ble_eq_true rfl)⟩) hK hE hS hA hW [0] (by decide) rfl 0 rfl rfl rfl rfl hl.1 rfl (Nat.le_of_ble_eq_true rfl) dX10_goMinutes_19 (Nat.le_of_ble_eq_true rfl) (Nat.le_of_ble_eq_true rfl)) hS hA hW [0] [1, 2] rfl rfl (by decide) (by decide) (fun r4_ u H locs hw hW hS => ?_)
  have hW : zPD D A [(a11, .inl (y 2, 7, .inl (fun _ => 0))), (a30, .inl (y 0, 7, .inl (upd (upd (upd (upd (upd (upd (upd (fun _ => 0) 0 99999) 1 99999) 2 99999) 3 99999) 4 99999) 5 99999) 6 99999))), (a0, .inr (9, [.int 0, .int 0, .int 0, .int 20, w2, w3, w4, w5, w6, w7, w8, w9, w10, .ref a11, w12, .int (-1), w13, w14, w15, w16, w17, w18, w19, w20, w21, w22, w23, w24, w25, w26, w27, w28, .int 0, w29, .ref a30, w31, w32, w33, w34, w35, w36, w37, w38, w39, w40, w41, w42, w43, w44, w45, w46, w47, w48, w49, w50, w51, w52, w53, w54, w55, w56, w57, w58, w59, w60, w61, w62, w63, w64, w65, w66, w67, w68, w69, w70, w71]))] H := hW
  have hw : r4_ = 0 := hw
  subst hw
  refine lv_istore_n (lv' := [(2, .int 0), (0, .ref a0), (1, .int p1)]) hx hb dX10_goMinutes_22 rfl hl (by decide) rfl (fun ls hl => ?_)
  refine lv_aload_n hx hb dX10_goMinutes_23 rfl (lv_at hl 1 rfl) ?_
  refine lv_aload_n hx hb dX10_goMinutes_24 rfl (lv_at hl 1 rfl) ?_
  refine zget hx hb ht inlX10 hown hK hW 2 rfl rfl 2 (by decide) zm_142 rfl dX10_goMinutes_25 ?_
  refine lv_iload_n hx hb dX10_goMinutes_28 rfl (lv_at hl 0 rfl) ?_
  refine lv_iadd hx hb dX10_goMinutes_29 ?_
  refine ztop (w := .int 0) (congrArg Value.int (by decide)) ?_
  refine lv_ldcw (v := 999999) hx hb hown (ht _ zm_745) dX10_goMinutes_30 ?_
  refine lv_icmp_le (tgt := 42) hx hb dX10_goMinutes_33 (by decide) (fun c5_ => ?_) (fun c5_ => absurd (by decide) c5_)
  refine lv_aload_n hx hb dX10_goMinutes_42 rfl (lv_at hl 1 rfl) ?_
  refine zget hx hb ht inlX10 hown hK hW 2 rfl rfl 2 (by decide) zm_142 rfl dX10_goMinutes_43 ?_
  refine lv_iload_n hx hb dX10_goMinutes_46 rfl (lv_at hl 0 rfl) ?_
  refine lv_iadd hx hb dX10_goMinutes_47 ?_
  refine ztop (w := .int 0) (congrArg Value.int (by decide)) ?_
  refine zput (ws' := [(a11, .inl (y 2, 7, .inl (fun _ => 0))), (a30, .inl (y 0, 7, .inl (upd (upd (upd (upd (upd (upd (upd (fun _ => 0) 0 99999) 1 99999) 2 99999) 3 99999) 4 99999) 5 99999) 6 99999))), (a0, .inr (9, [.int 0, .int 0, .int 0, .int 20, w2, w3, w4, w5, w6, w7, w8, w9, w10, .ref a11, w12, .int (-1), w13, w14, w15, w16, w17, w18, w19, w20, w21, w22, w23, w24, w25, w26, w27, w28, .int 0, w29, .ref a30, w31, w32, w33, w34, w35, w36, w37, w38, w39, w40, w41, w42, w43, w44, w45, w46, w47, w48, w49, w50, w51, w52, w53, w54, w55, w56, w57, w58, w59, w60, w61, w62, w63, w64, w65, w66, w67, w68, w69, w70, w71]))]) hx hb ht inlX10 tyX10 tyX10_ok nmX10 hown hK hS hW 2 rfl rfl 2 (by decide) zm_142 rfl rfl rfl (Nat.le_of_ble_eq_true rfl) rfl dX10_goMinutes_48 (fun H locs hW hS => ?_)
  refine lv_aload_n hx hb dX10_goMinutes_51 rfl (lv_at hl 1 rfl) ?_
  refine lv_dup hx hb dX10_goMinutes_52 rfl ?_
  refine zget hx hb ht inlX10 hown hK hW 2 rfl rfl 1 (by decide) zm_141 rfl dX10_goMinutes_53 ?_
  refine lv_iload_n hx hb dX10_goMinutes_56 rfl (lv_at hl 2 rfl) ?_
  refine lv_iadd hx hb dX10_goMinutes_57 ?_
  refine zput (ws' := [(a11, .inl (y 2, 7, .inl (fun _ => 0))), (a30, .inl (y 0, 7, .inl (upd (upd (upd (upd (upd (upd (upd (fun _ => 0) 0 99999) 1 99999) 2 99999) 3 99999) 4 99999) 5 99999) 6 99999))), (a0, .inr (9, [.int 0, .int (0 + p1), .int 0, .int 20, w2, w3, w4, w5, w6, w7, w8, w9, w10, .ref a11, w12, .int (-1), w13, w14, w15, w16, w17, w18, w19, w20, w21, w22, w23, w24, w25, w26, w27, w28, .int 0, w29, .ref a30, w31, w32, w33, w34, w35, w36, w37, w38, w39, w40, w41, w42, w43, w44, w45, w46, w47, w48, w49, w50, w51, w52, w53, w54, w55, w56, w57, w58, w59, w60, w61, w62, w63, w64, w65, w66, w67, w68, w69, w70, w71]))]) hx hb ht inlX10 tyX10 tyX10_ok nmX10 hown hK hS hW 2 rfl rfl 1 (by decide) zm_141 rfl rfl rfl (Nat.le_of_ble_eq_true rfl) rfl dX10_goMinutes_58 (fun H locs hW hS => ?_)
  refine lv_iload_n hx hb dX10_goMinutes_61 rfl (lv_at hl 0 rfl) ?_
  exact zret_i (v := 0) hx hb hr hlocks hS () rfl (hW.sub [2, 0, 1] (by decide) rfl) (Nat.le_of_ble_eq_true rfl) (Nat.le_of_ble_eq_true rfl) dX10_goMinutes_62
set_option maxHeartbeats 8000000 in
set_option maxRecDepth 100000 in
theorem zc_X10_pass_0 (l : Launch) (D : va_G) (y : Nat → ClassId) (a0 : Nat) (p1 : Int32) (w2 : Value) (w3 : Value) (w4 : Value) (w5 : Value) (w6 : Value) (w7 : Value) (w8 : Value) (w9 : Value) (w10 : Value) (a11 : Nat) (w12 : Value) (w13 : Value) (w14 : Value) (w15 : Value) (w16 : Value) (w17 : Value) (w18 : Value) (w19 : Value) (w20 : Value) (w21 : Value) (w22 : Value) (w23 : Value) (w24 : Value) (w25 : Value) (w26 : Value) (w27 : Value) (w28 : Value) (w29 : Value) (a30 : Nat) (w31 : Value) (w32 : Value) (w33 : Value) (w34 : Value) (w35 : Value) (w36 : Value) (w37 : Value) (w38 : Value) (w39 : Value) (w40 : Value) (w41 : Value) (w42 : Value) (w43 : Value) (w44 : Value) (w45 : Value) (w46 : Value) (w47 : Value) (w48 : Value) (w49 : Value) (w50 : Value) (w51 : Value) (w52 : Value) (w53 : Value) (w54 : Value) (w55 : Value) (w56 : Value) (w57 : Value) (w58 : Value) (w59 : Value) (w60 : Value) (w61 : Value) (w62 : Value) (w63 : Value) (w64 : Value) (w65 : Value) (w66 : Value) (w67 : Value) (w68 : Value) (w69 : Value) (w70 : Value) (w71 : Value) : zM l D y yX10_pass (Cond.code yX10_pass cX10_pass 2 (some .int) :: zT) { frames := 5, cells := 0, slots := 0, locals := 110 } [.ref a0, .int p1] [(a0, .inr (9, [.int 0, .int 0, .int 0, .int 20, w2, w3, w4, w5, w6, w7, w8, w9, w10, .ref a11, w12, .int (-1), w13, w14, w15, w16, w17, w18, w19, w20, w21, w22, w23, w24, w25, w26, w27, w28, .int 0, w29, .ref a30, w31, w32, w33, w34, w35, w36, w37, w38, w39, w40, w41, w42, w43, w44, w45, w46, w47, w48, w49, w50, w51, w52, w53, w54, w55, w56, w57, w58, w59, w60, w61, w62, w63, w64, w65, w66, w67, w68, w69, w70, w71])), (a11, .inl (y 2, 7, .inl (fun _ => 0))), (a30, .inl (y 0, 7, .inl (fun _ => 0)))] (zQi (S := Unit) D (fun r_ _ => r_ = (if p1 < 0 then (-2) else (if 99 < p1 then (-2) else 0))) (fun _ => [])) := by
  refine zent (cc := cX10_pass) (maxL := 2) (ret := (some .int)) (by decide) (Nat.le_of_ble_eq_true rfl) ?_
  intro p e s m below meth c A H locs ls hx hb hml hr ht hown hlocks hin hA hK hE hS hW hl
  have hown : s.vm.findClass RX10 = some m.cls := hown
  have hW : zPD D A [(a0, .inr (9, [.int 0, .int 0, .int 0, .int 20, w2, w3, w4, w5, w6, w7, w8, w9, w10, .ref a11, w12, .int (-1), w13, w14, w15, w16, w17, w18, w19, w20, w21, w22, w23, w24, w25, w26, w27, w28, .int 0, w29, .ref a30, w31, w32, w33, w34, w35, w36, w37, w38, w39, w40, w41, w42, w43, w44, w45, w46, w47, w48, w49, w50, w51, w52, w53, w54, w55, w56, w57, w58, w59, w60, w61, w62, w63, w64, w65, w66, w67, w68, w69, w70, w71])), (a11, .inl (y 2, 7, .inl (fun _ => 0))), (a30, .inl (y 0, 7, .inl (fun _ => 0)))] H := hW
  have hl : lv_has ls 2 [(0, .ref a0), (1, .int p1)] := hl
  refine lv_aload_n hx hb dX10_pass_0 rfl (lv_at hl 0 rfl) ?_
  refine lv_iload_n hx hb dX10_pass_1 rfl (lv_at hl 1 rfl) ?_
  refine lv_iconst (v := 0) hx hb dX10_pass_2 (by decide) ?_
  refine lv_bipush (v := 99) hx hb dX10_pass_3 (by decide) ?_
  refine zgo_i (wr := [(a11, .inl (y 2, 7, .inl (fun _ => 0))), (a30, .inl (y 0, 7, .inl (fun _ => 0)))]) (zrunV (As := [.int p1, .int 0, .int 99]) (rest := []) ⟨hx, hb, hml, hown, ht⟩ (zc_X10_in_6 l D y a0 p1 (.int 0) (.int 0) (.int 0) (.int 20) w2 w3 w4 w5 w6 w7 w8 w9 w10 (.ref a11) w12 (.int (-1)) w13 w14 w15 w16 w17 w18 w19 w20 w21 w22 w23 w24 w25 w26 w27 w28 (.int 0) w29 (.ref a30) w31 w32 w33 w34 w35 w36 w37 w38 w39 w40 w41 w42 w43 w44 w45 w46 w47 w48 w49 w50 w51 w52 w53 w54 w55 w56 w57 w58 w59 w60 w61 w62 w63 w64 w65 w66 w67 w68 w69 w70 w71) (cwV 3 ht (zgV zm_240 zm_241 zm_242 zm_5 zm_243) rfl rfl rfl (by decide +kernel) ⟨(Nat.le_of_ble_eq_true rfl), (Nat.le_of_ble_eq_true rfl)⟩) hK hE hS hA hW [0] (by decide) rfl 0 rfl rfl rfl rfl hl.1 rfl (Nat.le_of_ble_eq_true rfl) dX10_pass_5 (Nat.le_of_ble_eq_true rfl) (Nat.le_of_ble_eq_true rfl)) hS hA hW [0] [1, 2] rfl rfl (by decide) (by decide) (fun r1_ u H locs hw hW hS => ?_)
  have hW : zPD D A [(a11, .inl (y 2, 7, .inl (fun _ => 0))), (a30, .inl (y 0, 7, .inl (fun _ => 0))), (a0, .inr (9, [.int 0, .int 0, .int 0, .int 20, w2, w3, w4, w5, w6, w7, w8, w9, w10, .ref a11, w12, .int (-1), w13, w14, w15, w16, w17, w18, w19, w20, w21, w22, w23, w24, w25, w26, w27, w28, .int 0, w29, .ref a30, w31, w32, w33, w34, w35, w36, w37, w38, w39, w40, w41, w42, w43, w44, w45, w46, w47, w48, w49, w50, w51, w52, w53, w54, w55, w56, w57, w58, w59, w60, w61, w62, w63, w64, w65, w66, w67, w68, w69, w70, w71]))] H := hW
  have hw : r1_ = (if p1 < 0 then 0 else (if 99 < p1 then 0 else 1)) := hw
  by_cases c2_ : p1 < 0
  · have b3_ : (-2147483648) ≤ Int32.toInt p1 ∧ Int32.toInt p1 ≤ (-1) := (by have u0 := zbnd p1; have u1 := (zi_lt _ _).mp c2_; have u2 : (0 : Int32).toInt = 0 := (by decide); omega)
    rw [if_pos c2_] at hw
    subst hw
    refine lv_if_ne (tgt := 14) hx hb dX10_pass_8 (by decide) (fun c4_ => absurd (by decide) c4_) (fun c4_ => ?_)
    refine lv_bipush (v := (-2)) hx hb dX10_pass_11 (by decide) ?_
    exact zret_i (v := (-2)) hx hb hr hlocks hS () (by show _ = _; rw [if_pos c2_]) (hW.sub [] (by decide) rfl) (Nat.le_of_ble_eq_true rfl) (Nat.le_of_ble_eq_true rfl) dX10_pass_13
  · have b5_ : 0 ≤ Int32.toInt p1 ∧ Int32.toInt p1 ≤ 2147483647 := (by have u0 := zbnd p1; have u1 := (not_congr (zi_lt _ _)).mp c2_; have u2 : (0 : Int32).toInt = 0 := (by decide); omega)
    rw [if_neg c2_] at hw
    by_cases c6_ : 99 < p1
    · have b7_ : 100 ≤ Int32.toInt p1 ∧ Int32.toInt p1 ≤ 2147483647 := (by have u0 := b5_; have u1 := (zi_lt _ _).mp c6_; have u2 : (99 : Int32).toInt = 99 := (by decide); omega)
      rw [if_pos c6_] at hw
      subst hw
      refine lv_if_ne (tgt := 14) hx hb dX10_pass_8 (by decide) (fun c8_ => absurd (by decide) c8_) (fun c8_ => ?_)
      refine lv_bipush (v := (-2)) hx hb dX10_pass_11 (by decide) ?_
      exact zret_i (v := (-2)) hx hb hr hlocks hS () (by show _ = _; rw [if_neg c2_, if_pos c6_]) (hW.sub [] (by decide) rfl) (Nat.le_of_ble_eq_true rfl) (Nat.le_of_ble_eq_true rfl) dX10_pass_13
    · have b9_ : 0 ≤ Int32.toInt p1 ∧ Int32.toInt p1 ≤ 99 := (by have u0 := b5_; have u1 := (not_congr (zi_lt _ _)).mp c6_; have u2 : (99 : Int32).toInt = 99 := (by decide); omega)
      rw [if_neg c6_] at hw
      subst hw
      refine lv_if_ne (tgt := 14) hx hb dX10_pass_8 (by decide) (fun c10_ => ?_) (fun c10_ => absurd c10_ (by decide))
      refine lv_aload_n hx hb dX10_pass_14 rfl (lv_at hl 0 rfl) ?_
      refine zget hx hb ht inlX10 hown hK hW 2 rfl rfl 1 (by decide) zm_141 rfl dX10_pass_15 ?_
      refine lv_iload_n hx hb dX10_pass_18 rfl (lv_at hl 1 rfl) ?_
      refine lv_iadd hx hb dX10_pass_19 ?_
      have b11_ : 0 ≤ Int32.toInt (0 + p1) ∧ Int32.toInt (0 + p1) ≤ 99 := by have u0 := (show (0 : Int32).toInt = 0 from (by decide)); have u1 := b9_; have u2 := zadd 0 p1 (by omega) (by omega); omega
      refine lv_sipush (v := 9999) hx hb dX10_pass_20 (by decide) ?_
      refine lv_icmp_le (tgt := 31) hx hb dX10_pass_23 (by decide) (fun c12_ => ?_) (fun c12_ => absurd (by have z0 := b11_; have e0 : (9999 : Int32).toInt = 9999 := (by decide); rw [zi_le]; omega) c12_)
      refine lv_aload_n hx hb dX10_pass_31 rfl (lv_at hl 0 rfl) ?_
      refine lv_iload_n hx hb dX10_pass_32 rfl (lv_at hl 1 rfl) ?_
      refine zgo_i (wr := []) (zrunV (As := [.int p1]) (rest := []) ⟨hx, hb, hml, hown, ht⟩ (zc_X10_goMinutes_0 l D y a0 p1 w2 w3 w4 w5 w6 w7 w8 w9 w10 a11 w12 w13 w14 w15 w16 w17 w18 w19 w20 w21 w22 w23 w24 w25 w26 w27 w28 w29 a30 w31 w32 w33 w34 w35 w36 w37 w38 w39 w40 w41 w42 w43 w44 w45 w46 w47 w48 w49 w50 w51 w52 w53 w54 w55 w56 w57 w58 w59 w60 w61 w62 w63 w64 w65 w66 w67 w68 w69 w70 w71 b9_) (cwV 1 ht (zgV zm_741 zm_742 zm_743 zm_5 zm_744) rfl rfl rfl (by decide +kernel) ⟨(Nat.le_of_ble_eq_true rfl), (Nat.le_of_ble_eq_true rfl)⟩) hK hE hS hA hW [2, 0, 1] (by decide) rfl 0 rfl rfl rfl rfl hl.1 rfl (Nat.le_of_ble_eq_true rfl) dX10_pass_33 (Nat.le_of_ble_eq_true rfl) (Nat.le_of_ble_eq_true rfl)) hS hA hW [2, 0, 1] [] rfl rfl (by decide) (by decide) (fun r13_ u H locs hw hW hS => ?_)
      have hW : zPD D A [(a0, .inr (9, [.int 0, .int (0 + p1), .int 0, .int 20, w2, w3, w4, w5, w6, w7, w8, w9, w10, .ref a11, w12, .int (-1), w13, w14, w15, w16, w17, w18, w19, w20, w21, w22, w23, w24, w25, w26, w27, w28, .int 0, w29, .ref a30, w31, w32, w33, w34, w35, w36, w37, w38, w39, w40, w41, w42, w43, w44, w45, w46, w47, w48, w49, w50, w51, w52, w53, w54, w55, w56, w57, w58, w59, w60, w61, w62, w63, w64, w65, w66, w67, w68, w69, w70, w71])), (a11, .inl (y 2, 7, .inl (fun _ => 0))), (a30, .inl (y 0, 7, .inl (upd (upd (upd (upd (upd (upd (upd (fun _ => 0) 0 99999) 1 99999) 2 99999) 3 99999) 4 99999) 5 99999) 6 99999)))] H := hW
      have hw : r13_ = 0 := hw
      subst hw
      exact zret_i (v := 0) hx hb hr hlocks hS () (by show _ = _; rw [if_neg c2_, if_neg c6_]) (hW.sub [] (by decide) rfl) (Nat.le_of_ble_eq_true rfl) (Nat.le_of_ble_eq_true rfl) dX10_pass_36
set_option maxHeartbeats 8000000 in
set_option maxRecDepth 100000 in
theorem zc_X9_shut_0 (l : Launch) (D : va_G) (y : Nat → ClassId) (a0 : Nat) (p1 : Int32) (w2 : Value) (w3 : Value) (w4 : Value) (a5 : Nat) (w6 : Value) (w7 : Value) (w8 : Value) (w9 : Value) (w10 : Value) (w11 : Value) (w12 : Value) (w13 : Value) (w14 : Value) (w15 : Value) (w16 : Value) (w17 : Value) (w18 : Value) (w19 : Value) (w20 : Value) (w21 : Value) : zM l D y yX9_shut (Cond.code yX9_shut cX9_shut 4 (some .int) :: zT) { frames := 1, cells := 0, slots := 0, locals := 21 } [.ref a0, .int p1] [(a0, .inr (8, [w2, w3, w4, .ref a5, w6, w7, w8, w9, w10])), (a5, .inr (6, [w11, .int 0, w12, w13, w14, w15, w16, w17, w18, w19, w20, w21]))] (zQi (S := Unit) D (fun r_ _ => r_ = (-1)) (fun _ => [])) := by
  refine zent (cc := cX9_shut) (maxL := 4) (ret := (some .int)) (by decide) (Nat.le_of_ble_eq_true rfl) ?_
  intro p e s m below meth c A H locs ls hx hb hml hr ht hown hlocks hin hA hK hE hS hW hl
  have hown : s.vm.findClass RX9 = some m.cls := hown
  have hW : zPD D A [(a0, .inr (8, [w2, w3, w4, .ref a5, w6, w7, w8, w9, w10])), (a5, .inr (6, [w11, .int 0, w12, w13, w14, w15, w16, w17, w18, w19, w20, w21]))] H := hW
  have hl : lv_has ls 4 [(0, .ref a0), (1, .int p1)] := hl
  refine lv_aload_n hx hb dX9_shut_0 rfl (lv_at hl 0 rfl) ?_
  refine zget hx hb ht inlX9 hown hK hW 0 rfl rfl 3 (by decide) zm_23 rfl dX9_shut_1 ?_
  refine lv_iload_n hx hb dX9_shut_4 rfl (lv_at hl 1 rfl) ?_
  refine zgo_i (wr := [(a0, .inr (8, [w2, w3, w4, .ref a5, w6, w7, w8, w9, w10]))]) (zrunV (As := [.int p1]) (rest := []) ⟨hx, hb, hml, hown, ht⟩ (zc_X7_has_0 l D y a5 p1 w11 w12 w13 w14 w15 w16 w17 w18 w19 w20 w21) (cwV 1 ht (zgV zm_263 zm_264 zm_265 zm_22 zm_266) rfl rfl rfl (by decide +kernel) ⟨(Nat.le_of_ble_eq_true rfl), (Nat.le_of_ble_eq_true rfl)⟩) hK hE hS hA hW [1] (by decide) rfl 0 rfl rfl rfl rfl hl.1 rfl (Nat.le_of_ble_eq_true rfl) dX9_shut_5 (Nat.le_of_ble_eq_true rfl) (Nat.le_of_ble_eq_true rfl)) hS hA hW [1] [0] rfl rfl (by decide) (by decide) (fun r1_ u H locs hw hW hS => ?_)
  have hW : zPD D A [(a0, .inr (8, [w2, w3, w4, .ref a5, w6, w7, w8, w9, w10])), (a5, .inr (6, [w11, .int 0, w12, w13, w14, w15, w16, w17, w18, w19, w20, w21]))] H := hW
  have hw : r1_ = 0 := hw
  subst hw
  refine lv_if_ne (tgt := 13) hx hb dX9_shut_8 (by decide) (fun c2_ => absurd (by decide) c2_) (fun c2_ => ?_)
  refine lv_iconst (v := (-1)) hx hb dX9_shut_11 (by decide) ?_
  exact zret_i (v := (-1)) hx hb hr hlocks hS () rfl (hW.sub [] (by decide) rfl) (Nat.le_of_ble_eq_true rfl) (Nat.le_of_ble_eq_true rfl) dX9_shut_12
set_option maxHeartbeats 8000000 in
set_option maxRecDepth 100000 in
theorem zc_X10_shut_0 (l : Launch) (D : va_G) (y : Nat → ClassId) (a0 : Nat) (p1 : Int32) (w2 : Value) (w3 : Value) (w4 : Value) (w5 : Value) (w6 : Value) (w7 : Value) (w8 : Value) (w9 : Value) (w10 : Value) (w11 : Value) (w12 : Value) (w13 : Value) (w14 : Value) (w15 : Value) (w16 : Value) (w17 : Value) (w18 : Value) (w19 : Value) (w20 : Value) (w21 : Value) (w22 : Value) (w23 : Value) (w24 : Value) (w25 : Value) (w26 : Value) (w27 : Value) (w28 : Value) (w29 : Value) (w30 : Value) (w31 : Value) (w32 : Value) (w33 : Value) (w34 : Value) (w35 : Value) (w36 : Value) (w37 : Value) (w38 : Value) (w39 : Value) (w40 : Value) (w41 : Value) (w42 : Value) (w43 : Value) (w44 : Value) (w45 : Value) (w46 : Value) (w47 : Value) (w48 : Value) (w49 : Value) (w50 : Value) (w51 : Value) (w52 : Value) (w53 : Value) (w54 : Value) (w55 : Value) (w56 : Value) (w57 : Value) (w58 : Value) (w59 : Value) (w60 : Value) (w61 : Value) (w62 : Value) (w63 : Value) (w64 : Value) (w65 : Value) (w66 : Value) (w67 : Value) (w68 : Value) (w69 : Value) (w70 : Value) (w71 : Value) (w72 : Value) (w73 : Value) (w74 : Value) (w75 : Value) (w76 : Value) : zM l D y yX10_shut (Cond.code yX10_shut cX10_shut 4 (some .int) :: zT) { frames := 2, cells := 0, slots := 0, locals := 44 } [.ref a0, .int p1] [(a0, .inr (9, [.int 0, w2, w3, w4, w5, w6, w7, w8, w9, w10, w11, w12, w13, w14, w15, w16, w17, w18, w19, w20, w21, w22, w23, w24, w25, w26, w27, w28, w29, w30, w31, w32, w33, w34, w35, w36, w37, w38, w39, w40, w41, w42, w43, w44, w45, w46, w47, w48, w49, w50, w51, w52, w53, w54, w55, w56, w57, w58, w59, w60, w61, w62, w63, w64, w65, w66, w67, w68, w69, w70, w71, w72, w73, w74, w75, w76]))] (zQi (S := Unit) D (fun r_ _ => r_ = (-1)) (fun _ => [])) := by
  refine zent (cc := cX10_shut) (maxL := 4) (ret := (some .int)) (by decide) (Nat.le_of_ble_eq_true rfl) ?_
  intro p e s m below meth c A H locs ls hx hb hml hr ht hown hlocks hin hA hK hE hS hW hl
  have hown : s.vm.findClass RX10 = some m.cls := hown
  have hW : zPD D A [(a0, .inr (9, [.int 0, w2, w3, w4, w5, w6, w7, w8, w9, w10, w11, w12, w13, w14, w15, w16, w17, w18, w19, w20, w21, w22, w23, w24, w25, w26, w27, w28, w29, w30, w31, w32, w33, w34, w35, w36, w37, w38, w39, w40, w41, w42, w43, w44, w45, w46, w47, w48, w49, w50, w51, w52, w53, w54, w55, w56, w57, w58, w59, w60, w61, w62, w63, w64, w65, w66, w67, w68, w69, w70, w71, w72, w73, w74, w75, w76]))] H := hW
  have hl : lv_has ls 4 [(0, .ref a0), (1, .int p1)] := hl
  refine lv_aload_n hx hb dX10_shut_0 rfl (lv_at hl 0 rfl) ?_
  refine lv_iload_n hx hb dX10_shut_1 rfl (lv_at hl 1 rfl) ?_
  refine zgo_i (wr := []) (zrunV (As := [.int p1]) (rest := []) ⟨hx, hb, hml, hown, ht⟩ (zc_X10_isWindow_0 l D y a0 p1 w2 w3 w4 w5 w6 w7 w8 w9 w10 w11 w12 w13 w14 w15 w16 w17 w18 w19 w20 w21 w22 w23 w24 w25 w26 w27 w28 w29 w30 w31 w32 w33 w34 w35 w36 w37 w38 w39 w40 w41 w42 w43 w44 w45 w46 w47 w48 w49 w50 w51 w52 w53 w54 w55 w56 w57 w58 w59 w60 w61 w62 w63 w64 w65 w66 w67 w68 w69 w70 w71 w72 w73 w74 w75 w76) (cwV 1 ht (zgV zm_353 zm_354 zm_355 zm_5 zm_356) rfl rfl rfl (by decide +kernel) ⟨(Nat.le_of_ble_eq_true rfl), (Nat.le_of_ble_eq_true rfl)⟩) hK hE hS hA hW [0] (by decide) rfl 0 rfl rfl rfl rfl hl.1 rfl (Nat.le_of_ble_eq_true rfl) dX10_shut_2 (Nat.le_of_ble_eq_true rfl) (Nat.le_of_ble_eq_true rfl)) hS hA hW [0] [] rfl rfl (by decide) (by decide) (fun r1_ u H locs hw hW hS => ?_)
  have hW : zPD D A [(a0, .inr (9, [.int 0, w2, w3, w4, w5, w6, w7, w8, w9, w10, w11, w12, w13, w14, w15, w16, w17, w18, w19, w20, w21, w22, w23, w24, w25, w26, w27, w28, w29, w30, w31, w32, w33, w34, w35, w36, w37, w38, w39, w40, w41, w42, w43, w44, w45, w46, w47, w48, w49, w50, w51, w52, w53, w54, w55, w56, w57, w58, w59, w60, w61, w62, w63, w64, w65, w66, w67, w68, w69, w70, w71, w72, w73, w74, w75, w76]))] H := hW
  have hw : r1_ = 0 := hw
  subst hw
  refine lv_if_ne (tgt := 10) hx hb dX10_shut_5 (by decide) (fun c2_ => absurd (by decide) c2_) (fun c2_ => ?_)
  refine lv_iconst (v := (-1)) hx hb dX10_shut_8 (by decide) ?_
  exact zret_i (v := (-1)) hx hb hr hlocks hS () rfl (hW.sub [] (by decide) rfl) (Nat.le_of_ble_eq_true rfl) (Nat.le_of_ble_eq_true rfl) dX10_shut_9

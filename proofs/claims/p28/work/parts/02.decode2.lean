theorem dX5_hasOrder_6 : decode cX5_hasOrder 6 = .ok (.bipush (-6), 2) := by decide +kernel
theorem dX5_hasOrder_8 : decode cX5_hasOrder 8 = .ok (.if_icmp .eq 7, 3) := by decide +kernel
theorem dX5_hasOrder_11 : decode cX5_hasOrder 11 = .ok (.iconst 1, 1) := by decide +kernel
theorem dX5_hasOrder_12 : decode cX5_hasOrder 12 = .ok (.goto 4, 3) := by decide +kernel
theorem dX5_hasOrder_15 : decode cX5_hasOrder 15 = .ok (.iconst 0, 1) := by decide +kernel
theorem dX5_hasOrder_16 : decode cX5_hasOrder 16 = .ok (.ireturn, 1) := by decide +kernel
theorem dX5_isMissing_0 : decode cX5_isMissing 0 = .ok (.aload_n 0, 1) := by decide +kernel
theorem dX5_isMissing_1 : decode cX5_isMissing 1 = .ok (.iconst 0, 1) := by decide +kernel
theorem dX5_isMissing_2 : decode cX5_isMissing 2 = .ok (.invokevirtual 47, 3) := by decide +kernel
theorem dX5_isMissing_5 : decode cX5_isMissing 5 = .ok (.ifCond .eq 14, 3) := by decide +kernel
theorem dX5_isMissing_8 : decode cX5_isMissing 8 = .ok (.aload_n 0, 1) := by decide +kernel
theorem dX5_isMissing_9 : decode cX5_isMissing 9 = .ok (.getfield 37, 3) := by decide +kernel
theorem dX5_isMissing_12 : decode cX5_isMissing 12 = .ok (.ifCond .ne 7, 3) := by decide +kernel
theorem dX5_isMissing_15 : decode cX5_isMissing 15 = .ok (.iconst 1, 1) := by decide +kernel
theorem dX5_isMissing_16 : decode cX5_isMissing 16 = .ok (.goto 4, 3) := by decide +kernel
theorem dX5_isMissing_19 : decode cX5_isMissing 19 = .ok (.iconst 0, 1) := by decide +kernel
theorem dX5_isMissing_20 : decode cX5_isMissing 20 = .ok (.ireturn, 1) := by decide +kernel
theorem dX5_receive_0 : decode cX5_receive 0 = .ok (.aload_n 0, 1) := by decide +kernel
theorem dX5_receive_1 : decode cX5_receive 1 = .ok (.bipush 30, 2) := by decide +kernel
theorem dX5_receive_3 : decode cX5_receive 3 = .ok (.aload_n 0, 1) := by decide +kernel
theorem dX5_receive_4 : decode cX5_receive 4 = .ok (.getfield 18, 3) := by decide +kernel
theorem dX5_receive_7 : decode cX5_receive 7 = .ok (.iload_n 1, 1) := by decide +kernel
theorem dX5_receive_8 : decode cX5_receive 8 = .ok (.iadd, 1) := by decide +kernel
theorem dX5_receive_9 : decode cX5_receive 9 = .ok (.invokestatic 51, 3) := by decide +kernel
theorem dX5_receive_12 : decode cX5_receive 12 = .ok (.putfield 18, 3) := by decide +kernel
theorem dX5_receive_15 : decode cX5_receive 15 = .ok (.aload_n 0, 1) := by decide +kernel
theorem dX5_receive_16 : decode cX5_receive 16 = .ok (.getfield 18, 3) := by decide +kernel
theorem dX5_receive_19 : decode cX5_receive 19 = .ok (.ireturn, 1) := by decide +kernel
theorem dX5_pay_0 : decode cX5_pay 0 = .ok (.aload_n 0, 1) := by decide +kernel
theorem dX5_pay_1 : decode cX5_pay 1 = .ok (.getfield 9, 3) := by decide +kernel
theorem dX5_pay_4 : decode cX5_pay 4 = .ok (.iload_n 1, 1) := by decide +kernel
theorem dX5_pay_5 : decode cX5_pay 5 = .ok (.iload_n 2, 1) := by decide +kernel
theorem dX5_pay_6 : decode cX5_pay 6 = .ok (.iastore, 1) := by decide +kernel
theorem dX5_pay_7 : decode cX5_pay 7 = .ok (.aload_n 0, 1) := by decide +kernel
theorem dX5_pay_8 : decode cX5_pay 8 = .ok (.getfield 15, 3) := by decide +kernel
theorem dX5_pay_11 : decode cX5_pay 11 = .ok (.iload_n 1, 1) := by decide +kernel
theorem dX5_pay_12 : decode cX5_pay 12 = .ok (.iload_n 3, 1) := by decide +kernel
theorem dX5_pay_13 : decode cX5_pay 13 = .ok (.iastore, 1) := by decide +kernel
theorem dX5_pay_14 : decode cX5_pay 14 = .ok (.aload_n 0, 1) := by decide +kernel
theorem dX5_pay_15 : decode cX5_pay 15 = .ok (.dup, 1) := by decide +kernel
theorem dX5_pay_16 : decode cX5_pay 16 = .ok (.getfield 18, 3) := by decide +kernel
theorem dX5_pay_19 : decode cX5_pay 19 = .ok (.iload_n 3, 1) := by decide +kernel
theorem dX5_pay_20 : decode cX5_pay 20 = .ok (.isub, 1) := by decide +kernel
theorem dX5_pay_21 : decode cX5_pay 21 = .ok (.putfield 18, 3) := by decide +kernel
theorem dX5_pay_24 : decode cX5_pay 24 = .ok (.aload_n 0, 1) := by decide +kernel
theorem dX5_pay_25 : decode cX5_pay 25 = .ok (.getfield 18, 3) := by decide +kernel
theorem dX5_pay_28 : decode cX5_pay 28 = .ok (.ireturn, 1) := by decide +kernel
theorem dX5_comeWithOrder_0 : decode cX5_comeWithOrder 0 = .ok (.aload_n 0, 1) := by decide +kernel
theorem dX5_comeWithOrder_1 : decode cX5_comeWithOrder 1 = .ok (.iconst 1, 1) := by decide +kernel
theorem dX5_comeWithOrder_2 : decode cX5_comeWithOrder 2 = .ok (.putfield 37, 3) := by decide +kernel
theorem dX5_comeWithOrder_5 : decode cX5_comeWithOrder 5 = .ok (.aload_n 0, 1) := by decide +kernel
theorem dX5_comeWithOrder_6 : decode cX5_comeWithOrder 6 = .ok (.dup, 1) := by decide +kernel
theorem dX5_comeWithOrder_7 : decode cX5_comeWithOrder 7 = .ok (.getfield 28, 3) := by decide +kernel
theorem dX5_comeWithOrder_10 : decode cX5_comeWithOrder 10 = .ok (.iconst 1, 1) := by decide +kernel
theorem dX5_comeWithOrder_11 : decode cX5_comeWithOrder 11 = .ok (.iadd, 1) := by decide +kernel
theorem dX5_comeWithOrder_12 : decode cX5_comeWithOrder 12 = .ok (.putfield 28, 3) := by decide +kernel
theorem dX5_comeWithOrder_15 : decode cX5_comeWithOrder 15 = .ok (.aload_n 0, 1) := by decide +kernel
theorem dX5_comeWithOrder_16 : decode cX5_comeWithOrder 16 = .ok (.iconst 0, 1) := by decide +kernel
theorem dX5_comeWithOrder_17 : decode cX5_comeWithOrder 17 = .ok (.putfield 22, 3) := by decide +kernel
theorem dX5_comeWithOrder_20 : decode cX5_comeWithOrder 20 = .ok (.return_, 1) := by decide +kernel
theorem dX5_stayAway_0 : decode cX5_stayAway 0 = .ok (.aload_n 0, 1) := by decide +kernel
theorem dX5_stayAway_1 : decode cX5_stayAway 1 = .ok (.dup, 1) := by decide +kernel
theorem dX5_stayAway_2 : decode cX5_stayAway 2 = .ok (.getfield 31, 3) := by decide +kernel
theorem dX5_stayAway_5 : decode cX5_stayAway 5 = .ok (.iconst 1, 1) := by decide +kernel
theorem dX5_stayAway_6 : decode cX5_stayAway 6 = .ok (.iadd, 1) := by decide +kernel
theorem dX5_stayAway_7 : decode cX5_stayAway 7 = .ok (.putfield 31, 3) := by decide +kernel
theorem dX5_stayAway_10 : decode cX5_stayAway 10 = .ok (.aload_n 0, 1) := by decide +kernel
theorem dX5_stayAway_11 : decode cX5_stayAway 11 = .ok (.dup, 1) := by decide +kernel
theorem dX5_stayAway_12 : decode cX5_stayAway 12 = .ok (.getfield 22, 3) := by decide +kernel
theorem dX5_stayAway_15 : decode cX5_stayAway 15 = .ok (.iconst 1, 1) := by decide +kernel
theorem dX5_stayAway_16 : decode cX5_stayAway 16 = .ok (.iadd, 1) := by decide +kernel
theorem dX5_stayAway_17 : decode cX5_stayAway 17 = .ok (.putfield 22, 3) := by decide +kernel
theorem dX5_stayAway_20 : decode cX5_stayAway 20 = .ok (.return_, 1) := by decide +kernel
theorem dX5_judge_0 : decode cX5_judge 0 = .ok (.aload_n 0, 1) := by decide +kernel
theorem dX5_judge_1 : decode cX5_judge 1 = .ok (.getfield 22, 3) := by decide +kernel
theorem dX5_judge_4 : decode cX5_judge 4 = .ok (.iload_n 1, 1) := by decide +kernel
theorem dX5_judge_5 : decode cX5_judge 5 = .ok (.if_icmp .lt 20, 3) := by decide +kernel
theorem dX5_judge_8 : decode cX5_judge 8 = .ok (.aload_n 0, 1) := by decide +kernel
theorem dX5_judge_9 : decode cX5_judge 9 = .ok (.aload_n 0, 1) := by decide +kernel
theorem dX5_judge_10 : decode cX5_judge 10 = .ok (.getfield 25, 3) := by decide +kernel
theorem dX5_judge_13 : decode cX5_judge 13 = .ok (.iload_n 2, 1) := by decide +kernel
theorem dX5_judge_14 : decode cX5_judge 14 = .ok (.invokestatic 57, 3) := by decide +kernel
theorem dX5_judge_17 : decode cX5_judge 17 = .ok (.putfield 25, 3) := by decide +kernel
theorem dX5_judge_20 : decode cX5_judge 20 = .ok (.aload_n 0, 1) := by decide +kernel
theorem dX5_judge_21 : decode cX5_judge 21 = .ok (.iconst 0, 1) := by decide +kernel
theorem dX5_judge_22 : decode cX5_judge 22 = .ok (.putfield 22, 3) := by decide +kernel
theorem dX5_judge_25 : decode cX5_judge 25 = .ok (.return_, 1) := by decide +kernel
theorem dX5_startDay_0 : decode cX5_startDay 0 = .ok (.iconst 1, 1) := by decide +kernel
theorem dX5_startDay_1 : decode cX5_startDay 1 = .ok (.istore_n 1, 1) := by decide +kernel
theorem dX5_startDay_2 : decode cX5_startDay 2 = .ok (.iload_n 1, 1) := by decide +kernel
theorem dX5_startDay_3 : decode cX5_startDay 3 = .ok (.iconst 5, 1) := by decide +kernel
theorem dX5_startDay_4 : decode cX5_startDay 4 = .ok (.if_icmp .ge 37, 3) := by decide +kernel
theorem dX5_startDay_7 : decode cX5_startDay 7 = .ok (.aload_n 0, 1) := by decide +kernel
theorem dX5_startDay_8 : decode cX5_startDay 8 = .ok (.getfield 9, 3) := by decide +kernel
theorem dX5_startDay_11 : decode cX5_startDay 11 = .ok (.iload_n 1, 1) := by decide +kernel
theorem dX5_startDay_12 : decode cX5_startDay 12 = .ok (.iconst 1, 1) := by decide +kernel
theorem dX5_startDay_13 : decode cX5_startDay 13 = .ok (.isub, 1) := by decide +kernel
theorem dX5_startDay_14 : decode cX5_startDay 14 = .ok (.aload_n 0, 1) := by decide +kernel
theorem dX5_startDay_15 : decode cX5_startDay 15 = .ok (.getfield 9, 3) := by decide +kernel
theorem dX5_startDay_18 : decode cX5_startDay 18 = .ok (.iload_n 1, 1) := by decide +kernel
theorem dX5_startDay_19 : decode cX5_startDay 19 = .ok (.iaload, 1) := by decide +kernel
theorem dX5_startDay_20 : decode cX5_startDay 20 = .ok (.iastore, 1) := by decide +kernel
theorem dX5_startDay_21 : decode cX5_startDay 21 = .ok (.aload_n 0, 1) := by decide +kernel
theorem dX5_startDay_22 : decode cX5_startDay 22 = .ok (.getfield 15, 3) := by decide +kernel
theorem dX5_startDay_25 : decode cX5_startDay 25 = .ok (.iload_n 1, 1) := by decide +kernel
theorem dX5_startDay_26 : decode cX5_startDay 26 = .ok (.iconst 1, 1) := by decide +kernel
theorem dX5_startDay_27 : decode cX5_startDay 27 = .ok (.isub, 1) := by decide +kernel
theorem dX5_startDay_28 : decode cX5_startDay 28 = .ok (.aload_n 0, 1) := by decide +kernel
theorem dX5_startDay_29 : decode cX5_startDay 29 = .ok (.getfield 15, 3) := by decide +kernel
theorem dX5_startDay_32 : decode cX5_startDay 32 = .ok (.iload_n 1, 1) := by decide +kernel
theorem dX5_startDay_33 : decode cX5_startDay 33 = .ok (.iaload, 1) := by decide +kernel
theorem dX5_startDay_34 : decode cX5_startDay 34 = .ok (.iastore, 1) := by decide +kernel
theorem dX5_startDay_35 : decode cX5_startDay 35 = .ok (.iinc 1 1, 3) := by decide +kernel
theorem dX5_startDay_38 : decode cX5_startDay 38 = .ok (.goto (-36), 3) := by decide +kernel
theorem dX5_startDay_41 : decode cX5_startDay 41 = .ok (.aload_n 0, 1) := by decide +kernel
theorem dX5_startDay_42 : decode cX5_startDay 42 = .ok (.getfield 9, 3) := by decide +kernel
theorem dX5_startDay_45 : decode cX5_startDay 45 = .ok (.iconst 4, 1) := by decide +kernel
theorem dX5_startDay_46 : decode cX5_startDay 46 = .ok (.bipush (-6), 2) := by decide +kernel
theorem dX5_startDay_48 : decode cX5_startDay 48 = .ok (.iastore, 1) := by decide +kernel
theorem dX5_startDay_49 : decode cX5_startDay 49 = .ok (.aload_n 0, 1) := by decide +kernel
theorem dX5_startDay_50 : decode cX5_startDay 50 = .ok (.iconst 0, 1) := by decide +kernel
theorem dX5_startDay_51 : decode cX5_startDay 51 = .ok (.putfield 37, 3) := by decide +kernel
theorem dX5_startDay_54 : decode cX5_startDay 54 = .ok (.return_, 1) := by decide +kernel
theorem dX5_timesOrdered_0 : decode cX5_timesOrdered 0 = .ok (.aload_n 0, 1) := by decide +kernel
theorem dX5_timesOrdered_1 : decode cX5_timesOrdered 1 = .ok (.getfield 28, 3) := by decide +kernel
theorem dX5_timesOrdered_4 : decode cX5_timesOrdered 4 = .ok (.aload_n 0, 1) := by decide +kernel
theorem dX5_timesOrdered_5 : decode cX5_timesOrdered 5 = .ok (.getfield 31, 3) := by decide +kernel
theorem dX5_timesOrdered_8 : decode cX5_timesOrdered 8 = .ok (.iadd, 1) := by decide +kernel
theorem dX5_timesOrdered_9 : decode cX5_timesOrdered 9 = .ok (.ireturn, 1) := by decide +kernel
theorem dX5_doubt_0 : decode cX5_doubt 0 = .ok (.aload_n 0, 1) := by decide +kernel
theorem dX5_doubt_1 : decode cX5_doubt 1 = .ok (.invokevirtual 60, 3) := by decide +kernel
theorem dX5_doubt_4 : decode cX5_doubt 4 = .ok (.istore_n 1, 1) := by decide +kernel
theorem dX5_doubt_5 : decode cX5_doubt 5 = .ok (.iload_n 1, 1) := by decide +kernel
theorem dX5_doubt_6 : decode cX5_doubt 6 = .ok (.ifCond .ne 7, 3) := by decide +kernel
theorem dX5_doubt_9 : decode cX5_doubt 9 = .ok (.iconst 0, 1) := by decide +kernel
theorem dX5_doubt_10 : decode cX5_doubt 10 = .ok (.goto 12, 3) := by decide +kernel
theorem dX5_doubt_13 : decode cX5_doubt 13 = .ok (.bipush 100, 2) := by decide +kernel
theorem dX5_doubt_15 : decode cX5_doubt 15 = .ok (.aload_n 0, 1) := by decide +kernel
theorem dX5_doubt_16 : decode cX5_doubt 16 = .ok (.getfield 31, 3) := by decide +kernel
theorem dX5_doubt_19 : decode cX5_doubt 19 = .ok (.imul, 1) := by decide +kernel
theorem dX5_doubt_20 : decode cX5_doubt 20 = .ok (.iload_n 1, 1) := by decide +kernel
theorem dX5_doubt_21 : decode cX5_doubt 21 = .ok (.idiv, 1) := by decide +kernel
theorem dX5_doubt_22 : decode cX5_doubt 22 = .ok (.ireturn, 1) := by decide +kernel
theorem dX5_isLessSureThan_0 : decode cX5_isLessSureThan 0 = .ok (.aload_n 0, 1) := by decide +kernel
theorem dX5_isLessSureThan_1 : decode cX5_isLessSureThan 1 = .ok (.invokevirtual 64, 3) := by decide +kernel
theorem dX5_isLessSureThan_4 : decode cX5_isLessSureThan 4 = .ok (.aload_n 1, 1) := by decide +kernel
theorem dX5_isLessSureThan_5 : decode cX5_isLessSureThan 5 = .ok (.invokevirtual 64, 3) := by decide +kernel
theorem dX5_isLessSureThan_8 : decode cX5_isLessSureThan 8 = .ok (.if_icmp .eq 20, 3) := by decide +kernel
theorem dX5_isLessSureThan_11 : decode cX5_isLessSureThan 11 = .ok (.aload_n 0, 1) := by decide +kernel
theorem dX5_isLessSureThan_12 : decode cX5_isLessSureThan 12 = .ok (.invokevirtual 64, 3) := by decide +kernel
theorem dX5_isLessSureThan_15 : decode cX5_isLessSureThan 15 = .ok (.aload_n 1, 1) := by decide +kernel
theorem dX5_isLessSureThan_16 : decode cX5_isLessSureThan 16 = .ok (.invokevirtual 64, 3) := by decide +kernel
theorem dX5_isLessSureThan_19 : decode cX5_isLessSureThan 19 = .ok (.if_icmp .le 7, 3) := by decide +kernel
theorem dX5_isLessSureThan_22 : decode cX5_isLessSureThan 22 = .ok (.iconst 1, 1) := by decide +kernel
theorem dX5_isLessSureThan_23 : decode cX5_isLessSureThan 23 = .ok (.goto 4, 3) := by decide +kernel
theorem dX5_isLessSureThan_26 : decode cX5_isLessSureThan 26 = .ok (.iconst 0, 1) := by decide +kernel
theorem dX5_isLessSureThan_27 : decode cX5_isLessSureThan 27 = .ok (.ireturn, 1) := by decide +kernel
theorem dX5_isLessSureThan_28 : decode cX5_isLessSureThan 28 = .ok (.aload_n 0, 1) := by decide +kernel
theorem dX5_isLessSureThan_29 : decode cX5_isLessSureThan 29 = .ok (.invokevirtual 60, 3) := by decide +kernel
theorem dX5_isLessSureThan_32 : decode cX5_isLessSureThan 32 = .ok (.aload_n 1, 1) := by decide +kernel
theorem dX5_isLessSureThan_33 : decode cX5_isLessSureThan 33 = .ok (.invokevirtual 60, 3) := by decide +kernel
theorem dX5_isLessSureThan_36 : decode cX5_isLessSureThan 36 = .ok (.if_icmp .le 7, 3) := by decide +kernel
theorem dX5_isLessSureThan_39 : decode cX5_isLessSureThan 39 = .ok (.iconst 1, 1) := by decide +kernel
theorem dX5_isLessSureThan_40 : decode cX5_isLessSureThan 40 = .ok (.goto 4, 3) := by decide +kernel
theorem dX5_isLessSureThan_43 : decode cX5_isLessSureThan 43 = .ok (.iconst 0, 1) := by decide +kernel
theorem dX5_isLessSureThan_44 : decode cX5_isLessSureThan 44 = .ok (.ireturn, 1) := by decide +kernel
theorem dX5_daysWithOrder_0 : decode cX5_daysWithOrder 0 = .ok (.iconst 0, 1) := by decide +kernel
theorem dX5_daysWithOrder_1 : decode cX5_daysWithOrder 1 = .ok (.istore_n 1, 1) := by decide +kernel
theorem dX5_daysWithOrder_2 : decode cX5_daysWithOrder 2 = .ok (.iconst 0, 1) := by decide +kernel
theorem dX5_daysWithOrder_3 : decode cX5_daysWithOrder 3 = .ok (.istore_n 2, 1) := by decide +kernel
theorem dX5_daysWithOrder_4 : decode cX5_daysWithOrder 4 = .ok (.iload_n 2, 1) := by decide +kernel
theorem dX5_daysWithOrder_5 : decode cX5_daysWithOrder 5 = .ok (.iconst 5, 1) := by decide +kernel
theorem dX5_daysWithOrder_6 : decode cX5_daysWithOrder 6 = .ok (.if_icmp .ge 23, 3) := by decide +kernel
theorem dX5_daysWithOrder_9 : decode cX5_daysWithOrder 9 = .ok (.aload_n 0, 1) := by decide +kernel
theorem dX5_daysWithOrder_10 : decode cX5_daysWithOrder 10 = .ok (.iload_n 2, 1) := by decide +kernel
theorem dX5_daysWithOrder_11 : decode cX5_daysWithOrder 11 = .ok (.invokevirtual 47, 3) := by decide +kernel
theorem dX5_daysWithOrder_14 : decode cX5_daysWithOrder 14 = .ok (.ifCond .eq 9, 3) := by decide +kernel
theorem dX5_daysWithOrder_17 : decode cX5_daysWithOrder 17 = .ok (.iload_n 1, 1) := by decide +kernel
theorem dX5_daysWithOrder_18 : decode cX5_daysWithOrder 18 = .ok (.iconst 1, 1) := by decide +kernel
theorem dX5_daysWithOrder_19 : decode cX5_daysWithOrder 19 = .ok (.iload_n 2, 1) := by decide +kernel
theorem dX5_daysWithOrder_20 : decode cX5_daysWithOrder 20 = .ok (.ishl, 1) := by decide +kernel
theorem dX5_daysWithOrder_21 : decode cX5_daysWithOrder 21 = .ok (.ior, 1) := by decide +kernel
theorem dX5_daysWithOrder_22 : decode cX5_daysWithOrder 22 = .ok (.istore_n 1, 1) := by decide +kernel
theorem dX5_daysWithOrder_23 : decode cX5_daysWithOrder 23 = .ok (.iinc 2 1, 3) := by decide +kernel
theorem dX5_daysWithOrder_26 : decode cX5_daysWithOrder 26 = .ok (.goto (-22), 3) := by decide +kernel
theorem dX5_daysWithOrder_29 : decode cX5_daysWithOrder 29 = .ok (.iload_n 1, 1) := by decide +kernel
theorem dX5_daysWithOrder_30 : decode cX5_daysWithOrder 30 = .ok (.ireturn, 1) := by decide +kernel
theorem dX5_number_0 : decode cX5_number 0 = .ok (.iload_n 1, 1) := by decide +kernel
theorem dX5_number_1 : decode cX5_number 1 = .ok (.tableswitch 106 0 8 #[51, 56, 63, 68, 73, 78, 83, 88, 101], 51) := by decide +kernel
theorem dX5_number_52 : decode cX5_number 52 = .ok (.aload_n 0, 1) := by decide +kernel
theorem dX5_number_53 : decode cX5_number 53 = .ok (.getfield 18, 3) := by decide +kernel
theorem dX5_number_56 : decode cX5_number 56 = .ok (.ireturn, 1) := by decide +kernel
theorem dX5_number_57 : decode cX5_number 57 = .ok (.aload_n 0, 1) := by decide +kernel
theorem dX5_number_58 : decode cX5_number 58 = .ok (.getfield 9, 3) := by decide +kernel
theorem dX5_number_61 : decode cX5_number 61 = .ok (.iconst 0, 1) := by decide +kernel
theorem dX5_number_62 : decode cX5_number 62 = .ok (.iaload, 1) := by decide +kernel
theorem dX5_number_63 : decode cX5_number 63 = .ok (.ireturn, 1) := by decide +kernel
theorem dX5_number_64 : decode cX5_number 64 = .ok (.aload_n 0, 1) := by decide +kernel
theorem dX5_number_65 : decode cX5_number 65 = .ok (.invokevirtual 67, 3) := by decide +kernel
theorem dX5_number_68 : decode cX5_number 68 = .ok (.ireturn, 1) := by decide +kernel
theorem dX5_number_69 : decode cX5_number 69 = .ok (.aload_n 0, 1) := by decide +kernel
theorem dX5_number_70 : decode cX5_number 70 = .ok (.getfield 22, 3) := by decide +kernel
theorem dX5_number_73 : decode cX5_number 73 = .ok (.ireturn, 1) := by decide +kernel
theorem dX5_number_74 : decode cX5_number 74 = .ok (.aload_n 0, 1) := by decide +kernel
theorem dX5_number_75 : decode cX5_number 75 = .ok (.getfield 25, 3) := by decide +kernel
theorem dX5_number_78 : decode cX5_number 78 = .ok (.ireturn, 1) := by decide +kernel
theorem dX5_number_79 : decode cX5_number 79 = .ok (.aload_n 0, 1) := by decide +kernel
theorem dX5_number_80 : decode cX5_number 80 = .ok (.getfield 28, 3) := by decide +kernel
theorem dX5_number_83 : decode cX5_number 83 = .ok (.ireturn, 1) := by decide +kernel
theorem dX5_number_84 : decode cX5_number 84 = .ok (.aload_n 0, 1) := by decide +kernel
theorem dX5_number_85 : decode cX5_number 85 = .ok (.getfield 31, 3) := by decide +kernel
theorem dX5_number_88 : decode cX5_number 88 = .ok (.ireturn, 1) := by decide +kernel
theorem dX5_number_89 : decode cX5_number 89 = .ok (.aload_n 0, 1) := by decide +kernel
theorem dX5_number_90 : decode cX5_number 90 = .ok (.getfield 37, 3) := by decide +kernel
theorem dX5_number_93 : decode cX5_number 93 = .ok (.ifCond .eq 7, 3) := by decide +kernel
theorem dX5_number_96 : decode cX5_number 96 = .ok (.iconst 1, 1) := by decide +kernel
theorem dX5_number_97 : decode cX5_number 97 = .ok (.goto 4, 3) := by decide +kernel
theorem dX5_number_100 : decode cX5_number 100 = .ok (.iconst 0, 1) := by decide +kernel
theorem dX5_number_101 : decode cX5_number 101 = .ok (.ireturn, 1) := by decide +kernel
theorem dX5_number_102 : decode cX5_number 102 = .ok (.aload_n 0, 1) := by decide +kernel
theorem dX5_number_103 : decode cX5_number 103 = .ok (.getfield 34, 3) := by decide +kernel
theorem dX5_number_106 : decode cX5_number 106 = .ok (.ireturn, 1) := by decide +kernel
theorem dX5_number_107 : decode cX5_number 107 = .ok (.bipush (-2), 2) := by decide +kernel
theorem dX5_number_109 : decode cX5_number 109 = .ok (.ireturn, 1) := by decide +kernel
theorem dX6_init_0 : decode cX6_init 0 = .ok (.aload_n 0, 1) := by decide +kernel
theorem dX6_init_1 : decode cX6_init 1 = .ok (.invokespecial 3, 3) := by decide +kernel
theorem dX6_init_4 : decode cX6_init 4 = .ok (.aload_n 0, 1) := by decide +kernel
theorem dX6_init_5 : decode cX6_init 5 = .ok (.iconst 2, 1) := by decide +kernel
theorem dX6_init_6 : decode cX6_init 6 = .ok (.anewarray 9, 3) := by decide +kernel
theorem dX6_init_9 : decode cX6_init 9 = .ok (.putfield 11, 3) := by decide +kernel
theorem dX6_init_12 : decode cX6_init 12 = .ok (.aload_n 0, 1) := by decide +kernel
theorem dX6_init_13 : decode cX6_init 13 = .ok (.iconst 2, 1) := by decide +kernel
theorem dX6_init_14 : decode cX6_init 14 = .ok (.newarray .boolean, 2) := by decide +kernel
theorem dX6_init_16 : decode cX6_init 16 = .ok (.putfield 17, 3) := by decide +kernel
theorem dX6_init_19 : decode cX6_init 19 = .ok (.iconst 0, 1) := by decide +kernel
theorem dX6_init_20 : decode cX6_init 20 = .ok (.istore_n 1, 1) := by decide +kernel
theorem dX6_init_21 : decode cX6_init 21 = .ok (.iload_n 1, 1) := by decide +kernel
theorem dX6_init_22 : decode cX6_init 22 = .ok (.iconst 2, 1) := by decide +kernel
theorem dX6_init_23 : decode cX6_init 23 = .ok (.if_icmp .ge 22, 3) := by decide +kernel
theorem dX6_init_26 : decode cX6_init 26 = .ok (.aload_n 0, 1) := by decide +kernel
theorem dX6_init_27 : decode cX6_init 27 = .ok (.getfield 11, 3) := by decide +kernel
theorem dX6_init_30 : decode cX6_init 30 = .ok (.iload_n 1, 1) := by decide +kernel
theorem dX6_init_31 : decode cX6_init 31 = .ok (.new 9, 3) := by decide +kernel
theorem dX6_init_34 : decode cX6_init 34 = .ok (.dup, 1) := by decide +kernel
theorem dX6_init_35 : decode cX6_init 35 = .ok (.invokespecial 21, 3) := by decide +kernel
theorem dX6_init_38 : decode cX6_init 38 = .ok (.aastore, 1) := by decide +kernel
theorem dX6_init_39 : decode cX6_init 39 = .ok (.iinc 1 1, 3) := by decide +kernel
theorem dX6_init_42 : decode cX6_init 42 = .ok (.goto (-21), 3) := by decide +kernel
theorem dX6_init_45 : decode cX6_init 45 = .ok (.return_, 1) := by decide +kernel
theorem dX6_store_0 : decode cX6_store 0 = .ok (.iload_n 1, 1) := by decide +kernel
theorem dX6_store_1 : decode cX6_store 1 = .ok (.ifCond .lt 8, 3) := by decide +kernel
theorem dX6_store_4 : decode cX6_store 4 = .ok (.iload_n 1, 1) := by decide +kernel
theorem dX6_store_5 : decode cX6_store 5 = .ok (.iconst 2, 1) := by decide +kernel
theorem dX6_store_6 : decode cX6_store 6 = .ok (.if_icmp .lt 6, 3) := by decide +kernel
theorem dX6_store_9 : decode cX6_store 9 = .ok (.bipush (-2), 2) := by decide +kernel
theorem dX6_store_11 : decode cX6_store 11 = .ok (.ireturn, 1) := by decide +kernel
theorem dX6_store_12 : decode cX6_store 12 = .ok (.aload_n 0, 1) := by decide +kernel
theorem dX6_store_13 : decode cX6_store 13 = .ok (.getfield 11, 3) := by decide +kernel
theorem dX6_store_16 : decode cX6_store 16 = .ok (.iload_n 1, 1) := by decide +kernel
theorem dX6_store_17 : decode cX6_store 17 = .ok (.aaload, 1) := by decide +kernel
theorem dX6_store_18 : decode cX6_store 18 = .ok (.aload_n 2, 1) := by decide +kernel
theorem dX6_store_19 : decode cX6_store 19 = .ok (.invokevirtual 22, 3) := by decide +kernel
theorem dX6_store_22 : decode cX6_store 22 = .ok (.aload_n 0, 1) := by decide +kernel
theorem dX6_store_23 : decode cX6_store 23 = .ok (.getfield 17, 3) := by decide +kernel
theorem dX6_store_26 : decode cX6_store 26 = .ok (.iload_n 1, 1) := by decide +kernel
theorem dX6_store_27 : decode cX6_store 27 = .ok (.iconst 1, 1) := by decide +kernel
theorem dX6_store_28 : decode cX6_store 28 = .ok (.bastore, 1) := by decide +kernel
theorem dX6_store_29 : decode cX6_store 29 = .ok (.aload_n 2, 1) := by decide +kernel
theorem dX6_store_30 : decode cX6_store 30 = .ok (.getfield 26, 3) := by decide +kernel
theorem dX6_store_33 : decode cX6_store 33 = .ok (.ireturn, 1) := by decide +kernel
theorem dX6_fetch_0 : decode cX6_fetch 0 = .ok (.iload_n 1, 1) := by decide +kernel
theorem dX6_fetch_1 : decode cX6_fetch 1 = .ok (.ifCond .lt 8, 3) := by decide +kernel
theorem dX6_fetch_4 : decode cX6_fetch 4 = .ok (.iload_n 1, 1) := by decide +kernel
theorem dX6_fetch_5 : decode cX6_fetch 5 = .ok (.iconst 2, 1) := by decide +kernel
theorem dX6_fetch_6 : decode cX6_fetch 6 = .ok (.if_icmp .lt 6, 3) := by decide +kernel
theorem dX6_fetch_9 : decode cX6_fetch 9 = .ok (.bipush (-2), 2) := by decide +kernel
theorem dX6_fetch_11 : decode cX6_fetch 11 = .ok (.ireturn, 1) := by decide +kernel
theorem dX6_fetch_12 : decode cX6_fetch 12 = .ok (.aload_n 0, 1) := by decide +kernel
theorem dX6_fetch_13 : decode cX6_fetch 13 = .ok (.getfield 17, 3) := by decide +kernel
theorem dX6_fetch_16 : decode cX6_fetch 16 = .ok (.iload_n 1, 1) := by decide +kernel
theorem dX6_fetch_17 : decode cX6_fetch 17 = .ok (.baload, 1) := by decide +kernel
theorem dX6_fetch_18 : decode cX6_fetch 18 = .ok (.ifCond .ne 6, 3) := by decide +kernel
theorem dX6_fetch_21 : decode cX6_fetch 21 = .ok (.bipush (-5), 2) := by decide +kernel
theorem dX6_fetch_23 : decode cX6_fetch 23 = .ok (.ireturn, 1) := by decide +kernel
theorem dX6_fetch_24 : decode cX6_fetch 24 = .ok (.aload_n 2, 1) := by decide +kernel
theorem dX6_fetch_25 : decode cX6_fetch 25 = .ok (.aload_n 0, 1) := by decide +kernel
theorem dX6_fetch_26 : decode cX6_fetch 26 = .ok (.getfield 11, 3) := by decide +kernel
theorem dX6_fetch_29 : decode cX6_fetch 29 = .ok (.iload_n 1, 1) := by decide +kernel
theorem dX6_fetch_30 : decode cX6_fetch 30 = .ok (.aaload, 1) := by decide +kernel
theorem dX6_fetch_31 : decode cX6_fetch 31 = .ok (.invokevirtual 22, 3) := by decide +kernel
theorem dX6_fetch_34 : decode cX6_fetch 34 = .ok (.aload_n 2, 1) := by decide +kernel
theorem dX6_fetch_35 : decode cX6_fetch 35 = .ok (.getfield 26, 3) := by decide +kernel
theorem dX6_fetch_38 : decode cX6_fetch 38 = .ok (.ireturn, 1) := by decide +kernel
theorem dX7_init_0 : decode cX7_init 0 = .ok (.aload_n 0, 1) := by decide +kernel
theorem dX7_init_1 : decode cX7_init 1 = .ok (.invokespecial 1, 3) := by decide +kernel
theorem dX7_init_4 : decode cX7_init 4 = .ok (.aload_n 0, 1) := by decide +kernel
theorem dX7_init_5 : decode cX7_init 5 = .ok (.new 7, 3) := by decide +kernel
theorem dX7_init_8 : decode cX7_init 8 = .ok (.dup, 1) := by decide +kernel
theorem dX7_init_9 : decode cX7_init 9 = .ok (.invokespecial 9, 3) := by decide +kernel
theorem dX7_init_12 : decode cX7_init 12 = .ok (.putfield 10, 3) := by decide +kernel
theorem dX7_init_15 : decode cX7_init 15 = .ok (.aload_n 0, 1) := by decide +kernel
theorem dX7_init_16 : decode cX7_init 16 = .ok (.new 16, 3) := by decide +kernel
theorem dX7_init_19 : decode cX7_init 19 = .ok (.dup, 1) := by decide +kernel
theorem dX7_init_20 : decode cX7_init 20 = .ok (.invokespecial 18, 3) := by decide +kernel
theorem dX7_init_23 : decode cX7_init 23 = .ok (.putfield 19, 3) := by decide +kernel
theorem dX7_init_26 : decode cX7_init 26 = .ok (.aload_n 0, 1) := by decide +kernel
theorem dX7_init_27 : decode cX7_init 27 = .ok (.new 23, 3) := by decide +kernel
theorem dX7_init_30 : decode cX7_init 30 = .ok (.dup, 1) := by decide +kernel
theorem dX7_init_31 : decode cX7_init 31 = .ok (.invokespecial 25, 3) := by decide +kernel
theorem dX7_init_34 : decode cX7_init 34 = .ok (.putfield 26, 3) := by decide +kernel
theorem dX7_init_37 : decode cX7_init 37 = .ok (.aload_n 0, 1) := by decide +kernel
theorem dX7_init_38 : decode cX7_init 38 = .ok (.new 30, 3) := by decide +kernel
theorem dX7_init_41 : decode cX7_init 41 = .ok (.dup, 1) := by decide +kernel
theorem dX7_init_42 : decode cX7_init 42 = .ok (.invokespecial 32, 3) := by decide +kernel
theorem dX7_init_45 : decode cX7_init 45 = .ok (.putfield 33, 3) := by decide +kernel
theorem dX7_init_48 : decode cX7_init 48 = .ok (.aload_n 0, 1) := by decide +kernel
theorem dX7_init_49 : decode cX7_init 49 = .ok (.new 37, 3) := by decide +kernel
theorem dX7_init_52 : decode cX7_init 52 = .ok (.dup, 1) := by decide +kernel
theorem dX7_init_53 : decode cX7_init 53 = .ok (.aload_n 0, 1) := by decide +kernel
theorem dX7_init_54 : decode cX7_init 54 = .ok (.getfield 33, 3) := by decide +kernel
theorem dX7_init_57 : decode cX7_init 57 = .ok (.invokespecial 39, 3) := by decide +kernel
theorem dX7_init_60 : decode cX7_init 60 = .ok (.putfield 42, 3) := by decide +kernel
theorem dX7_init_63 : decode cX7_init 63 = .ok (.return_, 1) := by decide +kernel
theorem dX7_set_0 : decode cX7_set 0 = .ok (.aload_n 0, 1) := by decide +kernel
theorem dX7_set_1 : decode cX7_set 1 = .ok (.getfield 19, 3) := by decide +kernel
theorem dX7_set_4 : decode cX7_set 4 = .ok (.aload_n 0, 1) := by decide +kernel
theorem dX7_set_5 : decode cX7_set 5 = .ok (.getfield 10, 3) := by decide +kernel
theorem dX7_set_8 : decode cX7_set 8 = .ok (.invokevirtual 46, 3) := by decide +kernel
theorem dX7_set_11 : decode cX7_set 11 = .ok (.aload_n 0, 1) := by decide +kernel
theorem dX7_set_12 : decode cX7_set 12 = .ok (.getfield 19, 3) := by decide +kernel
theorem dX7_set_15 : decode cX7_set 15 = .ok (.aload_n 0, 1) := by decide +kernel
theorem dX7_set_16 : decode cX7_set 16 = .ok (.getfield 10, 3) := by decide +kernel
theorem dX7_set_19 : decode cX7_set 19 = .ok (.iload_n 1, 1) := by decide +kernel
theorem dX7_set_20 : decode cX7_set 20 = .ok (.iload_n 2, 1) := by decide +kernel
theorem dX7_set_21 : decode cX7_set 21 = .ok (.invokevirtual 50, 3) := by decide +kernel
theorem dX7_set_24 : decode cX7_set 24 = .ok (.invokevirtual 54, 3) := by decide +kernel
theorem dX7_set_27 : decode cX7_set 27 = .ok (.ireturn, 1) := by decide +kernel
theorem dX7_price_0 : decode cX7_price 0 = .ok (.aload_n 0, 1) := by decide +kernel
theorem dX7_price_1 : decode cX7_price 1 = .ok (.getfield 19, 3) := by decide +kernel
theorem dX7_price_4 : decode cX7_price 4 = .ok (.aload_n 0, 1) := by decide +kernel
theorem dX7_price_5 : decode cX7_price 5 = .ok (.getfield 10, 3) := by decide +kernel
theorem dX7_price_8 : decode cX7_price 8 = .ok (.invokevirtual 46, 3) := by decide +kernel
theorem dX7_price_11 : decode cX7_price 11 = .ok (.aload_n 0, 1) := by decide +kernel
theorem dX7_price_12 : decode cX7_price 12 = .ok (.getfield 19, 3) := by decide +kernel
theorem dX7_price_15 : decode cX7_price 15 = .ok (.aload_n 0, 1) := by decide +kernel
theorem dX7_price_16 : decode cX7_price 16 = .ok (.getfield 10, 3) := by decide +kernel
theorem dX7_price_19 : decode cX7_price 19 = .ok (.iload_n 1, 1) := by decide +kernel
theorem dX7_price_20 : decode cX7_price 20 = .ok (.iload_n 2, 1) := by decide +kernel
theorem dX7_price_21 : decode cX7_price 21 = .ok (.iload_n 3, 1) := by decide +kernel
theorem dX7_price_22 : decode cX7_price 22 = .ok (.invokevirtual 58, 3) := by decide +kernel
theorem dX7_price_25 : decode cX7_price 25 = .ok (.invokevirtual 54, 3) := by decide +kernel
theorem dX7_price_28 : decode cX7_price 28 = .ok (.ireturn, 1) := by decide +kernel
theorem dX7_person_0 : decode cX7_person 0 = .ok (.aload_n 0, 1) := by decide +kernel
theorem dX7_person_1 : decode cX7_person 1 = .ok (.getfield 19, 3) := by decide +kernel
theorem dX7_person_4 : decode cX7_person 4 = .ok (.aload_n 0, 1) := by decide +kernel
theorem dX7_person_5 : decode cX7_person 5 = .ok (.getfield 10, 3) := by decide +kernel
theorem dX7_person_8 : decode cX7_person 8 = .ok (.invokevirtual 46, 3) := by decide +kernel
theorem dX7_person_11 : decode cX7_person 11 = .ok (.aload_n 0, 1) := by decide +kernel
theorem dX7_person_12 : decode cX7_person 12 = .ok (.getfield 19, 3) := by decide +kernel
theorem dX7_person_15 : decode cX7_person 15 = .ok (.aload_n 0, 1) := by decide +kernel
theorem dX7_person_16 : decode cX7_person 16 = .ok (.getfield 10, 3) := by decide +kernel
theorem dX7_person_19 : decode cX7_person 19 = .ok (.invokevirtual 62, 3) := by decide +kernel
theorem dX7_person_22 : decode cX7_person 22 = .ok (.invokevirtual 54, 3) := by decide +kernel
theorem dX7_person_25 : decode cX7_person 25 = .ok (.ireturn, 1) := by decide +kernel
theorem dX7_vouchers_0 : decode cX7_vouchers 0 = .ok (.aload_n 0, 1) := by decide +kernel
theorem dX7_vouchers_1 : decode cX7_vouchers 1 = .ok (.getfield 19, 3) := by decide +kernel
theorem dX7_vouchers_4 : decode cX7_vouchers 4 = .ok (.aload_n 0, 1) := by decide +kernel
theorem dX7_vouchers_5 : decode cX7_vouchers 5 = .ok (.getfield 10, 3) := by decide +kernel
theorem dX7_vouchers_8 : decode cX7_vouchers 8 = .ok (.invokevirtual 46, 3) := by decide +kernel
theorem dX7_vouchers_11 : decode cX7_vouchers 11 = .ok (.aload_n 0, 1) := by decide +kernel
theorem dX7_vouchers_12 : decode cX7_vouchers 12 = .ok (.getfield 19, 3) := by decide +kernel
theorem dX7_vouchers_15 : decode cX7_vouchers 15 = .ok (.aload_n 0, 1) := by decide +kernel
theorem dX7_vouchers_16 : decode cX7_vouchers 16 = .ok (.getfield 10, 3) := by decide +kernel
theorem dX7_vouchers_19 : decode cX7_vouchers 19 = .ok (.iload_n 1, 1) := by decide +kernel
theorem dX7_vouchers_20 : decode cX7_vouchers 20 = .ok (.iload_n 2, 1) := by decide +kernel
theorem dX7_vouchers_21 : decode cX7_vouchers 21 = .ok (.invokevirtual 66, 3) := by decide +kernel
theorem dX7_vouchers_24 : decode cX7_vouchers 24 = .ok (.invokevirtual 54, 3) := by decide +kernel
theorem dX7_vouchers_27 : decode cX7_vouchers 27 = .ok (.ireturn, 1) := by decide +kernel
theorem dX7_order_0 : decode cX7_order 0 = .ok (.aload_n 0, 1) := by decide +kernel
theorem dX7_order_1 : decode cX7_order 1 = .ok (.getfield 19, 3) := by decide +kernel
theorem dX7_order_4 : decode cX7_order 4 = .ok (.aload_n 0, 1) := by decide +kernel
theorem dX7_order_5 : decode cX7_order 5 = .ok (.getfield 10, 3) := by decide +kernel
theorem dX7_order_8 : decode cX7_order 8 = .ok (.invokevirtual 46, 3) := by decide +kernel
theorem dX7_order_11 : decode cX7_order 11 = .ok (.aload_n 0, 1) := by decide +kernel
theorem dX7_order_12 : decode cX7_order 12 = .ok (.getfield 19, 3) := by decide +kernel
theorem dX7_order_15 : decode cX7_order 15 = .ok (.aload_n 0, 1) := by decide +kernel
theorem dX7_order_16 : decode cX7_order 16 = .ok (.getfield 10, 3) := by decide +kernel
theorem dX7_order_19 : decode cX7_order 19 = .ok (.iload_n 1, 1) := by decide +kernel
theorem dX7_order_20 : decode cX7_order 20 = .ok (.iload_n 2, 1) := by decide +kernel
theorem dX7_order_21 : decode cX7_order 21 = .ok (.iload_n 3, 1) := by decide +kernel
theorem dX7_order_22 : decode cX7_order 22 = .ok (.invokevirtual 69, 3) := by decide +kernel
theorem dX7_order_25 : decode cX7_order 25 = .ok (.invokevirtual 54, 3) := by decide +kernel
theorem dX7_order_28 : decode cX7_order 28 = .ok (.ireturn, 1) := by decide +kernel
theorem dX7_callOff_0 : decode cX7_callOff 0 = .ok (.aload_n 0, 1) := by decide +kernel
theorem dX7_callOff_1 : decode cX7_callOff 1 = .ok (.getfield 19, 3) := by decide +kernel
theorem dX7_callOff_4 : decode cX7_callOff 4 = .ok (.aload_n 0, 1) := by decide +kernel
theorem dX7_callOff_5 : decode cX7_callOff 5 = .ok (.getfield 10, 3) := by decide +kernel
theorem dX7_callOff_8 : decode cX7_callOff 8 = .ok (.invokevirtual 46, 3) := by decide +kernel
theorem dX7_callOff_11 : decode cX7_callOff 11 = .ok (.aload_n 0, 1) := by decide +kernel
theorem dX7_callOff_12 : decode cX7_callOff 12 = .ok (.getfield 19, 3) := by decide +kernel
theorem dX7_callOff_15 : decode cX7_callOff 15 = .ok (.aload_n 0, 1) := by decide +kernel
theorem dX7_callOff_16 : decode cX7_callOff 16 = .ok (.getfield 10, 3) := by decide +kernel
theorem dX7_callOff_19 : decode cX7_callOff 19 = .ok (.iload_n 1, 1) := by decide +kernel
theorem dX7_callOff_20 : decode cX7_callOff 20 = .ok (.iload_n 2, 1) := by decide +kernel
theorem dX7_callOff_21 : decode cX7_callOff 21 = .ok (.invokevirtual 72, 3) := by decide +kernel
theorem dX7_callOff_24 : decode cX7_callOff 24 = .ok (.invokevirtual 54, 3) := by decide +kernel
theorem dX7_callOff_27 : decode cX7_callOff 27 = .ok (.ireturn, 1) := by decide +kernel
theorem dX7_cook_0 : decode cX7_cook 0 = .ok (.aload_n 0, 1) := by decide +kernel
theorem dX7_cook_1 : decode cX7_cook 1 = .ok (.getfield 19, 3) := by decide +kernel
theorem dX7_cook_4 : decode cX7_cook 4 = .ok (.aload_n 0, 1) := by decide +kernel
theorem dX7_cook_5 : decode cX7_cook 5 = .ok (.getfield 10, 3) := by decide +kernel
theorem dX7_cook_8 : decode cX7_cook 8 = .ok (.invokevirtual 46, 3) := by decide +kernel
theorem dX7_cook_11 : decode cX7_cook 11 = .ok (.aload_n 0, 1) := by decide +kernel
theorem dX7_cook_12 : decode cX7_cook 12 = .ok (.getfield 19, 3) := by decide +kernel
theorem dX7_cook_15 : decode cX7_cook 15 = .ok (.aload_n 0, 1) := by decide +kernel
theorem dX7_cook_16 : decode cX7_cook 16 = .ok (.getfield 10, 3) := by decide +kernel
theorem dX7_cook_19 : decode cX7_cook 19 = .ok (.invokevirtual 75, 3) := by decide +kernel
theorem dX7_cook_22 : decode cX7_cook 22 = .ok (.invokevirtual 54, 3) := by decide +kernel
theorem dX7_cook_25 : decode cX7_cook 25 = .ok (.ireturn, 1) := by decide +kernel
theorem dX7_come_0 : decode cX7_come 0 = .ok (.aload_n 0, 1) := by decide +kernel
theorem dX7_come_1 : decode cX7_come 1 = .ok (.getfield 19, 3) := by decide +kernel
theorem dX7_come_4 : decode cX7_come 4 = .ok (.aload_n 0, 1) := by decide +kernel
theorem dX7_come_5 : decode cX7_come 5 = .ok (.getfield 10, 3) := by decide +kernel
theorem dX7_come_8 : decode cX7_come 8 = .ok (.invokevirtual 46, 3) := by decide +kernel
theorem dX7_come_11 : decode cX7_come 11 = .ok (.aload_n 0, 1) := by decide +kernel
theorem dX7_come_12 : decode cX7_come 12 = .ok (.getfield 19, 3) := by decide +kernel
theorem dX7_come_15 : decode cX7_come 15 = .ok (.aload_n 0, 1) := by decide +kernel
theorem dX7_come_16 : decode cX7_come 16 = .ok (.getfield 10, 3) := by decide +kernel
theorem dX7_come_19 : decode cX7_come 19 = .ok (.iload_n 1, 1) := by decide +kernel
theorem dX7_come_20 : decode cX7_come 20 = .ok (.invokevirtual 78, 3) := by decide +kernel
theorem dX7_come_23 : decode cX7_come 23 = .ok (.invokevirtual 54, 3) := by decide +kernel
theorem dX7_come_26 : decode cX7_come 26 = .ok (.ireturn, 1) := by decide +kernel
theorem dX7_buy_0 : decode cX7_buy 0 = .ok (.aload_n 0, 1) := by decide +kernel
theorem dX7_buy_1 : decode cX7_buy 1 = .ok (.getfield 19, 3) := by decide +kernel
theorem dX7_buy_4 : decode cX7_buy 4 = .ok (.aload_n 0, 1) := by decide +kernel
theorem dX7_buy_5 : decode cX7_buy 5 = .ok (.getfield 10, 3) := by decide +kernel
theorem dX7_buy_8 : decode cX7_buy 8 = .ok (.invokevirtual 46, 3) := by decide +kernel
theorem dX7_buy_11 : decode cX7_buy 11 = .ok (.aload_n 0, 1) := by decide +kernel
theorem dX7_buy_12 : decode cX7_buy 12 = .ok (.getfield 19, 3) := by decide +kernel
theorem dX7_buy_15 : decode cX7_buy 15 = .ok (.aload_n 0, 1) := by decide +kernel
theorem dX7_buy_16 : decode cX7_buy 16 = .ok (.getfield 10, 3) := by decide +kernel
theorem dX7_buy_19 : decode cX7_buy 19 = .ok (.iload_n 1, 1) := by decide +kernel
theorem dX7_buy_20 : decode cX7_buy 20 = .ok (.iload_n 2, 1) := by decide +kernel
theorem dX7_buy_21 : decode cX7_buy 21 = .ok (.invokevirtual 81, 3) := by decide +kernel
theorem dX7_buy_24 : decode cX7_buy 24 = .ok (.invokevirtual 54, 3) := by decide +kernel
theorem dX7_buy_27 : decode cX7_buy 27 = .ok (.ireturn, 1) := by decide +kernel
theorem dX7_close_0 : decode cX7_close 0 = .ok (.aload_n 0, 1) := by decide +kernel
theorem dX7_close_1 : decode cX7_close 1 = .ok (.getfield 19, 3) := by decide +kernel
theorem dX7_close_4 : decode cX7_close 4 = .ok (.aload_n 0, 1) := by decide +kernel
theorem dX7_close_5 : decode cX7_close 5 = .ok (.getfield 10, 3) := by decide +kernel
theorem dX7_close_8 : decode cX7_close 8 = .ok (.invokevirtual 46, 3) := by decide +kernel
theorem dX7_close_11 : decode cX7_close 11 = .ok (.aload_n 0, 1) := by decide +kernel
theorem dX7_close_12 : decode cX7_close 12 = .ok (.getfield 19, 3) := by decide +kernel
theorem dX7_close_15 : decode cX7_close 15 = .ok (.aload_n 0, 1) := by decide +kernel
theorem dX7_close_16 : decode cX7_close 16 = .ok (.getfield 10, 3) := by decide +kernel
theorem dX7_close_19 : decode cX7_close 19 = .ok (.invokevirtual 84, 3) := by decide +kernel
theorem dX7_close_22 : decode cX7_close 22 = .ok (.invokevirtual 54, 3) := by decide +kernel
theorem dX7_close_25 : decode cX7_close 25 = .ok (.ireturn, 1) := by decide +kernel
theorem dX7_of_0 : decode cX7_of 0 = .ok (.aload_n 0, 1) := by decide +kernel
theorem dX7_of_1 : decode cX7_of 1 = .ok (.getfield 10, 3) := by decide +kernel
theorem dX7_of_4 : decode cX7_of 4 = .ok (.iload_n 1, 1) := by decide +kernel
theorem dX7_of_5 : decode cX7_of 5 = .ok (.iload_n 2, 1) := by decide +kernel
theorem dX7_of_6 : decode cX7_of 6 = .ok (.invokevirtual 87, 3) := by decide +kernel
theorem dX7_of_9 : decode cX7_of 9 = .ok (.ireturn, 1) := by decide +kernel
theorem dX7_ofDish_0 : decode cX7_ofDish 0 = .ok (.aload_n 0, 1) := by decide +kernel
theorem dX7_ofDish_1 : decode cX7_ofDish 1 = .ok (.getfield 10, 3) := by decide +kernel
theorem dX7_ofDish_4 : decode cX7_ofDish 4 = .ok (.iload_n 1, 1) := by decide +kernel
theorem dX7_ofDish_5 : decode cX7_ofDish 5 = .ok (.iload_n 2, 1) := by decide +kernel
theorem dX7_ofDish_6 : decode cX7_ofDish 6 = .ok (.invokevirtual 90, 3) := by decide +kernel
theorem dX7_ofDish_9 : decode cX7_ofDish 9 = .ok (.ireturn, 1) := by decide +kernel
theorem dX7_ordered_0 : decode cX7_ordered 0 = .ok (.aload_n 0, 1) := by decide +kernel
theorem dX7_ordered_1 : decode cX7_ordered 1 = .ok (.getfield 10, 3) := by decide +kernel
theorem dX7_ordered_4 : decode cX7_ordered 4 = .ok (.iload_n 1, 1) := by decide +kernel
theorem dX7_ordered_5 : decode cX7_ordered 5 = .ok (.iload_n 2, 1) := by decide +kernel
theorem dX7_ordered_6 : decode cX7_ordered 6 = .ok (.invokevirtual 93, 3) := by decide +kernel
theorem dX7_ordered_9 : decode cX7_ordered 9 = .ok (.ireturn, 1) := by decide +kernel
theorem dX7_count_0 : decode cX7_count 0 = .ok (.iload_n 1, 1) := by decide +kernel
theorem dX7_count_1 : decode cX7_count 1 = .ok (.bipush 14, 2) := by decide +kernel
theorem dX7_count_3 : decode cX7_count 3 = .ok (.if_icmp .ne 11, 3) := by decide +kernel
theorem dX7_count_6 : decode cX7_count 6 = .ok (.aload_n 0, 1) := by decide +kernel
theorem dX7_count_7 : decode cX7_count 7 = .ok (.getfield 33, 3) := by decide +kernel
theorem dX7_count_10 : decode cX7_count 10 = .ok (.invokevirtual 96, 3) := by decide +kernel
theorem dX7_count_13 : decode cX7_count 13 = .ok (.ireturn, 1) := by decide +kernel
theorem dX7_count_14 : decode cX7_count 14 = .ok (.iload_n 1, 1) := by decide +kernel
theorem dX7_count_15 : decode cX7_count 15 = .ok (.bipush 15, 2) := by decide +kernel
theorem dX7_count_17 : decode cX7_count 17 = .ok (.if_icmp .ne 11, 3) := by decide +kernel
theorem dX7_count_20 : decode cX7_count 20 = .ok (.aload_n 0, 1) := by decide +kernel
theorem dX7_count_21 : decode cX7_count 21 = .ok (.getfield 19, 3) := by decide +kernel
theorem dX7_count_24 : decode cX7_count 24 = .ok (.invokevirtual 99, 3) := by decide +kernel
theorem dX7_count_27 : decode cX7_count 27 = .ok (.ireturn, 1) := by decide +kernel
theorem dX7_count_28 : decode cX7_count 28 = .ok (.aload_n 0, 1) := by decide +kernel
theorem dX7_count_29 : decode cX7_count 29 = .ok (.getfield 10, 3) := by decide +kernel
theorem dX7_count_32 : decode cX7_count 32 = .ok (.iload_n 1, 1) := by decide +kernel
theorem dX7_count_33 : decode cX7_count 33 = .ok (.invokevirtual 100, 3) := by decide +kernel
theorem dX7_count_36 : decode cX7_count 36 = .ok (.ireturn, 1) := by decide +kernel
theorem dX7_why_0 : decode cX7_why 0 = .ok (.aload_n 0, 1) := by decide +kernel
theorem dX7_why_1 : decode cX7_why 1 = .ok (.getfield 10, 3) := by decide +kernel
theorem dX7_why_4 : decode cX7_why 4 = .ok (.iload_n 1, 1) := by decide +kernel
theorem dX7_why_5 : decode cX7_why 5 = .ok (.iload_n 2, 1) := by decide +kernel
theorem dX7_why_6 : decode cX7_why 6 = .ok (.iload_n 3, 1) := by decide +kernel
theorem dX7_why_7 : decode cX7_why 7 = .ok (.invokevirtual 103, 3) := by decide +kernel
theorem dX7_why_10 : decode cX7_why 10 = .ok (.ireturn, 1) := by decide +kernel
theorem dX7_unsurest_0 : decode cX7_unsurest 0 = .ok (.aload_n 0, 1) := by decide +kernel
theorem dX7_unsurest_1 : decode cX7_unsurest 1 = .ok (.getfield 10, 3) := by decide +kernel
theorem dX7_unsurest_4 : decode cX7_unsurest 4 = .ok (.iload_n 1, 1) := by decide +kernel
theorem dX7_unsurest_5 : decode cX7_unsurest 5 = .ok (.invokevirtual 106, 3) := by decide +kernel
theorem dX7_unsurest_8 : decode cX7_unsurest 8 = .ok (.ireturn, 1) := by decide +kernel
theorem dX7_firstOrder_0 : decode cX7_firstOrder 0 = .ok (.aload_n 0, 1) := by decide +kernel
theorem dX7_firstOrder_1 : decode cX7_firstOrder 1 = .ok (.getfield 10, 3) := by decide +kernel
theorem dX7_firstOrder_4 : decode cX7_firstOrder 4 = .ok (.iload_n 1, 1) := by decide +kernel
theorem dX7_firstOrder_5 : decode cX7_firstOrder 5 = .ok (.invokevirtual 109, 3) := by decide +kernel
theorem dX7_firstOrder_8 : decode cX7_firstOrder 8 = .ok (.ireturn, 1) := by decide +kernel
theorem dX7_wasted_0 : decode cX7_wasted 0 = .ok (.aload_n 0, 1) := by decide +kernel
theorem dX7_wasted_1 : decode cX7_wasted 1 = .ok (.getfield 10, 3) := by decide +kernel
theorem dX7_wasted_4 : decode cX7_wasted 4 = .ok (.invokevirtual 112, 3) := by decide +kernel
theorem dX7_wasted_7 : decode cX7_wasted 7 = .ok (.ireturn, 1) := by decide +kernel
theorem dX7_undo_0 : decode cX7_undo 0 = .ok (.aload_n 0, 1) := by decide +kernel
theorem dX7_undo_1 : decode cX7_undo 1 = .ok (.getfield 19, 3) := by decide +kernel
theorem dX7_undo_4 : decode cX7_undo 4 = .ok (.aload_n 0, 1) := by decide +kernel
theorem dX7_undo_5 : decode cX7_undo 5 = .ok (.getfield 10, 3) := by decide +kernel
theorem dX7_undo_8 : decode cX7_undo 8 = .ok (.invokevirtual 128, 3) := by decide +kernel
theorem dX7_undo_11 : decode cX7_undo 11 = .ok (.ireturn, 1) := by decide +kernel
theorem dX7_save_0 : decode cX7_save 0 = .ok (.aload_n 0, 1) := by decide +kernel
theorem dX7_save_1 : decode cX7_save 1 = .ok (.getfield 26, 3) := by decide +kernel
theorem dX7_save_4 : decode cX7_save 4 = .ok (.iload_n 1, 1) := by decide +kernel
theorem dX7_save_5 : decode cX7_save 5 = .ok (.aload_n 0, 1) := by decide +kernel
theorem dX7_save_6 : decode cX7_save 6 = .ok (.getfield 10, 3) := by decide +kernel
theorem dX7_save_9 : decode cX7_save 9 = .ok (.invokevirtual 132, 3) := by decide +kernel
theorem dX7_save_12 : decode cX7_save 12 = .ok (.ireturn, 1) := by decide +kernel
theorem dX7_restore_0 : decode cX7_restore 0 = .ok (.aload_n 0, 1) := by decide +kernel
theorem dX7_restore_1 : decode cX7_restore 1 = .ok (.getfield 19, 3) := by decide +kernel
theorem dX7_restore_4 : decode cX7_restore 4 = .ok (.aload_n 0, 1) := by decide +kernel
theorem dX7_restore_5 : decode cX7_restore 5 = .ok (.getfield 10, 3) := by decide +kernel
theorem dX7_restore_8 : decode cX7_restore 8 = .ok (.invokevirtual 46, 3) := by decide +kernel
theorem dX7_restore_11 : decode cX7_restore 11 = .ok (.aload_n 0, 1) := by decide +kernel
theorem dX7_restore_12 : decode cX7_restore 12 = .ok (.getfield 19, 3) := by decide +kernel
theorem dX7_restore_15 : decode cX7_restore 15 = .ok (.aload_n 0, 1) := by decide +kernel
theorem dX7_restore_16 : decode cX7_restore 16 = .ok (.getfield 26, 3) := by decide +kernel
theorem dX7_restore_19 : decode cX7_restore 19 = .ok (.iload_n 1, 1) := by decide +kernel
theorem dX7_restore_20 : decode cX7_restore 20 = .ok (.aload_n 0, 1) := by decide +kernel
theorem dX7_restore_21 : decode cX7_restore 21 = .ok (.getfield 10, 3) := by decide +kernel
theorem dX7_restore_24 : decode cX7_restore 24 = .ok (.invokevirtual 136, 3) := by decide +kernel
theorem dX7_restore_27 : decode cX7_restore 27 = .ok (.invokevirtual 54, 3) := by decide +kernel
theorem dX7_restore_30 : decode cX7_restore 30 = .ok (.ireturn, 1) := by decide +kernel
theorem dL_cell_0 : decode cL_cell 0 = .ok (.iload_n 1, 1) := by decide +kernel
theorem dL_cell_1 : decode cL_cell 1 = .ok (.aload_n 0, 1) := by decide +kernel
theorem dL_cell_2 : decode cL_cell 2 = .ok (.arraylength, 1) := by decide +kernel
theorem dL_cell_3 : decode cL_cell 3 = .ok (.if_icmp .ge 9, 3) := by decide +kernel
theorem dL_cell_6 : decode cL_cell 6 = .ok (.aload_n 0, 1) := by decide +kernel
theorem dL_cell_7 : decode cL_cell 7 = .ok (.iload_n 1, 1) := by decide +kernel
theorem dL_cell_8 : decode cL_cell 8 = .ok (.iaload, 1) := by decide +kernel
theorem dL_cell_9 : decode cL_cell 9 = .ok (.goto 11, 3) := by decide +kernel
theorem dL_cell_12 : decode cL_cell 12 = .ok (.ldc 7, 2) := by decide +kernel
theorem dL_cell_14 : decode cL_cell 14 = .ok (.iload_n 1, 1) := by decide +kernel
theorem dL_cell_15 : decode cL_cell 15 = .ok (.imul, 1) := by decide +kernel
theorem dL_cell_16 : decode cL_cell 16 = .ok (.sipush 8223, 3) := by decide +kernel
theorem dL_cell_19 : decode cL_cell 19 = .ok (.iadd, 1) := by decide +kernel
theorem dL_cell_20 : decode cL_cell 20 = .ok (.ldc 8, 2) := by decide +kernel
theorem dL_cell_22 : decode cL_cell 22 = .ok (.iand, 1) := by decide +kernel
theorem dL_cell_23 : decode cL_cell 23 = .ok (.ireturn, 1) := by decide +kernel
theorem dL_bits_0 : decode cL_bits 0 = .ok (.iconst 0, 1) := by decide +kernel
theorem dL_bits_1 : decode cL_bits 1 = .ok (.istore_n 1, 1) := by decide +kernel
theorem dL_bits_2 : decode cL_bits 2 = .ok (.iconst 0, 1) := by decide +kernel
theorem dL_bits_3 : decode cL_bits 3 = .ok (.istore_n 2, 1) := by decide +kernel
theorem dL_bits_4 : decode cL_bits 4 = .ok (.iload_n 2, 1) := by decide +kernel
theorem dL_bits_5 : decode cL_bits 5 = .ok (.bipush 14, 2) := by decide +kernel
theorem dL_bits_7 : decode cL_bits 7 = .ok (.if_icmp .ge 17, 3) := by decide +kernel
theorem dL_bits_10 : decode cL_bits 10 = .ok (.iload_n 1, 1) := by decide +kernel
theorem dL_bits_11 : decode cL_bits 11 = .ok (.iload_n 0, 1) := by decide +kernel
theorem dL_bits_12 : decode cL_bits 12 = .ok (.iload_n 2, 1) := by decide +kernel
theorem dL_bits_13 : decode cL_bits 13 = .ok (.ishr, 1) := by decide +kernel
theorem dL_bits_14 : decode cL_bits 14 = .ok (.iconst 1, 1) := by decide +kernel
theorem dL_bits_15 : decode cL_bits 15 = .ok (.iand, 1) := by decide +kernel
theorem dL_bits_16 : decode cL_bits 16 = .ok (.iadd, 1) := by decide +kernel
theorem dL_bits_17 : decode cL_bits 17 = .ok (.istore_n 1, 1) := by decide +kernel
theorem dL_bits_18 : decode cL_bits 18 = .ok (.iinc 2 1, 3) := by decide +kernel
theorem dL_bits_21 : decode cL_bits 21 = .ok (.goto (-17), 3) := by decide +kernel
theorem dL_bits_24 : decode cL_bits 24 = .ok (.iload_n 1, 1) := by decide +kernel
theorem dL_bits_25 : decode cL_bits 25 = .ok (.ireturn, 1) := by decide +kernel
theorem dL_doubt_0 : decode cL_doubt 0 = .ok (.aload_n 0, 1) := by decide +kernel
theorem dL_doubt_1 : decode cL_doubt 1 = .ok (.iload_n 1, 1) := by decide +kernel
theorem dL_doubt_2 : decode cL_doubt 2 = .ok (.iconst 5, 1) := by decide +kernel
theorem dL_doubt_3 : decode cL_doubt 3 = .ok (.invokevirtual 9, 3) := by decide +kernel
theorem dL_doubt_6 : decode cL_doubt 6 = .ok (.aload_n 0, 1) := by decide +kernel
theorem dL_doubt_7 : decode cL_doubt 7 = .ok (.iload_n 1, 1) := by decide +kernel
theorem dL_doubt_8 : decode cL_doubt 8 = .ok (.bipush 6, 2) := by decide +kernel
theorem dL_doubt_10 : decode cL_doubt 10 = .ok (.invokevirtual 9, 3) := by decide +kernel
theorem dL_doubt_13 : decode cL_doubt 13 = .ok (.iadd, 1) := by decide +kernel
theorem dL_doubt_14 : decode cL_doubt 14 = .ok (.istore_n 2, 1) := by decide +kernel
theorem dL_doubt_15 : decode cL_doubt 15 = .ok (.iload_n 2, 1) := by decide +kernel
theorem dL_doubt_16 : decode cL_doubt 16 = .ok (.ifCond .ne 7, 3) := by decide +kernel
theorem dL_doubt_19 : decode cL_doubt 19 = .ok (.iconst 0, 1) := by decide +kernel
theorem dL_doubt_20 : decode cL_doubt 20 = .ok (.goto 15, 3) := by decide +kernel
theorem dL_doubt_23 : decode cL_doubt 23 = .ok (.bipush 100, 2) := by decide +kernel
theorem dL_doubt_25 : decode cL_doubt 25 = .ok (.aload_n 0, 1) := by decide +kernel
theorem dL_doubt_26 : decode cL_doubt 26 = .ok (.iload_n 1, 1) := by decide +kernel
theorem dL_doubt_27 : decode cL_doubt 27 = .ok (.bipush 6, 2) := by decide +kernel
theorem dL_doubt_29 : decode cL_doubt 29 = .ok (.invokevirtual 9, 3) := by decide +kernel
theorem dL_doubt_32 : decode cL_doubt 32 = .ok (.imul, 1) := by decide +kernel
theorem dL_doubt_33 : decode cL_doubt 33 = .ok (.iload_n 2, 1) := by decide +kernel
theorem dL_doubt_34 : decode cL_doubt 34 = .ok (.idiv, 1) := by decide +kernel
theorem dL_doubt_35 : decode cL_doubt 35 = .ok (.ireturn, 1) := by decide +kernel
theorem dL_areOrders_0 : decode cL_areOrders 0 = .ok (.iconst 1, 1) := by decide +kernel
theorem dL_areOrders_1 : decode cL_areOrders 1 = .ok (.istore_n 1, 1) := by decide +kernel
theorem dL_areOrders_2 : decode cL_areOrders 2 = .ok (.iconst 0, 1) := by decide +kernel
theorem dL_areOrders_3 : decode cL_areOrders 3 = .ok (.istore_n 2, 1) := by decide +kernel
theorem dL_areOrders_4 : decode cL_areOrders 4 = .ok (.iconst 0, 1) := by decide +kernel
theorem dL_areOrders_5 : decode cL_areOrders 5 = .ok (.istore_n 3, 1) := by decide +kernel
theorem dL_areOrders_6 : decode cL_areOrders 6 = .ok (.iconst 0, 1) := by decide +kernel
theorem dL_areOrders_7 : decode cL_areOrders 7 = .ok (.istore 4, 2) := by decide +kernel
theorem dL_areOrders_9 : decode cL_areOrders 9 = .ok (.iconst 0, 1) := by decide +kernel
theorem dL_areOrders_10 : decode cL_areOrders 10 = .ok (.istore 5, 2) := by decide +kernel
theorem dL_areOrders_12 : decode cL_areOrders 12 = .ok (.iconst 0, 1) := by decide +kernel
theorem dL_areOrders_13 : decode cL_areOrders 13 = .ok (.istore 6, 2) := by decide +kernel
theorem dL_areOrders_15 : decode cL_areOrders 15 = .ok (.iload 6, 2) := by decide +kernel
theorem dL_areOrders_17 : decode cL_areOrders 17 = .ok (.iconst 3, 1) := by decide +kernel
theorem dL_areOrders_18 : decode cL_areOrders 18 = .ok (.if_icmp .ge 329, 3) := by decide +kernel
theorem dL_areOrders_21 : decode cL_areOrders 21 = .ok (.iload_n 1, 1) := by decide +kernel
theorem dL_areOrders_22 : decode cL_areOrders 22 = .ok (.ifCond .eq 325, 3) := by decide +kernel
theorem dL_areOrders_25 : decode cL_areOrders 25 = .ok (.aload_n 0, 1) := by decide +kernel
theorem dL_areOrders_26 : decode cL_areOrders 26 = .ok (.iconst 0, 1) := by decide +kernel
theorem dL_areOrders_27 : decode cL_areOrders 27 = .ok (.iload 6, 2) := by decide +kernel
theorem dL_areOrders_29 : decode cL_areOrders 29 = .ok (.invokevirtual 15, 3) := by decide +kernel
theorem dL_areOrders_32 : decode cL_areOrders 32 = .ok (.istore 7, 2) := by decide +kernel
theorem dL_areOrders_34 : decode cL_areOrders 34 = .ok (.iconst 0, 1) := by decide +kernel
theorem dL_areOrders_35 : decode cL_areOrders 35 = .ok (.istore 8, 2) := by decide +kernel
theorem dL_areOrders_37 : decode cL_areOrders 37 = .ok (.iconst 0, 1) := by decide +kernel
theorem dL_areOrders_38 : decode cL_areOrders 38 = .ok (.istore 9, 2) := by decide +kernel
theorem dL_areOrders_40 : decode cL_areOrders 40 = .ok (.iconst 0, 1) := by decide +kernel
theorem dL_areOrders_41 : decode cL_areOrders 41 = .ok (.istore 10, 2) := by decide +kernel
theorem dL_areOrders_43 : decode cL_areOrders 43 = .ok (.iload 10, 2) := by decide +kernel
theorem dL_areOrders_45 : decode cL_areOrders 45 = .ok (.aload_n 0, 1) := by decide +kernel
theorem dL_areOrders_46 : decode cL_areOrders 46 = .ok (.iconst 1, 1) := by decide +kernel
theorem dL_areOrders_47 : decode cL_areOrders 47 = .ok (.invokevirtual 18, 3) := by decide +kernel
theorem dL_areOrders_50 : decode cL_areOrders 50 = .ok (.if_icmp .ge 76, 3) := by decide +kernel
theorem dL_areOrders_53 : decode cL_areOrders 53 = .ok (.iload 7, 2) := by decide +kernel
theorem dL_areOrders_55 : decode cL_areOrders 55 = .ok (.iload 10, 2) := by decide +kernel
theorem dL_areOrders_57 : decode cL_areOrders 57 = .ok (.ishr, 1) := by decide +kernel
theorem dL_areOrders_58 : decode cL_areOrders 58 = .ok (.iconst 1, 1) := by decide +kernel
theorem dL_areOrders_59 : decode cL_areOrders 59 = .ok (.iand, 1) := by decide +kernel
theorem dL_areOrders_60 : decode cL_areOrders 60 = .ok (.iconst 1, 1) := by decide +kernel
theorem dL_areOrders_61 : decode cL_areOrders 61 = .ok (.if_icmp .ne 7, 3) := by decide +kernel
theorem dL_areOrders_64 : decode cL_areOrders 64 = .ok (.iconst 1, 1) := by decide +kernel
theorem dL_areOrders_65 : decode cL_areOrders 65 = .ok (.goto 4, 3) := by decide +kernel
theorem dL_areOrders_68 : decode cL_areOrders 68 = .ok (.iconst 0, 1) := by decide +kernel
theorem dL_areOrders_69 : decode cL_areOrders 69 = .ok (.istore 11, 2) := by decide +kernel
theorem dL_areOrders_71 : decode cL_areOrders 71 = .ok (.iload 8, 2) := by decide +kernel
theorem dL_areOrders_73 : decode cL_areOrders 73 = .ok (.iload 11, 2) := by decide +kernel
theorem dL_areOrders_75 : decode cL_areOrders 75 = .ok (.ifCond .eq 15, 3) := by decide +kernel
theorem dL_areOrders_78 : decode cL_areOrders 78 = .ok (.bipush 100, 2) := by decide +kernel
theorem dL_areOrders_80 : decode cL_areOrders 80 = .ok (.aload_n 0, 1) := by decide +kernel
theorem dL_areOrders_81 : decode cL_areOrders 81 = .ok (.iload 10, 2) := by decide +kernel
theorem dL_areOrders_83 : decode cL_areOrders 83 = .ok (.invokestatic 22, 3) := by decide +kernel
theorem dL_areOrders_86 : decode cL_areOrders 86 = .ok (.isub, 1) := by decide +kernel
theorem dL_areOrders_87 : decode cL_areOrders 87 = .ok (.goto 4, 3) := by decide +kernel
theorem dL_areOrders_90 : decode cL_areOrders 90 = .ok (.iconst 0, 1) := by decide +kernel
theorem dL_areOrders_91 : decode cL_areOrders 91 = .ok (.iadd, 1) := by decide +kernel
theorem dL_areOrders_92 : decode cL_areOrders 92 = .ok (.istore 8, 2) := by decide +kernel
theorem dL_areOrders_94 : decode cL_areOrders 94 = .ok (.iload 9, 2) := by decide +kernel
theorem dL_areOrders_96 : decode cL_areOrders 96 = .ok (.iload 11, 2) := by decide +kernel
theorem dL_areOrders_98 : decode cL_areOrders 98 = .ok (.ifCond .eq 18, 3) := by decide +kernel
theorem dL_areOrders_101 : decode cL_areOrders 101 = .ok (.aload_n 0, 1) := by decide +kernel
theorem dL_areOrders_102 : decode cL_areOrders 102 = .ok (.iload 10, 2) := by decide +kernel
theorem dL_areOrders_104 : decode cL_areOrders 104 = .ok (.bipush 7, 2) := by decide +kernel
theorem dL_areOrders_106 : decode cL_areOrders 106 = .ok (.invokevirtual 9, 3) := by decide +kernel
theorem dL_areOrders_109 : decode cL_areOrders 109 = .ok (.ifCond .ne 7, 3) := by decide +kernel
theorem dL_areOrders_112 : decode cL_areOrders 112 = .ok (.iconst 1, 1) := by decide +kernel
theorem dL_areOrders_113 : decode cL_areOrders 113 = .ok (.goto 4, 3) := by decide +kernel
theorem dL_areOrders_116 : decode cL_areOrders 116 = .ok (.iconst 0, 1) := by decide +kernel
theorem dL_areOrders_117 : decode cL_areOrders 117 = .ok (.iadd, 1) := by decide +kernel
theorem dL_areOrders_118 : decode cL_areOrders 118 = .ok (.istore 9, 2) := by decide +kernel
theorem dL_areOrders_120 : decode cL_areOrders 120 = .ok (.iinc 10 1, 3) := by decide +kernel
theorem dL_areOrders_123 : decode cL_areOrders 123 = .ok (.goto (-80), 3) := by decide +kernel
theorem dL_areOrders_126 : decode cL_areOrders 126 = .ok (.iload 8, 2) := by decide +kernel
theorem dL_areOrders_128 : decode cL_areOrders 128 = .ok (.bipush 100, 2) := by decide +kernel
theorem dL_areOrders_130 : decode cL_areOrders 130 = .ok (.idiv, 1) := by decide +kernel
theorem dL_areOrders_131 : decode cL_areOrders 131 = .ok (.iload 8, 2) := by decide +kernel
theorem dL_areOrders_133 : decode cL_areOrders 133 = .ok (.bipush 100, 2) := by decide +kernel
theorem dL_areOrders_135 : decode cL_areOrders 135 = .ok (.irem, 1) := by decide +kernel
theorem dL_areOrders_136 : decode cL_areOrders 136 = .ok (.ifCond .le 7, 3) := by decide +kernel
theorem dL_areOrders_139 : decode cL_areOrders 139 = .ok (.iconst 1, 1) := by decide +kernel
theorem dL_areOrders_140 : decode cL_areOrders 140 = .ok (.goto 4, 3) := by decide +kernel
theorem dL_areOrders_143 : decode cL_areOrders 143 = .ok (.iconst 0, 1) := by decide +kernel
theorem dL_areOrders_144 : decode cL_areOrders 144 = .ok (.iadd, 1) := by decide +kernel
theorem dL_areOrders_145 : decode cL_areOrders 145 = .ok (.istore 10, 2) := by decide +kernel
theorem dL_areOrders_147 : decode cL_areOrders 147 = .ok (.aload_n 0, 1) := by decide +kernel
theorem dL_areOrders_148 : decode cL_areOrders 148 = .ok (.iload 6, 2) := by decide +kernel
theorem dL_areOrders_150 : decode cL_areOrders 150 = .ok (.iconst 0, 1) := by decide +kernel
theorem dL_areOrders_151 : decode cL_areOrders 151 = .ok (.invokevirtual 28, 3) := by decide +kernel
theorem dL_areOrders_154 : decode cL_areOrders 154 = .ok (.istore 11, 2) := by decide +kernel
theorem dL_areOrders_156 : decode cL_areOrders 156 = .ok (.iload 10, 2) := by decide +kernel
theorem dL_areOrders_158 : decode cL_areOrders 158 = .ok (.aload_n 0, 1) := by decide +kernel
theorem dL_areOrders_159 : decode cL_areOrders 159 = .ok (.bipush 10, 2) := by decide +kernel
theorem dL_areOrders_161 : decode cL_areOrders 161 = .ok (.invokevirtual 18, 3) := by decide +kernel
theorem dL_areOrders_164 : decode cL_areOrders 164 = .ok (.iadd, 1) := by decide +kernel
theorem dL_areOrders_165 : decode cL_areOrders 165 = .ok (.iload 11, 2) := by decide +kernel
theorem dL_areOrders_167 : decode cL_areOrders 167 = .ok (.if_icmp .le 18, 3) := by decide +kernel
theorem dL_areOrders_170 : decode cL_areOrders 170 = .ok (.iload 10, 2) := by decide +kernel
theorem dL_areOrders_172 : decode cL_areOrders 172 = .ok (.aload_n 0, 1) := by decide +kernel
theorem dL_areOrders_173 : decode cL_areOrders 173 = .ok (.bipush 10, 2) := by decide +kernel
theorem dL_areOrders_175 : decode cL_areOrders 175 = .ok (.invokevirtual 18, 3) := by decide +kernel
theorem dL_areOrders_178 : decode cL_areOrders 178 = .ok (.iadd, 1) := by decide +kernel
theorem dL_areOrders_179 : decode cL_areOrders 179 = .ok (.iload 11, 2) := by decide +kernel
theorem dL_areOrders_181 : decode cL_areOrders 181 = .ok (.isub, 1) := by decide +kernel
theorem dL_areOrders_182 : decode cL_areOrders 182 = .ok (.goto 4, 3) := by decide +kernel
theorem dL_areOrders_185 : decode cL_areOrders 185 = .ok (.iconst 0, 1) := by decide +kernel
theorem dL_areOrders_186 : decode cL_areOrders 186 = .ok (.istore 12, 2) := by decide +kernel
theorem dL_areOrders_188 : decode cL_areOrders 188 = .ok (.iload_n 2, 1) := by decide +kernel
theorem dL_areOrders_189 : decode cL_areOrders 189 = .ok (.aload_n 0, 1) := by decide +kernel
theorem dL_areOrders_190 : decode cL_areOrders 190 = .ok (.iload 6, 2) := by decide +kernel
theorem dL_areOrders_192 : decode cL_areOrders 192 = .ok (.iconst 3, 1) := by decide +kernel
theorem dL_areOrders_193 : decode cL_areOrders 193 = .ok (.invokevirtual 28, 3) := by decide +kernel
theorem dL_areOrders_196 : decode cL_areOrders 196 = .ok (.iadd, 1) := by decide +kernel
theorem dL_areOrders_197 : decode cL_areOrders 197 = .ok (.istore_n 2, 1) := by decide +kernel
theorem dL_areOrders_198 : decode cL_areOrders 198 = .ok (.iload_n 3, 1) := by decide +kernel
theorem dL_areOrders_199 : decode cL_areOrders 199 = .ok (.aload_n 0, 1) := by decide +kernel
theorem dL_areOrders_200 : decode cL_areOrders 200 = .ok (.iload 6, 2) := by decide +kernel
theorem dL_areOrders_202 : decode cL_areOrders 202 = .ok (.iconst 4, 1) := by decide +kernel
theorem dL_areOrders_203 : decode cL_areOrders 203 = .ok (.invokevirtual 28, 3) := by decide +kernel
theorem dL_areOrders_206 : decode cL_areOrders 206 = .ok (.iadd, 1) := by decide +kernel
theorem dL_areOrders_207 : decode cL_areOrders 207 = .ok (.istore_n 3, 1) := by decide +kernel
theorem dL_areOrders_208 : decode cL_areOrders 208 = .ok (.iload 4, 2) := by decide +kernel
theorem dL_areOrders_210 : decode cL_areOrders 210 = .ok (.aload_n 0, 1) := by decide +kernel
theorem dL_areOrders_211 : decode cL_areOrders 211 = .ok (.iload 6, 2) := by decide +kernel
theorem dL_areOrders_213 : decode cL_areOrders 213 = .ok (.iconst 5, 1) := by decide +kernel
theorem dL_areOrders_214 : decode cL_areOrders 214 = .ok (.invokevirtual 28, 3) := by decide +kernel
theorem dL_areOrders_217 : decode cL_areOrders 217 = .ok (.iadd, 1) := by decide +kernel
theorem dL_areOrders_218 : decode cL_areOrders 218 = .ok (.istore 4, 2) := by decide +kernel
theorem dL_areOrders_220 : decode cL_areOrders 220 = .ok (.iload 5, 2) := by decide +kernel
theorem dL_areOrders_222 : decode cL_areOrders 222 = .ok (.iload 11, 2) := by decide +kernel
theorem dL_areOrders_224 : decode cL_areOrders 224 = .ok (.aload_n 0, 1) := by decide +kernel
theorem dL_areOrders_225 : decode cL_areOrders 225 = .ok (.iload 6, 2) := by decide +kernel
theorem dL_areOrders_227 : decode cL_areOrders 227 = .ok (.iconst 1, 1) := by decide +kernel
theorem dL_areOrders_228 : decode cL_areOrders 228 = .ok (.invokevirtual 28, 3) := by decide +kernel
theorem dL_areOrders_231 : decode cL_areOrders 231 = .ok (.iadd, 1) := by decide +kernel
theorem dL_areOrders_232 : decode cL_areOrders 232 = .ok (.iadd, 1) := by decide +kernel
theorem dL_areOrders_233 : decode cL_areOrders 233 = .ok (.istore 5, 2) := by decide +kernel
theorem dL_areOrders_235 : decode cL_areOrders 235 = .ok (.aload_n 0, 1) := by decide +kernel
theorem dL_areOrders_236 : decode cL_areOrders 236 = .ok (.iload 6, 2) := by decide +kernel
theorem dL_areOrders_238 : decode cL_areOrders 238 = .ok (.bipush 7, 2) := by decide +kernel
theorem dL_areOrders_240 : decode cL_areOrders 240 = .ok (.invokevirtual 28, 3) := by decide +kernel
theorem dL_areOrders_243 : decode cL_areOrders 243 = .ok (.aload_n 0, 1) := by decide +kernel
theorem dL_areOrders_244 : decode cL_areOrders 244 = .ok (.iconst 2, 1) := by decide +kernel
theorem dL_areOrders_245 : decode cL_areOrders 245 = .ok (.invokevirtual 18, 3) := by decide +kernel
theorem dL_areOrders_248 : decode cL_areOrders 248 = .ok (.iconst 1, 1) := by decide +kernel
theorem dL_areOrders_249 : decode cL_areOrders 249 = .ok (.if_icmp .ne 7, 3) := by decide +kernel
theorem dL_areOrders_252 : decode cL_areOrders 252 = .ok (.iconst 0, 1) := by decide +kernel
theorem dL_areOrders_253 : decode cL_areOrders 253 = .ok (.goto 5, 3) := by decide +kernel
theorem dL_areOrders_256 : decode cL_areOrders 256 = .ok (.iload 12, 2) := by decide +kernel
theorem dL_areOrders_258 : decode cL_areOrders 258 = .ok (.if_icmp .ne 81, 3) := by decide +kernel
theorem dL_areOrders_261 : decode cL_areOrders 261 = .ok (.aload_n 0, 1) := by decide +kernel
theorem dL_areOrders_262 : decode cL_areOrders 262 = .ok (.iload 6, 2) := by decide +kernel
theorem dL_areOrders_264 : decode cL_areOrders 264 = .ok (.iconst 2, 1) := by decide +kernel
theorem dL_areOrders_265 : decode cL_areOrders 265 = .ok (.invokevirtual 28, 3) := by decide +kernel
theorem dL_areOrders_268 : decode cL_areOrders 268 = .ok (.iload 9, 2) := by decide +kernel
theorem dL_areOrders_270 : decode cL_areOrders 270 = .ok (.if_icmp .ne 69, 3) := by decide +kernel
theorem dL_areOrders_273 : decode cL_areOrders 273 = .ok (.aload_n 0, 1) := by decide +kernel
theorem dL_areOrders_274 : decode cL_areOrders 274 = .ok (.iload 6, 2) := by decide +kernel
theorem dL_areOrders_276 : decode cL_areOrders 276 = .ok (.iconst 3, 1) := by decide +kernel
theorem dL_areOrders_277 : decode cL_areOrders 277 = .ok (.invokevirtual 28, 3) := by decide +kernel
theorem dL_areOrders_280 : decode cL_areOrders 280 = .ok (.aload_n 0, 1) := by decide +kernel
theorem dL_areOrders_281 : decode cL_areOrders 281 = .ok (.iload 6, 2) := by decide +kernel
theorem dL_areOrders_283 : decode cL_areOrders 283 = .ok (.iconst 4, 1) := by decide +kernel
theorem dL_areOrders_284 : decode cL_areOrders 284 = .ok (.invokevirtual 28, 3) := by decide +kernel
theorem dL_areOrders_287 : decode cL_areOrders 287 = .ok (.aload_n 0, 1) := by decide +kernel
theorem dL_areOrders_288 : decode cL_areOrders 288 = .ok (.iload 6, 2) := by decide +kernel
theorem dL_areOrders_290 : decode cL_areOrders 290 = .ok (.iconst 5, 1) := by decide +kernel
theorem dL_areOrders_291 : decode cL_areOrders 291 = .ok (.invokevirtual 28, 3) := by decide +kernel
theorem dL_areOrders_294 : decode cL_areOrders 294 = .ok (.iadd, 1) := by decide +kernel
theorem dL_areOrders_295 : decode cL_areOrders 295 = .ok (.iload 11, 2) := by decide +kernel
theorem dL_areOrders_297 : decode cL_areOrders 297 = .ok (.iadd, 1) := by decide +kernel
theorem dL_areOrders_298 : decode cL_areOrders 298 = .ok (.aload_n 0, 1) := by decide +kernel
theorem dL_areOrders_299 : decode cL_areOrders 299 = .ok (.iload 6, 2) := by decide +kernel
theorem dL_areOrders_301 : decode cL_areOrders 301 = .ok (.iconst 1, 1) := by decide +kernel
theorem dL_areOrders_302 : decode cL_areOrders 302 = .ok (.invokevirtual 28, 3) := by decide +kernel
theorem dL_areOrders_305 : decode cL_areOrders 305 = .ok (.iadd, 1) := by decide +kernel
theorem dL_areOrders_306 : decode cL_areOrders 306 = .ok (.if_icmp .ne 33, 3) := by decide +kernel
theorem dL_areOrders_309 : decode cL_areOrders 309 = .ok (.aload_n 0, 1) := by decide +kernel
theorem dL_areOrders_310 : decode cL_areOrders 310 = .ok (.iconst 2, 1) := by decide +kernel
theorem dL_areOrders_311 : decode cL_areOrders 311 = .ok (.invokevirtual 18, 3) := by decide +kernel
theorem dL_areOrders_314 : decode cL_areOrders 314 = .ok (.iconst 1, 1) := by decide +kernel
theorem dL_areOrders_315 : decode cL_areOrders 315 = .ok (.if_icmp .eq 20, 3) := by decide +kernel
theorem dL_areOrders_318 : decode cL_areOrders 318 = .ok (.aload_n 0, 1) := by decide +kernel
theorem dL_areOrders_319 : decode cL_areOrders 319 = .ok (.iload 6, 2) := by decide +kernel
theorem dL_areOrders_321 : decode cL_areOrders 321 = .ok (.iconst 1, 1) := by decide +kernel
theorem dL_areOrders_322 : decode cL_areOrders 322 = .ok (.invokevirtual 28, 3) := by decide +kernel
theorem dL_areOrders_325 : decode cL_areOrders 325 = .ok (.ifCond .ne 14, 3) := by decide +kernel
theorem dL_areOrders_328 : decode cL_areOrders 328 = .ok (.iload 11, 2) := by decide +kernel
theorem dL_areOrders_330 : decode cL_areOrders 330 = .ok (.bipush 20, 2) := by decide +kernel
theorem dL_areOrders_332 : decode cL_areOrders 332 = .ok (.if_icmp .gt 7, 3) := by decide +kernel
theorem dL_areOrders_335 : decode cL_areOrders 335 = .ok (.iconst 1, 1) := by decide +kernel
theorem dL_areOrders_336 : decode cL_areOrders 336 = .ok (.goto 4, 3) := by decide +kernel
theorem dL_areOrders_339 : decode cL_areOrders 339 = .ok (.iconst 0, 1) := by decide +kernel
theorem dL_areOrders_340 : decode cL_areOrders 340 = .ok (.istore_n 1, 1) := by decide +kernel
theorem dL_areOrders_341 : decode cL_areOrders 341 = .ok (.iinc 6 1, 3) := by decide +kernel
theorem dL_areOrders_344 : decode cL_areOrders 344 = .ok (.goto (-329), 3) := by decide +kernel
theorem dL_areOrders_347 : decode cL_areOrders 347 = .ok (.iload_n 1, 1) := by decide +kernel
theorem dL_areOrders_348 : decode cL_areOrders 348 = .ok (.ifCond .eq 46, 3) := by decide +kernel
theorem dL_areOrders_351 : decode cL_areOrders 351 = .ok (.iload_n 2, 1) := by decide +kernel
theorem dL_areOrders_352 : decode cL_areOrders 352 = .ok (.aload_n 0, 1) := by decide +kernel
theorem dL_areOrders_353 : decode cL_areOrders 353 = .ok (.iconst 3, 1) := by decide +kernel
theorem dL_areOrders_354 : decode cL_areOrders 354 = .ok (.invokevirtual 18, 3) := by decide +kernel
theorem dL_areOrders_357 : decode cL_areOrders 357 = .ok (.if_icmp .ne 37, 3) := by decide +kernel
theorem dL_areOrders_360 : decode cL_areOrders 360 = .ok (.iload_n 3, 1) := by decide +kernel
theorem dL_areOrders_361 : decode cL_areOrders 361 = .ok (.aload_n 0, 1) := by decide +kernel
theorem dL_areOrders_362 : decode cL_areOrders 362 = .ok (.iconst 4, 1) := by decide +kernel
theorem dL_areOrders_363 : decode cL_areOrders 363 = .ok (.invokevirtual 18, 3) := by decide +kernel
theorem dL_areOrders_366 : decode cL_areOrders 366 = .ok (.if_icmp .ne 28, 3) := by decide +kernel
theorem dL_areOrders_369 : decode cL_areOrders 369 = .ok (.iload 4, 2) := by decide +kernel
theorem dL_areOrders_371 : decode cL_areOrders 371 = .ok (.aload_n 0, 1) := by decide +kernel
theorem dL_areOrders_372 : decode cL_areOrders 372 = .ok (.iconst 5, 1) := by decide +kernel
theorem dL_areOrders_373 : decode cL_areOrders 373 = .ok (.invokevirtual 18, 3) := by decide +kernel
theorem dL_areOrders_376 : decode cL_areOrders 376 = .ok (.if_icmp .ne 18, 3) := by decide +kernel
theorem dL_areOrders_379 : decode cL_areOrders 379 = .ok (.iload 5, 2) := by decide +kernel
theorem dL_areOrders_381 : decode cL_areOrders 381 = .ok (.aload_n 0, 1) := by decide +kernel
theorem dL_areOrders_382 : decode cL_areOrders 382 = .ok (.bipush 6, 2) := by decide +kernel
theorem dL_areOrders_384 : decode cL_areOrders 384 = .ok (.invokevirtual 18, 3) := by decide +kernel
theorem dL_areOrders_387 : decode cL_areOrders 387 = .ok (.if_icmp .ne 7, 3) := by decide +kernel
theorem dL_areOrders_390 : decode cL_areOrders 390 = .ok (.iconst 1, 1) := by decide +kernel
theorem dL_areOrders_391 : decode cL_areOrders 391 = .ok (.goto 4, 3) := by decide +kernel
theorem dL_areOrders_394 : decode cL_areOrders 394 = .ok (.iconst 0, 1) := by decide +kernel
theorem dL_areOrders_395 : decode cL_areOrders 395 = .ok (.ireturn, 1) := by decide +kernel
theorem dL_arePeople_0 : decode cL_arePeople 0 = .ok (.iconst 0, 1) := by decide +kernel
theorem dL_arePeople_1 : decode cL_arePeople 1 = .ok (.istore_n 1, 1) := by decide +kernel
theorem dL_arePeople_2 : decode cL_arePeople 2 = .ok (.iconst 0, 1) := by decide +kernel
theorem dL_arePeople_3 : decode cL_arePeople 3 = .ok (.istore_n 2, 1) := by decide +kernel
theorem dL_arePeople_4 : decode cL_arePeople 4 = .ok (.iconst 0, 1) := by decide +kernel
theorem dL_arePeople_5 : decode cL_arePeople 5 = .ok (.istore_n 3, 1) := by decide +kernel
theorem dL_arePeople_6 : decode cL_arePeople 6 = .ok (.iconst 0, 1) := by decide +kernel
theorem dL_arePeople_7 : decode cL_arePeople 7 = .ok (.istore 4, 2) := by decide +kernel
theorem dL_arePeople_9 : decode cL_arePeople 9 = .ok (.bipush (-6), 2) := by decide +kernel
theorem dL_arePeople_11 : decode cL_arePeople 11 = .ok (.istore 5, 2) := by decide +kernel
theorem dL_arePeople_13 : decode cL_arePeople 13 = .ok (.iconst 1, 1) := by decide +kernel
theorem dL_arePeople_14 : decode cL_arePeople 14 = .ok (.istore 6, 2) := by decide +kernel
theorem dL_arePeople_16 : decode cL_arePeople 16 = .ok (.iconst 0, 1) := by decide +kernel
theorem dL_arePeople_17 : decode cL_arePeople 17 = .ok (.istore 7, 2) := by decide +kernel
theorem dL_arePeople_19 : decode cL_arePeople 19 = .ok (.iload 7, 2) := by decide +kernel
theorem dL_arePeople_21 : decode cL_arePeople 21 = .ok (.aload_n 0, 1) := by decide +kernel
theorem dL_arePeople_22 : decode cL_arePeople 22 = .ok (.iconst 1, 1) := by decide +kernel
theorem dL_arePeople_23 : decode cL_arePeople 23 = .ok (.invokevirtual 18, 3) := by decide +kernel
theorem dL_arePeople_26 : decode cL_arePeople 26 = .ok (.if_icmp .ge 367, 3) := by decide +kernel
theorem dL_arePeople_29 : decode cL_arePeople 29 = .ok (.iload 6, 2) := by decide +kernel
theorem dL_arePeople_31 : decode cL_arePeople 31 = .ok (.ifCond .eq 362, 3) := by decide +kernel
theorem dL_arePeople_34 : decode cL_arePeople 34 = .ok (.iconst 0, 1) := by decide +kernel
theorem dL_arePeople_35 : decode cL_arePeople 35 = .ok (.istore 8, 2) := by decide +kernel
theorem dL_arePeople_37 : decode cL_arePeople 37 = .ok (.bipush (-6), 2) := by decide +kernel
theorem dL_arePeople_39 : decode cL_arePeople 39 = .ok (.istore 9, 2) := by decide +kernel
theorem dL_arePeople_41 : decode cL_arePeople 41 = .ok (.iconst 4, 1) := by decide +kernel
theorem dL_arePeople_42 : decode cL_arePeople 42 = .ok (.istore 10, 2) := by decide +kernel
theorem dL_arePeople_44 : decode cL_arePeople 44 = .ok (.iload 10, 2) := by decide +kernel
theorem dL_arePeople_46 : decode cL_arePeople 46 = .ok (.ifCond .lt 71, 3) := by decide +kernel
theorem dL_arePeople_49 : decode cL_arePeople 49 = .ok (.iconst 2, 1) := by decide +kernel
theorem dL_arePeople_50 : decode cL_arePeople 50 = .ok (.istore 11, 2) := by decide +kernel
theorem dL_arePeople_52 : decode cL_arePeople 52 = .ok (.iload 11, 2) := by decide +kernel
theorem dL_arePeople_54 : decode cL_arePeople 54 = .ok (.ifCond .lt 57, 3) := by decide +kernel
theorem dL_arePeople_57 : decode cL_arePeople 57 = .ok (.iload 8, 2) := by decide +kernel
theorem dL_arePeople_59 : decode cL_arePeople 59 = .ok (.aload_n 0, 1) := by decide +kernel
theorem dL_arePeople_60 : decode cL_arePeople 60 = .ok (.iload 10, 2) := by decide +kernel
theorem dL_arePeople_62 : decode cL_arePeople 62 = .ok (.iload 11, 2) := by decide +kernel
theorem dL_arePeople_64 : decode cL_arePeople 64 = .ok (.invokevirtual 15, 3) := by decide +kernel
theorem dL_arePeople_67 : decode cL_arePeople 67 = .ok (.iload 7, 2) := by decide +kernel
theorem dL_arePeople_69 : decode cL_arePeople 69 = .ok (.ishr, 1) := by decide +kernel
theorem dL_arePeople_70 : decode cL_arePeople 70 = .ok (.iconst 1, 1) := by decide +kernel
theorem dL_arePeople_71 : decode cL_arePeople 71 = .ok (.iand, 1) := by decide +kernel
theorem dL_arePeople_72 : decode cL_arePeople 72 = .ok (.iload 10, 2) := by decide +kernel
theorem dL_arePeople_74 : decode cL_arePeople 74 = .ok (.ishl, 1) := by decide +kernel
theorem dL_arePeople_75 : decode cL_arePeople 75 = .ok (.ior, 1) := by decide +kernel
theorem dL_arePeople_76 : decode cL_arePeople 76 = .ok (.istore 8, 2) := by decide +kernel
theorem dL_arePeople_78 : decode cL_arePeople 78 = .ok (.aload_n 0, 1) := by decide +kernel
theorem dL_arePeople_79 : decode cL_arePeople 79 = .ok (.iload 7, 2) := by decide +kernel
theorem dL_arePeople_81 : decode cL_arePeople 81 = .ok (.iload 10, 2) := by decide +kernel
theorem dL_arePeople_83 : decode cL_arePeople 83 = .ok (.iload 11, 2) := by decide +kernel
theorem dL_arePeople_85 : decode cL_arePeople 85 = .ok (.invokevirtual 31, 3) := by decide +kernel
theorem dL_arePeople_88 : decode cL_arePeople 88 = .ok (.ifCond .ne 13, 3) := by decide +kernel
theorem dL_arePeople_91 : decode cL_arePeople 91 = .ok (.iconst 3, 1) := by decide +kernel
theorem dL_arePeople_92 : decode cL_arePeople 92 = .ok (.iload 10, 2) := by decide +kernel
theorem dL_arePeople_94 : decode cL_arePeople 94 = .ok (.imul, 1) := by decide +kernel
theorem dL_arePeople_95 : decode cL_arePeople 95 = .ok (.iload 11, 2) := by decide +kernel
theorem dL_arePeople_97 : decode cL_arePeople 97 = .ok (.iadd, 1) := by decide +kernel
theorem dL_arePeople_98 : decode cL_arePeople 98 = .ok (.goto 5, 3) := by decide +kernel
theorem dL_arePeople_101 : decode cL_arePeople 101 = .ok (.iload 9, 2) := by decide +kernel
theorem dL_arePeople_103 : decode cL_arePeople 103 = .ok (.istore 9, 2) := by decide +kernel
theorem dL_arePeople_105 : decode cL_arePeople 105 = .ok (.iinc 11 (-1), 3) := by decide +kernel
theorem dL_arePeople_108 : decode cL_arePeople 108 = .ok (.goto (-56), 3) := by decide +kernel
theorem dL_arePeople_111 : decode cL_arePeople 111 = .ok (.iinc 10 (-1), 3) := by decide +kernel
theorem dL_arePeople_114 : decode cL_arePeople 114 = .ok (.goto (-70), 3) := by decide +kernel
theorem dL_arePeople_117 : decode cL_arePeople 117 = .ok (.aload_n 0, 1) := by decide +kernel
theorem dL_arePeople_118 : decode cL_arePeople 118 = .ok (.iload 7, 2) := by decide +kernel
theorem dL_arePeople_120 : decode cL_arePeople 120 = .ok (.iconst 1, 1) := by decide +kernel
theorem dL_arePeople_121 : decode cL_arePeople 121 = .ok (.invokevirtual 9, 3) := by decide +kernel
theorem dL_arePeople_124 : decode cL_arePeople 124 = .ok (.istore 10, 2) := by decide +kernel
theorem dL_arePeople_126 : decode cL_arePeople 126 = .ok (.iload_n 1, 1) := by decide +kernel
theorem dL_arePeople_127 : decode cL_arePeople 127 = .ok (.aload_n 0, 1) := by decide +kernel
theorem dL_arePeople_128 : decode cL_arePeople 128 = .ok (.iload 7, 2) := by decide +kernel
theorem dL_arePeople_130 : decode cL_arePeople 130 = .ok (.iconst 0, 1) := by decide +kernel
theorem dL_arePeople_131 : decode cL_arePeople 131 = .ok (.invokevirtual 9, 3) := by decide +kernel
theorem dL_arePeople_134 : decode cL_arePeople 134 = .ok (.iadd, 1) := by decide +kernel
theorem dL_arePeople_135 : decode cL_arePeople 135 = .ok (.istore_n 1, 1) := by decide +kernel
theorem dL_arePeople_136 : decode cL_arePeople 136 = .ok (.iload_n 2, 1) := by decide +kernel
theorem dL_arePeople_137 : decode cL_arePeople 137 = .ok (.aload_n 0, 1) := by decide +kernel
theorem dL_arePeople_138 : decode cL_arePeople 138 = .ok (.iload 7, 2) := by decide +kernel
theorem dL_arePeople_140 : decode cL_arePeople 140 = .ok (.bipush 6, 2) := by decide +kernel
theorem dL_arePeople_142 : decode cL_arePeople 142 = .ok (.invokevirtual 9, 3) := by decide +kernel
theorem dL_arePeople_145 : decode cL_arePeople 145 = .ok (.iadd, 1) := by decide +kernel
theorem dL_arePeople_146 : decode cL_arePeople 146 = .ok (.istore_n 2, 1) := by decide +kernel
theorem dL_arePeople_147 : decode cL_arePeople 147 = .ok (.iload_n 3, 1) := by decide +kernel
theorem dL_arePeople_148 : decode cL_arePeople 148 = .ok (.aload_n 0, 1) := by decide +kernel
theorem dL_arePeople_149 : decode cL_arePeople 149 = .ok (.iload 7, 2) := by decide +kernel
theorem dL_arePeople_151 : decode cL_arePeople 151 = .ok (.bipush 8, 2) := by decide +kernel
theorem dL_arePeople_153 : decode cL_arePeople 153 = .ok (.invokevirtual 9, 3) := by decide +kernel
theorem dL_arePeople_156 : decode cL_arePeople 156 = .ok (.iadd, 1) := by decide +kernel
theorem dL_arePeople_157 : decode cL_arePeople 157 = .ok (.istore_n 3, 1) := by decide +kernel
theorem dL_arePeople_158 : decode cL_arePeople 158 = .ok (.iload 4, 2) := by decide +kernel
theorem dL_arePeople_160 : decode cL_arePeople 160 = .ok (.aload_n 0, 1) := by decide +kernel
theorem dL_arePeople_161 : decode cL_arePeople 161 = .ok (.iconst 0, 1) := by decide +kernel
theorem dL_arePeople_162 : decode cL_arePeople 162 = .ok (.invokevirtual 18, 3) := by decide +kernel
theorem dL_arePeople_165 : decode cL_arePeople 165 = .ok (.aload_n 0, 1) := by decide +kernel
theorem dL_arePeople_166 : decode cL_arePeople 166 = .ok (.iload 7, 2) := by decide +kernel
theorem dL_arePeople_168 : decode cL_arePeople 168 = .ok (.iconst 4, 1) := by decide +kernel
theorem dL_arePeople_169 : decode cL_arePeople 169 = .ok (.invokevirtual 9, 3) := by decide +kernel
theorem dL_arePeople_172 : decode cL_arePeople 172 = .ok (.if_icmp .ge 10, 3) := by decide +kernel
theorem dL_arePeople_175 : decode cL_arePeople 175 = .ok (.iconst 1, 1) := by decide +kernel
theorem dL_arePeople_176 : decode cL_arePeople 176 = .ok (.iload 7, 2) := by decide +kernel
theorem dL_arePeople_178 : decode cL_arePeople 178 = .ok (.ishl, 1) := by decide +kernel
theorem dL_arePeople_179 : decode cL_arePeople 179 = .ok (.goto 4, 3) := by decide +kernel
theorem dL_arePeople_182 : decode cL_arePeople 182 = .ok (.iconst 0, 1) := by decide +kernel
theorem dL_arePeople_183 : decode cL_arePeople 183 = .ok (.ior, 1) := by decide +kernel
theorem dL_arePeople_184 : decode cL_arePeople 184 = .ok (.istore 4, 2) := by decide +kernel
theorem dL_arePeople_186 : decode cL_arePeople 186 = .ok (.iload 5, 2) := by decide +kernel
theorem dL_arePeople_188 : decode cL_arePeople 188 = .ok (.ifCond .lt 68, 3) := by decide +kernel
theorem dL_arePeople_191 : decode cL_arePeople 191 = .ok (.aload_n 0, 1) := by decide +kernel
theorem dL_arePeople_192 : decode cL_arePeople 192 = .ok (.iload 7, 2) := by decide +kernel
theorem dL_arePeople_194 : decode cL_arePeople 194 = .ok (.invokestatic 22, 3) := by decide +kernel
theorem dL_arePeople_197 : decode cL_arePeople 197 = .ok (.aload_n 0, 1) := by decide +kernel
theorem dL_arePeople_198 : decode cL_arePeople 198 = .ok (.iload 5, 2) := by decide +kernel
theorem dL_arePeople_200 : decode cL_arePeople 200 = .ok (.invokestatic 22, 3) := by decide +kernel
theorem dL_arePeople_203 : decode cL_arePeople 203 = .ok (.if_icmp .gt 53, 3) := by decide +kernel
theorem dL_arePeople_206 : decode cL_arePeople 206 = .ok (.aload_n 0, 1) := by decide +kernel
theorem dL_arePeople_207 : decode cL_arePeople 207 = .ok (.iload 7, 2) := by decide +kernel
theorem dL_arePeople_209 : decode cL_arePeople 209 = .ok (.invokestatic 22, 3) := by decide +kernel
theorem dL_arePeople_212 : decode cL_arePeople 212 = .ok (.aload_n 0, 1) := by decide +kernel
theorem dL_arePeople_213 : decode cL_arePeople 213 = .ok (.iload 5, 2) := by decide +kernel
theorem dL_arePeople_215 : decode cL_arePeople 215 = .ok (.invokestatic 22, 3) := by decide +kernel
theorem dL_arePeople_218 : decode cL_arePeople 218 = .ok (.if_icmp .ne 42, 3) := by decide +kernel
theorem dL_arePeople_221 : decode cL_arePeople 221 = .ok (.aload_n 0, 1) := by decide +kernel
theorem dL_arePeople_222 : decode cL_arePeople 222 = .ok (.iload 7, 2) := by decide +kernel
theorem dL_arePeople_224 : decode cL_arePeople 224 = .ok (.iconst 5, 1) := by decide +kernel
theorem dL_arePeople_225 : decode cL_arePeople 225 = .ok (.invokevirtual 9, 3) := by decide +kernel
theorem dL_arePeople_228 : decode cL_arePeople 228 = .ok (.aload_n 0, 1) := by decide +kernel
theorem dL_arePeople_229 : decode cL_arePeople 229 = .ok (.iload 7, 2) := by decide +kernel
theorem dL_arePeople_231 : decode cL_arePeople 231 = .ok (.bipush 6, 2) := by decide +kernel
theorem dL_arePeople_233 : decode cL_arePeople 233 = .ok (.invokevirtual 9, 3) := by decide +kernel
theorem dL_arePeople_236 : decode cL_arePeople 236 = .ok (.iadd, 1) := by decide +kernel
theorem dL_arePeople_237 : decode cL_arePeople 237 = .ok (.aload_n 0, 1) := by decide +kernel
theorem dL_arePeople_238 : decode cL_arePeople 238 = .ok (.iload 5, 2) := by decide +kernel
theorem dL_arePeople_240 : decode cL_arePeople 240 = .ok (.iconst 5, 1) := by decide +kernel
theorem dL_arePeople_241 : decode cL_arePeople 241 = .ok (.invokevirtual 9, 3) := by decide +kernel
theorem dL_arePeople_244 : decode cL_arePeople 244 = .ok (.aload_n 0, 1) := by decide +kernel
theorem dL_arePeople_245 : decode cL_arePeople 245 = .ok (.iload 5, 2) := by decide +kernel
theorem dL_arePeople_247 : decode cL_arePeople 247 = .ok (.bipush 6, 2) := by decide +kernel
theorem dL_arePeople_249 : decode cL_arePeople 249 = .ok (.invokevirtual 9, 3) := by decide +kernel
theorem dL_arePeople_252 : decode cL_arePeople 252 = .ok (.iadd, 1) := by decide +kernel
theorem dL_arePeople_253 : decode cL_arePeople 253 = .ok (.if_icmp .le 7, 3) := by decide +kernel
theorem dL_arePeople_256 : decode cL_arePeople 256 = .ok (.iconst 1, 1) := by decide +kernel
theorem dL_arePeople_257 : decode cL_arePeople 257 = .ok (.goto 4, 3) := by decide +kernel
theorem dL_arePeople_260 : decode cL_arePeople 260 = .ok (.iconst 0, 1) := by decide +kernel
theorem dL_arePeople_261 : decode cL_arePeople 261 = .ok (.istore 11, 2) := by decide +kernel
theorem dL_arePeople_263 : decode cL_arePeople 263 = .ok (.aload_n 0, 1) := by decide +kernel
theorem dL_arePeople_264 : decode cL_arePeople 264 = .ok (.iload 7, 2) := by decide +kernel
theorem dL_arePeople_266 : decode cL_arePeople 266 = .ok (.invokestatic 22, 3) := by decide +kernel
theorem dL_arePeople_269 : decode cL_arePeople 269 = .ok (.ifCond .le 13, 3) := by decide +kernel
theorem dL_arePeople_272 : decode cL_arePeople 272 = .ok (.iload 11, 2) := by decide +kernel
theorem dL_arePeople_274 : decode cL_arePeople 274 = .ok (.ifCond .eq 8, 3) := by decide +kernel
theorem dL_arePeople_277 : decode cL_arePeople 277 = .ok (.iload 7, 2) := by decide +kernel
theorem dL_arePeople_279 : decode cL_arePeople 279 = .ok (.goto 5, 3) := by decide +kernel
theorem dL_arePeople_282 : decode cL_arePeople 282 = .ok (.iload 5, 2) := by decide +kernel
theorem dL_arePeople_284 : decode cL_arePeople 284 = .ok (.istore 5, 2) := by decide +kernel
theorem dL_arePeople_286 : decode cL_arePeople 286 = .ok (.iload 8, 2) := by decide +kernel
theorem dL_arePeople_288 : decode cL_arePeople 288 = .ok (.aload_n 0, 1) := by decide +kernel
theorem dL_arePeople_289 : decode cL_arePeople 289 = .ok (.iload 7, 2) := by decide +kernel
theorem dL_arePeople_291 : decode cL_arePeople 291 = .ok (.iconst 2, 1) := by decide +kernel
theorem dL_arePeople_292 : decode cL_arePeople 292 = .ok (.invokevirtual 9, 3) := by decide +kernel
theorem dL_arePeople_295 : decode cL_arePeople 295 = .ok (.if_icmp .ne 89, 3) := by decide +kernel
theorem dL_arePeople_298 : decode cL_arePeople 298 = .ok (.iload 9, 2) := by decide +kernel
theorem dL_arePeople_300 : decode cL_arePeople 300 = .ok (.aload_n 0, 1) := by decide +kernel
theorem dL_arePeople_301 : decode cL_arePeople 301 = .ok (.iload 7, 2) := by decide +kernel
theorem dL_arePeople_303 : decode cL_arePeople 303 = .ok (.invokevirtual 35, 3) := by decide +kernel
theorem dL_arePeople_306 : decode cL_arePeople 306 = .ok (.if_icmp .ne 78, 3) := by decide +kernel
theorem dL_arePeople_309 : decode cL_arePeople 309 = .ok (.iload 10, 2) := by decide +kernel
theorem dL_arePeople_311 : decode cL_arePeople 311 = .ok (.ifCond .lt 22, 3) := by decide +kernel
theorem dL_arePeople_314 : decode cL_arePeople 314 = .ok (.aload_n 0, 1) := by decide +kernel
theorem dL_arePeople_315 : decode cL_arePeople 315 = .ok (.iconst 0, 1) := by decide +kernel
theorem dL_arePeople_316 : decode cL_arePeople 316 = .ok (.iload 10, 2) := by decide +kernel
theorem dL_arePeople_318 : decode cL_arePeople 318 = .ok (.invokevirtual 15, 3) := by decide +kernel
theorem dL_arePeople_321 : decode cL_arePeople 321 = .ok (.iload 7, 2) := by decide +kernel
theorem dL_arePeople_323 : decode cL_arePeople 323 = .ok (.ishr, 1) := by decide +kernel
theorem dL_arePeople_324 : decode cL_arePeople 324 = .ok (.iconst 1, 1) := by decide +kernel
theorem dL_arePeople_325 : decode cL_arePeople 325 = .ok (.iand, 1) := by decide +kernel
theorem dL_arePeople_326 : decode cL_arePeople 326 = .ok (.iconst 1, 1) := by decide +kernel
theorem dL_arePeople_327 : decode cL_arePeople 327 = .ok (.if_icmp .ne 57, 3) := by decide +kernel
theorem dL_arePeople_330 : decode cL_arePeople 330 = .ok (.goto 10, 3) := by decide +kernel
theorem dL_arePeople_333 : decode cL_arePeople 333 = .ok (.iload 8, 2) := by decide +kernel
theorem dL_arePeople_335 : decode cL_arePeople 335 = .ok (.iconst 1, 1) := by decide +kernel
theorem dL_arePeople_336 : decode cL_arePeople 336 = .ok (.iand, 1) := by decide +kernel
theorem dL_arePeople_337 : decode cL_arePeople 337 = .ok (.ifCond .ne 47, 3) := by decide +kernel
theorem dL_arePeople_340 : decode cL_arePeople 340 = .ok (.aload_n 0, 1) := by decide +kernel
theorem dL_arePeople_341 : decode cL_arePeople 341 = .ok (.iload 7, 2) := by decide +kernel
theorem dL_arePeople_343 : decode cL_arePeople 343 = .ok (.iconst 0, 1) := by decide +kernel
theorem dL_arePeople_344 : decode cL_arePeople 344 = .ok (.invokevirtual 9, 3) := by decide +kernel
theorem dL_arePeople_347 : decode cL_arePeople 347 = .ok (.ifCond .lt 37, 3) := by decide +kernel
theorem dL_arePeople_350 : decode cL_arePeople 350 = .ok (.aload_n 0, 1) := by decide +kernel
theorem dL_arePeople_351 : decode cL_arePeople 351 = .ok (.iload 7, 2) := by decide +kernel
theorem dL_arePeople_353 : decode cL_arePeople 353 = .ok (.iconst 0, 1) := by decide +kernel
theorem dL_arePeople_354 : decode cL_arePeople 354 = .ok (.invokevirtual 9, 3) := by decide +kernel
theorem dL_arePeople_357 : decode cL_arePeople 357 = .ok (.bipush 30, 2) := by decide +kernel
theorem dL_arePeople_359 : decode cL_arePeople 359 = .ok (.if_icmp .gt 25, 3) := by decide +kernel
theorem dL_arePeople_362 : decode cL_arePeople 362 = .ok (.aload_n 0, 1) := by decide +kernel
theorem dL_arePeople_363 : decode cL_arePeople 363 = .ok (.iload 7, 2) := by decide +kernel
theorem dL_arePeople_365 : decode cL_arePeople 365 = .ok (.iconst 3, 1) := by decide +kernel
theorem dL_arePeople_366 : decode cL_arePeople 366 = .ok (.invokevirtual 9, 3) := by decide +kernel
theorem dL_arePeople_369 : decode cL_arePeople 369 = .ok (.aload_n 0, 1) := by decide +kernel
theorem dL_arePeople_370 : decode cL_arePeople 370 = .ok (.iload 7, 2) := by decide +kernel
theorem dL_arePeople_372 : decode cL_arePeople 372 = .ok (.bipush 6, 2) := by decide +kernel
theorem dL_arePeople_374 : decode cL_arePeople 374 = .ok (.invokevirtual 9, 3) := by decide +kernel
theorem dL_arePeople_377 : decode cL_arePeople 377 = .ok (.if_icmp .gt 7, 3) := by decide +kernel
theorem dL_arePeople_380 : decode cL_arePeople 380 = .ok (.iconst 1, 1) := by decide +kernel
theorem dL_arePeople_381 : decode cL_arePeople 381 = .ok (.goto 4, 3) := by decide +kernel
theorem dL_arePeople_384 : decode cL_arePeople 384 = .ok (.iconst 0, 1) := by decide +kernel
theorem dL_arePeople_385 : decode cL_arePeople 385 = .ok (.istore 6, 2) := by decide +kernel
theorem dL_arePeople_387 : decode cL_arePeople 387 = .ok (.iinc 7 1, 3) := by decide +kernel
theorem dL_arePeople_390 : decode cL_arePeople 390 = .ok (.goto (-371), 3) := by decide +kernel
theorem dL_arePeople_393 : decode cL_arePeople 393 = .ok (.iload 6, 2) := by decide +kernel
theorem dL_arePeople_395 : decode cL_arePeople 395 = .ok (.ifCond .eq 81, 3) := by decide +kernel
theorem dL_arePeople_398 : decode cL_arePeople 398 = .ok (.iload_n 1, 1) := by decide +kernel
theorem dL_arePeople_399 : decode cL_arePeople 399 = .ok (.aload_n 0, 1) := by decide +kernel
theorem dL_arePeople_400 : decode cL_arePeople 400 = .ok (.bipush 7, 2) := by decide +kernel
theorem dL_arePeople_402 : decode cL_arePeople 402 = .ok (.invokevirtual 18, 3) := by decide +kernel
theorem dL_arePeople_405 : decode cL_arePeople 405 = .ok (.if_icmp .ne 71, 3) := by decide +kernel
theorem dL_arePeople_408 : decode cL_arePeople 408 = .ok (.iload_n 2, 1) := by decide +kernel
theorem dL_arePeople_409 : decode cL_arePeople 409 = .ok (.aload_n 0, 1) := by decide +kernel
theorem dL_arePeople_410 : decode cL_arePeople 410 = .ok (.bipush 9, 2) := by decide +kernel
theorem dL_arePeople_412 : decode cL_arePeople 412 = .ok (.invokevirtual 18, 3) := by decide +kernel
theorem dL_arePeople_415 : decode cL_arePeople 415 = .ok (.if_icmp .ne 61, 3) := by decide +kernel
theorem dL_arePeople_418 : decode cL_arePeople 418 = .ok (.iload_n 3, 1) := by decide +kernel
theorem dL_arePeople_419 : decode cL_arePeople 419 = .ok (.aload_n 0, 1) := by decide +kernel
theorem dL_arePeople_420 : decode cL_arePeople 420 = .ok (.iconst 4, 1) := by decide +kernel
theorem dL_arePeople_421 : decode cL_arePeople 421 = .ok (.invokevirtual 18, 3) := by decide +kernel
theorem dL_arePeople_424 : decode cL_arePeople 424 = .ok (.if_icmp .ne 52, 3) := by decide +kernel
theorem dL_arePeople_427 : decode cL_arePeople 427 = .ok (.iload 4, 2) := by decide +kernel
theorem dL_arePeople_429 : decode cL_arePeople 429 = .ok (.aload_n 0, 1) := by decide +kernel
theorem dL_arePeople_430 : decode cL_arePeople 430 = .ok (.bipush 8, 2) := by decide +kernel
theorem dL_arePeople_432 : decode cL_arePeople 432 = .ok (.invokevirtual 18, 3) := by decide +kernel
theorem dL_arePeople_435 : decode cL_arePeople 435 = .ok (.if_icmp .ne 41, 3) := by decide +kernel
theorem dL_arePeople_438 : decode cL_arePeople 438 = .ok (.aload_n 0, 1) := by decide +kernel
theorem dL_arePeople_439 : decode cL_arePeople 439 = .ok (.iconst 0, 1) := by decide +kernel
theorem dL_arePeople_440 : decode cL_arePeople 440 = .ok (.invokevirtual 38, 3) := by decide +kernel
theorem dL_arePeople_443 : decode cL_arePeople 443 = .ok (.iload 5, 2) := by decide +kernel
theorem dL_arePeople_445 : decode cL_arePeople 445 = .ok (.if_icmp .ne 31, 3) := by decide +kernel
theorem dL_arePeople_448 : decode cL_arePeople 448 = .ok (.aload_n 0, 1) := by decide +kernel
theorem dL_arePeople_449 : decode cL_arePeople 449 = .ok (.iconst 1, 1) := by decide +kernel
theorem dL_arePeople_450 : decode cL_arePeople 450 = .ok (.invokevirtual 38, 3) := by decide +kernel
theorem dL_arePeople_453 : decode cL_arePeople 453 = .ok (.iload 5, 2) := by decide +kernel
theorem dL_arePeople_455 : decode cL_arePeople 455 = .ok (.ifCond .ge 8, 3) := by decide +kernel
theorem dL_arePeople_458 : decode cL_arePeople 458 = .ok (.bipush (-6), 2) := by decide +kernel
theorem dL_arePeople_460 : decode cL_arePeople 460 = .ok (.goto 9, 3) := by decide +kernel
theorem dL_arePeople_463 : decode cL_arePeople 463 = .ok (.aload_n 0, 1) := by decide +kernel
theorem dL_arePeople_464 : decode cL_arePeople 464 = .ok (.iload 5, 2) := by decide +kernel
theorem dL_arePeople_466 : decode cL_arePeople 466 = .ok (.invokestatic 22, 3) := by decide +kernel
theorem dL_arePeople_469 : decode cL_arePeople 469 = .ok (.if_icmp .ne 7, 3) := by decide +kernel
theorem dL_arePeople_472 : decode cL_arePeople 472 = .ok (.iconst 1, 1) := by decide +kernel
theorem dL_arePeople_473 : decode cL_arePeople 473 = .ok (.goto 4, 3) := by decide +kernel
theorem dL_arePeople_476 : decode cL_arePeople 476 = .ok (.iconst 0, 1) := by decide +kernel
theorem dL_arePeople_477 : decode cL_arePeople 477 = .ok (.ireturn, 1) := by decide +kernel
theorem dL_acts_0 : decode cL_acts 0 = .ok (.aload_n 0, 1) := by decide +kernel
theorem dL_acts_1 : decode cL_acts 1 = .ok (.iconst 1, 1) := by decide +kernel
theorem dL_acts_2 : decode cL_acts 2 = .ok (.invokevirtual 18, 3) := by decide +kernel
theorem dL_acts_5 : decode cL_acts 5 = .ok (.istore_n 2, 1) := by decide +kernel
theorem dL_acts_6 : decode cL_acts 6 = .ok (.iload_n 2, 1) := by decide +kernel
theorem dL_acts_7 : decode cL_acts 7 = .ok (.ifCond .ne 7, 3) := by decide +kernel
theorem dL_acts_10 : decode cL_acts 10 = .ok (.iconst 0, 1) := by decide +kernel
theorem dL_acts_11 : decode cL_acts 11 = .ok (.goto 8, 3) := by decide +kernel
theorem dL_acts_14 : decode cL_acts 14 = .ok (.iload_n 1, 1) := by decide +kernel
theorem dL_acts_15 : decode cL_acts 15 = .ok (.iconst 4, 1) := by decide +kernel
theorem dL_acts_16 : decode cL_acts 16 = .ok (.ishr, 1) := by decide +kernel
theorem dL_acts_17 : decode cL_acts 17 = .ok (.iload_n 2, 1) := by decide +kernel
theorem dL_acts_18 : decode cL_acts 18 = .ok (.irem, 1) := by decide +kernel
theorem dL_acts_19 : decode cL_acts 19 = .ok (.istore_n 3, 1) := by decide +kernel
theorem dL_acts_20 : decode cL_acts 20 = .ok (.iload_n 1, 1) := by decide +kernel
theorem dL_acts_21 : decode cL_acts 21 = .ok (.bipush 8, 2) := by decide +kernel
theorem dL_acts_23 : decode cL_acts 23 = .ok (.ishr, 1) := by decide +kernel
theorem dL_acts_24 : decode cL_acts 24 = .ok (.iconst 3, 1) := by decide +kernel
theorem dL_acts_25 : decode cL_acts 25 = .ok (.irem, 1) := by decide +kernel
theorem dL_acts_26 : decode cL_acts 26 = .ok (.istore 4, 2) := by decide +kernel
theorem dL_acts_28 : decode cL_acts 28 = .ok (.iload_n 1, 1) := by decide +kernel
theorem dL_acts_29 : decode cL_acts 29 = .ok (.bipush 10, 2) := by decide +kernel
theorem dL_acts_31 : decode cL_acts 31 = .ok (.ishr, 1) := by decide +kernel
theorem dL_acts_32 : decode cL_acts 32 = .ok (.iconst 5, 1) := by decide +kernel
theorem dL_acts_33 : decode cL_acts 33 = .ok (.irem, 1) := by decide +kernel
theorem dL_acts_34 : decode cL_acts 34 = .ok (.istore 5, 2) := by decide +kernel
theorem dL_acts_36 : decode cL_acts 36 = .ok (.aload_n 0, 1) := by decide +kernel
theorem dL_acts_37 : decode cL_acts 37 = .ok (.iload_n 3, 1) := by decide +kernel
theorem dL_acts_38 : decode cL_acts 38 = .ok (.iconst 0, 1) := by decide +kernel
theorem dL_acts_39 : decode cL_acts 39 = .ok (.invokevirtual 9, 3) := by decide +kernel
theorem dL_acts_42 : decode cL_acts 42 = .ok (.istore 6, 2) := by decide +kernel
theorem dL_acts_44 : decode cL_acts 44 = .ok (.aload_n 0, 1) := by decide +kernel
theorem dL_acts_45 : decode cL_acts 45 = .ok (.iconst 2, 1) := by decide +kernel
theorem dL_acts_46 : decode cL_acts 46 = .ok (.invokevirtual 18, 3) := by decide +kernel
theorem dL_acts_49 : decode cL_acts 49 = .ok (.iconst 1, 1) := by decide +kernel
theorem dL_acts_50 : decode cL_acts 50 = .ok (.if_icmp .ne 7, 3) := by decide +kernel
theorem dL_acts_53 : decode cL_acts 53 = .ok (.iconst 1, 1) := by decide +kernel
theorem dL_acts_54 : decode cL_acts 54 = .ok (.goto 4, 3) := by decide +kernel
theorem dL_acts_57 : decode cL_acts 57 = .ok (.iconst 0, 1) := by decide +kernel
theorem dL_acts_58 : decode cL_acts 58 = .ok (.istore 7, 2) := by decide +kernel
theorem dL_acts_60 : decode cL_acts 60 = .ok (.iload_n 1, 1) := by decide +kernel
theorem dL_acts_61 : decode cL_acts 61 = .ok (.bipush 12, 2) := by decide +kernel
theorem dL_acts_63 : decode cL_acts 63 = .ok (.irem, 1) := by decide +kernel
theorem dL_acts_64 : decode cL_acts 64 = .ok (.tableswitch 964 0 10 #[60, 121, 190, 190, 190, 312, 433, 506, 506, 691, 842], 60) := by decide +kernel
theorem dL_acts_124 : decode cL_acts 124 = .ok (.aload_n 0, 1) := by decide +kernel
theorem dL_acts_125 : decode cL_acts 125 = .ok (.invokevirtual 41, 3) := by decide +kernel
theorem dL_acts_128 : decode cL_acts 128 = .ok (.istore 8, 2) := by decide +kernel
theorem dL_acts_130 : decode cL_acts 130 = .ok (.iload_n 2, 1) := by decide +kernel
theorem dL_acts_131 : decode cL_acts 131 = .ok (.bipush 14, 2) := by decide +kernel
theorem dL_acts_133 : decode cL_acts 133 = .ok (.if_icmp .ne 18, 3) := by decide +kernel
theorem dL_acts_136 : decode cL_acts 136 = .ok (.iload 8, 2) := by decide +kernel
theorem dL_acts_138 : decode cL_acts 138 = .ok (.bipush (-4), 2) := by decide +kernel
theorem dL_acts_140 : decode cL_acts 140 = .ok (.if_icmp .ne 7, 3) := by decide +kernel
theorem dL_acts_143 : decode cL_acts 143 = .ok (.iconst 1, 1) := by decide +kernel
theorem dL_acts_144 : decode cL_acts 144 = .ok (.goto 40, 3) := by decide +kernel
theorem dL_acts_147 : decode cL_acts 147 = .ok (.iconst 0, 1) := by decide +kernel
theorem dL_acts_148 : decode cL_acts 148 = .ok (.goto 36, 3) := by decide +kernel
theorem dL_acts_151 : decode cL_acts 151 = .ok (.iload 8, 2) := by decide +kernel
theorem dL_acts_153 : decode cL_acts 153 = .ok (.iload_n 2, 1) := by decide +kernel
theorem dL_acts_154 : decode cL_acts 154 = .ok (.if_icmp .ne 29, 3) := by decide +kernel
theorem dL_acts_157 : decode cL_acts 157 = .ok (.aload_n 0, 1) := by decide +kernel
theorem dL_acts_158 : decode cL_acts 158 = .ok (.iload 8, 2) := by decide +kernel
theorem dL_acts_160 : decode cL_acts 160 = .ok (.iconst 0, 1) := by decide +kernel
theorem dL_acts_161 : decode cL_acts 161 = .ok (.invokevirtual 9, 3) := by decide +kernel
theorem dL_acts_164 : decode cL_acts 164 = .ok (.iconst 5, 1) := by decide +kernel
theorem dL_acts_165 : decode cL_acts 165 = .ok (.if_icmp .ne 18, 3) := by decide +kernel
theorem dL_acts_168 : decode cL_acts 168 = .ok (.aload_n 0, 1) := by decide +kernel
theorem dL_acts_169 : decode cL_acts 169 = .ok (.iconst 1, 1) := by decide +kernel
theorem dL_acts_170 : decode cL_acts 170 = .ok (.invokevirtual 18, 3) := by decide +kernel
theorem dL_acts_173 : decode cL_acts 173 = .ok (.iload_n 2, 1) := by decide +kernel
theorem dL_acts_174 : decode cL_acts 174 = .ok (.iconst 1, 1) := by decide +kernel
theorem dL_acts_175 : decode cL_acts 175 = .ok (.iadd, 1) := by decide +kernel
theorem dL_acts_176 : decode cL_acts 176 = .ok (.if_icmp .ne 7, 3) := by decide +kernel
theorem dL_acts_179 : decode cL_acts 179 = .ok (.iconst 1, 1) := by decide +kernel
theorem dL_acts_180 : decode cL_acts 180 = .ok (.goto 4, 3) := by decide +kernel
theorem dL_acts_183 : decode cL_acts 183 = .ok (.iconst 0, 1) := by decide +kernel
theorem dL_acts_184 : decode cL_acts 184 = .ok (.ireturn, 1) := by decide +kernel
theorem dL_acts_185 : decode cL_acts 185 = .ok (.iconst 1, 1) := by decide +kernel
theorem dL_acts_186 : decode cL_acts 186 = .ok (.iload_n 1, 1) := by decide +kernel
theorem dL_acts_187 : decode cL_acts 187 = .ok (.bipush 8, 2) := by decide +kernel
theorem dL_acts_189 : decode cL_acts 189 = .ok (.ishr, 1) := by decide +kernel
theorem dL_acts_190 : decode cL_acts 190 = .ok (.bipush 30, 2) := by decide +kernel
theorem dL_acts_192 : decode cL_acts 192 = .ok (.irem, 1) := by decide +kernel
theorem dL_acts_193 : decode cL_acts 193 = .ok (.iadd, 1) := by decide +kernel
theorem dL_acts_194 : decode cL_acts 194 = .ok (.istore 9, 2) := by decide +kernel
theorem dL_acts_196 : decode cL_acts 196 = .ok (.aload_n 0, 1) := by decide +kernel
theorem dL_acts_197 : decode cL_acts 197 = .ok (.iload_n 3, 1) := by decide +kernel
theorem dL_acts_198 : decode cL_acts 198 = .ok (.iload 9, 2) := by decide +kernel
theorem dL_acts_200 : decode cL_acts 200 = .ok (.invokevirtual 45, 3) := by decide +kernel
theorem dL_acts_203 : decode cL_acts 203 = .ok (.istore 10, 2) := by decide +kernel
theorem dL_acts_205 : decode cL_acts 205 = .ok (.iload_n 2, 1) := by decide +kernel
theorem dL_acts_206 : decode cL_acts 206 = .ok (.ifCond .ne 17, 3) := by decide +kernel
theorem dL_acts_209 : decode cL_acts 209 = .ok (.iload 10, 2) := by decide +kernel
theorem dL_acts_211 : decode cL_acts 211 = .ok (.iconst (-1), 1) := by decide +kernel
theorem dL_acts_212 : decode cL_acts 212 = .ok (.if_icmp .ne 7, 3) := by decide +kernel
theorem dL_acts_215 : decode cL_acts 215 = .ok (.iconst 1, 1) := by decide +kernel
theorem dL_acts_216 : decode cL_acts 216 = .ok (.goto 37, 3) := by decide +kernel
theorem dL_acts_219 : decode cL_acts 219 = .ok (.iconst 0, 1) := by decide +kernel
theorem dL_acts_220 : decode cL_acts 220 = .ok (.goto 33, 3) := by decide +kernel
theorem dL_acts_223 : decode cL_acts 223 = .ok (.iload 10, 2) := by decide +kernel
theorem dL_acts_225 : decode cL_acts 225 = .ok (.iload 6, 2) := by decide +kernel
theorem dL_acts_227 : decode cL_acts 227 = .ok (.iload 9, 2) := by decide +kernel
theorem dL_acts_229 : decode cL_acts 229 = .ok (.iadd, 1) := by decide +kernel
theorem dL_acts_230 : decode cL_acts 230 = .ok (.bipush 30, 2) := by decide +kernel
theorem dL_acts_232 : decode cL_acts 232 = .ok (.if_icmp .le 8, 3) := by decide +kernel
theorem dL_acts_235 : decode cL_acts 235 = .ok (.bipush 30, 2) := by decide +kernel
theorem dL_acts_237 : decode cL_acts 237 = .ok (.goto 8, 3) := by decide +kernel
theorem dL_acts_240 : decode cL_acts 240 = .ok (.iload 6, 2) := by decide +kernel
theorem dL_acts_242 : decode cL_acts 242 = .ok (.iload 9, 2) := by decide +kernel
theorem dL_acts_244 : decode cL_acts 244 = .ok (.iadd, 1) := by decide +kernel
theorem dL_acts_245 : decode cL_acts 245 = .ok (.if_icmp .ne 7, 3) := by decide +kernel
theorem dL_acts_248 : decode cL_acts 248 = .ok (.iconst 1, 1) := by decide +kernel
theorem dL_acts_249 : decode cL_acts 249 = .ok (.goto 4, 3) := by decide +kernel
theorem dL_acts_252 : decode cL_acts 252 = .ok (.iconst 0, 1) := by decide +kernel
theorem dL_acts_253 : decode cL_acts 253 = .ok (.ireturn, 1) := by decide +kernel
theorem dL_acts_254 : decode cL_acts 254 = .ok (.aload_n 0, 1) := by decide +kernel
theorem dL_acts_255 : decode cL_acts 255 = .ok (.iload_n 3, 1) := by decide +kernel
theorem dL_acts_256 : decode cL_acts 256 = .ok (.iload 5, 2) := by decide +kernel
theorem dL_acts_258 : decode cL_acts 258 = .ok (.iload 4, 2) := by decide +kernel
theorem dL_acts_260 : decode cL_acts 260 = .ok (.invokevirtual 31, 3) := by decide +kernel
theorem dL_acts_263 : decode cL_acts 263 = .ok (.istore 11, 2) := by decide +kernel
theorem dL_acts_265 : decode cL_acts 265 = .ok (.iload 6, 2) := by decide +kernel
theorem dL_acts_267 : decode cL_acts 267 = .ok (.aload_n 0, 1) := by decide +kernel
theorem dL_acts_268 : decode cL_acts 268 = .ok (.iload_n 3, 1) := by decide +kernel
theorem dL_acts_269 : decode cL_acts 269 = .ok (.iload 5, 2) := by decide +kernel
theorem dL_acts_271 : decode cL_acts 271 = .ok (.iload 4, 2) := by decide +kernel
theorem dL_acts_273 : decode cL_acts 273 = .ok (.invokevirtual 48, 3) := by decide +kernel
theorem dL_acts_276 : decode cL_acts 276 = .ok (.isub, 1) := by decide +kernel
theorem dL_acts_277 : decode cL_acts 277 = .ok (.istore 12, 2) := by decide +kernel
theorem dL_acts_279 : decode cL_acts 279 = .ok (.iload_n 2, 1) := by decide +kernel
theorem dL_acts_280 : decode cL_acts 280 = .ok (.ifCond .ne 28, 3) := by decide +kernel
theorem dL_acts_283 : decode cL_acts 283 = .ok (.iload 11, 2) := by decide +kernel
theorem dL_acts_285 : decode cL_acts 285 = .ok (.iconst (-1), 1) := by decide +kernel
theorem dL_acts_286 : decode cL_acts 286 = .ok (.if_icmp .ne 18, 3) := by decide +kernel
theorem dL_acts_289 : decode cL_acts 289 = .ok (.aload_n 0, 1) := by decide +kernel
theorem dL_acts_290 : decode cL_acts 290 = .ok (.iconst 0, 1) := by decide +kernel
theorem dL_acts_291 : decode cL_acts 291 = .ok (.iconst 0, 1) := by decide +kernel
theorem dL_acts_292 : decode cL_acts 292 = .ok (.iconst 0, 1) := by decide +kernel
theorem dL_acts_293 : decode cL_acts 293 = .ok (.invokevirtual 48, 3) := by decide +kernel
theorem dL_acts_296 : decode cL_acts 296 = .ok (.iconst (-1), 1) := by decide +kernel
theorem dL_acts_297 : decode cL_acts 297 = .ok (.if_icmp .ne 7, 3) := by decide +kernel
theorem dL_acts_300 : decode cL_acts 300 = .ok (.iconst 1, 1) := by decide +kernel
theorem dL_acts_301 : decode cL_acts 301 = .ok (.goto 74, 3) := by decide +kernel
theorem dL_acts_304 : decode cL_acts 304 = .ok (.iconst 0, 1) := by decide +kernel
theorem dL_acts_305 : decode cL_acts 305 = .ok (.goto 70, 3) := by decide +kernel
theorem dL_acts_308 : decode cL_acts 308 = .ok (.iload 11, 2) := by decide +kernel
theorem dL_acts_310 : decode cL_acts 310 = .ok (.ifCond .le 20, 3) := by decide +kernel
theorem dL_acts_313 : decode cL_acts 313 = .ok (.iload 12, 2) := by decide +kernel
theorem dL_acts_315 : decode cL_acts 315 = .ok (.iload 6, 2) := by decide +kernel
theorem dL_acts_317 : decode cL_acts 317 = .ok (.iconst 5, 1) := by decide +kernel
theorem dL_acts_318 : decode cL_acts 318 = .ok (.iadd, 1) := by decide +kernel
theorem dL_acts_319 : decode cL_acts 319 = .ok (.if_icmp .ne 7, 3) := by decide +kernel
theorem dL_acts_322 : decode cL_acts 322 = .ok (.iconst 1, 1) := by decide +kernel
theorem dL_acts_323 : decode cL_acts 323 = .ok (.goto 52, 3) := by decide +kernel
theorem dL_acts_326 : decode cL_acts 326 = .ok (.iconst 0, 1) := by decide +kernel
theorem dL_acts_327 : decode cL_acts 327 = .ok (.goto 48, 3) := by decide +kernel
theorem dL_acts_330 : decode cL_acts 330 = .ok (.iload 12, 2) := by decide +kernel
theorem dL_acts_332 : decode cL_acts 332 = .ok (.iconst 1, 1) := by decide +kernel
theorem dL_acts_333 : decode cL_acts 333 = .ok (.if_icmp .lt 41, 3) := by decide +kernel
theorem dL_acts_336 : decode cL_acts 336 = .ok (.iload 12, 2) := by decide +kernel
theorem dL_acts_338 : decode cL_acts 338 = .ok (.iconst 3, 1) := by decide +kernel
theorem dL_acts_339 : decode cL_acts 339 = .ok (.if_icmp .gt 35, 3) := by decide +kernel
theorem dL_acts_342 : decode cL_acts 342 = .ok (.aload_n 0, 1) := by decide +kernel
theorem dL_acts_343 : decode cL_acts 343 = .ok (.iload 5, 2) := by decide +kernel
theorem dL_acts_345 : decode cL_acts 345 = .ok (.iload 4, 2) := by decide +kernel
theorem dL_acts_347 : decode cL_acts 347 = .ok (.invokevirtual 15, 3) := by decide +kernel
theorem dL_acts_350 : decode cL_acts 350 = .ok (.iload_n 3, 1) := by decide +kernel
theorem dL_acts_351 : decode cL_acts 351 = .ok (.ishr, 1) := by decide +kernel
theorem dL_acts_352 : decode cL_acts 352 = .ok (.iconst 1, 1) := by decide +kernel
theorem dL_acts_353 : decode cL_acts 353 = .ok (.iand, 1) := by decide +kernel
theorem dL_acts_354 : decode cL_acts 354 = .ok (.iconst 1, 1) := by decide +kernel
theorem dL_acts_355 : decode cL_acts 355 = .ok (.if_icmp .ne 19, 3) := by decide +kernel
theorem dL_acts_358 : decode cL_acts 358 = .ok (.aload_n 0, 1) := by decide +kernel
theorem dL_acts_359 : decode cL_acts 359 = .ok (.iload_n 3, 1) := by decide +kernel
theorem dL_acts_360 : decode cL_acts 360 = .ok (.iload 5, 2) := by decide +kernel
theorem dL_acts_362 : decode cL_acts 362 = .ok (.iconst 0, 1) := by decide +kernel
theorem dL_acts_363 : decode cL_acts 363 = .ok (.invokevirtual 31, 3) := by decide +kernel
theorem dL_acts_366 : decode cL_acts 366 = .ok (.iconst 3, 1) := by decide +kernel
theorem dL_acts_367 : decode cL_acts 367 = .ok (.if_icmp .ne 7, 3) := by decide +kernel
theorem dL_acts_370 : decode cL_acts 370 = .ok (.iconst 1, 1) := by decide +kernel
theorem dL_acts_371 : decode cL_acts 371 = .ok (.goto 4, 3) := by decide +kernel
theorem dL_acts_374 : decode cL_acts 374 = .ok (.iconst 0, 1) := by decide +kernel
theorem dL_acts_375 : decode cL_acts 375 = .ok (.ireturn, 1) := by decide +kernel
theorem dL_acts_376 : decode cL_acts 376 = .ok (.iload_n 2, 1) := by decide +kernel
theorem dL_acts_377 : decode cL_acts 377 = .ok (.ifCond .le 26, 3) := by decide +kernel
theorem dL_acts_380 : decode cL_acts 380 = .ok (.aload_n 0, 1) := by decide +kernel
theorem dL_acts_381 : decode cL_acts 381 = .ok (.iload_n 3, 1) := by decide +kernel
theorem dL_acts_382 : decode cL_acts 382 = .ok (.iconst 2, 1) := by decide +kernel
theorem dL_acts_383 : decode cL_acts 383 = .ok (.invokevirtual 9, 3) := by decide +kernel
theorem dL_acts_386 : decode cL_acts 386 = .ok (.iconst 1, 1) := by decide +kernel
theorem dL_acts_387 : decode cL_acts 387 = .ok (.iload 5, 2) := by decide +kernel
theorem dL_acts_389 : decode cL_acts 389 = .ok (.iconst 4, 1) := by decide +kernel
theorem dL_acts_390 : decode cL_acts 390 = .ok (.irem, 1) := by decide +kernel
theorem dL_acts_391 : decode cL_acts 391 = .ok (.iadd, 1) := by decide +kernel
theorem dL_acts_392 : decode cL_acts 392 = .ok (.ishr, 1) := by decide +kernel
theorem dL_acts_393 : decode cL_acts 393 = .ok (.iconst 1, 1) := by decide +kernel
theorem dL_acts_394 : decode cL_acts 394 = .ok (.iand, 1) := by decide +kernel
theorem dL_acts_395 : decode cL_acts 395 = .ok (.iconst 1, 1) := by decide +kernel
theorem dL_acts_396 : decode cL_acts 396 = .ok (.if_icmp .ne 7, 3) := by decide +kernel
theorem dL_acts_399 : decode cL_acts 399 = .ok (.iconst 1, 1) := by decide +kernel
theorem dL_acts_400 : decode cL_acts 400 = .ok (.goto 4, 3) := by decide +kernel
theorem dL_acts_403 : decode cL_acts 403 = .ok (.iconst 0, 1) := by decide +kernel
theorem dL_acts_404 : decode cL_acts 404 = .ok (.istore 13, 2) := by decide +kernel
theorem dL_acts_406 : decode cL_acts 406 = .ok (.aload_n 0, 1) := by decide +kernel
theorem dL_acts_407 : decode cL_acts 407 = .ok (.iload_n 3, 1) := by decide +kernel
theorem dL_acts_408 : decode cL_acts 408 = .ok (.iconst 1, 1) := by decide +kernel
theorem dL_acts_409 : decode cL_acts 409 = .ok (.iload 5, 2) := by decide +kernel
theorem dL_acts_411 : decode cL_acts 411 = .ok (.iconst 4, 1) := by decide +kernel
theorem dL_acts_412 : decode cL_acts 412 = .ok (.irem, 1) := by decide +kernel
theorem dL_acts_413 : decode cL_acts 413 = .ok (.iadd, 1) := by decide +kernel
theorem dL_acts_414 : decode cL_acts 414 = .ok (.invokevirtual 51, 3) := by decide +kernel
theorem dL_acts_417 : decode cL_acts 417 = .ok (.istore 14, 2) := by decide +kernel
theorem dL_acts_419 : decode cL_acts 419 = .ok (.iload_n 2, 1) := by decide +kernel
theorem dL_acts_420 : decode cL_acts 420 = .ok (.ifCond .ne 17, 3) := by decide +kernel
theorem dL_acts_423 : decode cL_acts 423 = .ok (.iload 14, 2) := by decide +kernel
theorem dL_acts_425 : decode cL_acts 425 = .ok (.iconst (-1), 1) := by decide +kernel
theorem dL_acts_426 : decode cL_acts 426 = .ok (.if_icmp .ne 7, 3) := by decide +kernel
theorem dL_acts_429 : decode cL_acts 429 = .ok (.iconst 1, 1) := by decide +kernel
theorem dL_acts_430 : decode cL_acts 430 = .ok (.goto 66, 3) := by decide +kernel
theorem dL_acts_433 : decode cL_acts 433 = .ok (.iconst 0, 1) := by decide +kernel
theorem dL_acts_434 : decode cL_acts 434 = .ok (.goto 62, 3) := by decide +kernel
theorem dL_acts_437 : decode cL_acts 437 = .ok (.iload 13, 2) := by decide +kernel
theorem dL_acts_439 : decode cL_acts 439 = .ok (.ifCond .ne 18, 3) := by decide +kernel
theorem dL_acts_442 : decode cL_acts 442 = .ok (.iload 14, 2) := by decide +kernel
theorem dL_acts_444 : decode cL_acts 444 = .ok (.bipush (-5), 2) := by decide +kernel
theorem dL_acts_446 : decode cL_acts 446 = .ok (.if_icmp .ne 7, 3) := by decide +kernel
theorem dL_acts_449 : decode cL_acts 449 = .ok (.iconst 1, 1) := by decide +kernel
theorem dL_acts_450 : decode cL_acts 450 = .ok (.goto 46, 3) := by decide +kernel
theorem dL_acts_453 : decode cL_acts 453 = .ok (.iconst 0, 1) := by decide +kernel
theorem dL_acts_454 : decode cL_acts 454 = .ok (.goto 42, 3) := by decide +kernel
theorem dL_acts_457 : decode cL_acts 457 = .ok (.iload 14, 2) := by decide +kernel
theorem dL_acts_459 : decode cL_acts 459 = .ok (.iload 6, 2) := by decide +kernel
theorem dL_acts_461 : decode cL_acts 461 = .ok (.if_icmp .lt 34, 3) := by decide +kernel
theorem dL_acts_464 : decode cL_acts 464 = .ok (.iload 14, 2) := by decide +kernel
theorem dL_acts_466 : decode cL_acts 466 = .ok (.iload 6, 2) := by decide +kernel
theorem dL_acts_468 : decode cL_acts 468 = .ok (.iconst 3, 1) := by decide +kernel
theorem dL_acts_469 : decode cL_acts 469 = .ok (.iadd, 1) := by decide +kernel
theorem dL_acts_470 : decode cL_acts 470 = .ok (.if_icmp .gt 25, 3) := by decide +kernel
theorem dL_acts_473 : decode cL_acts 473 = .ok (.aload_n 0, 1) := by decide +kernel
theorem dL_acts_474 : decode cL_acts 474 = .ok (.iload_n 3, 1) := by decide +kernel
theorem dL_acts_475 : decode cL_acts 475 = .ok (.iconst 2, 1) := by decide +kernel
theorem dL_acts_476 : decode cL_acts 476 = .ok (.invokevirtual 9, 3) := by decide +kernel
theorem dL_acts_479 : decode cL_acts 479 = .ok (.iconst 1, 1) := by decide +kernel
theorem dL_acts_480 : decode cL_acts 480 = .ok (.iload 5, 2) := by decide +kernel
theorem dL_acts_482 : decode cL_acts 482 = .ok (.iconst 4, 1) := by decide +kernel
theorem dL_acts_483 : decode cL_acts 483 = .ok (.irem, 1) := by decide +kernel
theorem dL_acts_484 : decode cL_acts 484 = .ok (.iadd, 1) := by decide +kernel
theorem dL_acts_485 : decode cL_acts 485 = .ok (.ishr, 1) := by decide +kernel
theorem dL_acts_486 : decode cL_acts 486 = .ok (.iconst 1, 1) := by decide +kernel
theorem dL_acts_487 : decode cL_acts 487 = .ok (.iand, 1) := by decide +kernel
theorem dL_acts_488 : decode cL_acts 488 = .ok (.ifCond .ne 7, 3) := by decide +kernel
theorem dL_acts_491 : decode cL_acts 491 = .ok (.iconst 1, 1) := by decide +kernel
theorem dL_acts_492 : decode cL_acts 492 = .ok (.goto 4, 3) := by decide +kernel
theorem dL_acts_495 : decode cL_acts 495 = .ok (.iconst 0, 1) := by decide +kernel
theorem dL_acts_496 : decode cL_acts 496 = .ok (.ireturn, 1) := by decide +kernel
theorem dL_acts_497 : decode cL_acts 497 = .ok (.aload_n 0, 1) := by decide +kernel
theorem dL_acts_498 : decode cL_acts 498 = .ok (.iconst 0, 1) := by decide +kernel
theorem dL_acts_499 : decode cL_acts 499 = .ok (.bipush 7, 2) := by decide +kernel
theorem dL_acts_501 : decode cL_acts 501 = .ok (.invokevirtual 28, 3) := by decide +kernel
theorem dL_acts_504 : decode cL_acts 504 = .ok (.aload_n 0, 1) := by decide +kernel
theorem dL_acts_505 : decode cL_acts 505 = .ok (.iconst 1, 1) := by decide +kernel
theorem dL_acts_506 : decode cL_acts 506 = .ok (.bipush 7, 2) := by decide +kernel
theorem dL_acts_508 : decode cL_acts 508 = .ok (.invokevirtual 28, 3) := by decide +kernel
theorem dL_acts_511 : decode cL_acts 511 = .ok (.iadd, 1) := by decide +kernel
theorem dL_acts_512 : decode cL_acts 512 = .ok (.aload_n 0, 1) := by decide +kernel
theorem dL_acts_513 : decode cL_acts 513 = .ok (.iconst 2, 1) := by decide +kernel
theorem dL_acts_514 : decode cL_acts 514 = .ok (.bipush 7, 2) := by decide +kernel
theorem dL_acts_516 : decode cL_acts 516 = .ok (.invokevirtual 28, 3) := by decide +kernel
theorem dL_acts_519 : decode cL_acts 519 = .ok (.iadd, 1) := by decide +kernel
theorem dL_acts_520 : decode cL_acts 520 = .ok (.istore 15, 2) := by decide +kernel
theorem dL_acts_522 : decode cL_acts 522 = .ok (.aload_n 0, 1) := by decide +kernel
theorem dL_acts_523 : decode cL_acts 523 = .ok (.invokevirtual 54, 3) := by decide +kernel
theorem dL_acts_526 : decode cL_acts 526 = .ok (.istore 16, 2) := by decide +kernel
theorem dL_acts_528 : decode cL_acts 528 = .ok (.iload 7, 2) := by decide +kernel
theorem dL_acts_530 : decode cL_acts 530 = .ok (.ifCond .eq 18, 3) := by decide +kernel
theorem dL_acts_533 : decode cL_acts 533 = .ok (.iload 16, 2) := by decide +kernel
theorem dL_acts_535 : decode cL_acts 535 = .ok (.bipush (-5), 2) := by decide +kernel
theorem dL_acts_537 : decode cL_acts 537 = .ok (.if_icmp .ne 7, 3) := by decide +kernel
theorem dL_acts_540 : decode cL_acts 540 = .ok (.iconst 1, 1) := by decide +kernel
theorem dL_acts_541 : decode cL_acts 541 = .ok (.goto 28, 3) := by decide +kernel
theorem dL_acts_544 : decode cL_acts 544 = .ok (.iconst 0, 1) := by decide +kernel
theorem dL_acts_545 : decode cL_acts 545 = .ok (.goto 24, 3) := by decide +kernel
theorem dL_acts_548 : decode cL_acts 548 = .ok (.iload 16, 2) := by decide +kernel
theorem dL_acts_550 : decode cL_acts 550 = .ok (.iload 15, 2) := by decide +kernel
theorem dL_acts_552 : decode cL_acts 552 = .ok (.if_icmp .ne 16, 3) := by decide +kernel
theorem dL_acts_555 : decode cL_acts 555 = .ok (.aload_n 0, 1) := by decide +kernel
theorem dL_acts_556 : decode cL_acts 556 = .ok (.iconst 2, 1) := by decide +kernel
theorem dL_acts_557 : decode cL_acts 557 = .ok (.invokevirtual 18, 3) := by decide +kernel
theorem dL_acts_560 : decode cL_acts 560 = .ok (.iconst 1, 1) := by decide +kernel
theorem dL_acts_561 : decode cL_acts 561 = .ok (.if_icmp .ne 7, 3) := by decide +kernel
theorem dL_acts_564 : decode cL_acts 564 = .ok (.iconst 1, 1) := by decide +kernel
theorem dL_acts_565 : decode cL_acts 565 = .ok (.goto 4, 3) := by decide +kernel
theorem dL_acts_568 : decode cL_acts 568 = .ok (.iconst 0, 1) := by decide +kernel
theorem dL_acts_569 : decode cL_acts 569 = .ok (.ireturn, 1) := by decide +kernel
theorem dL_acts_570 : decode cL_acts 570 = .ok (.aload_n 0, 1) := by decide +kernel
theorem dL_acts_571 : decode cL_acts 571 = .ok (.iload_n 3, 1) := by decide +kernel
theorem dL_acts_572 : decode cL_acts 572 = .ok (.iconst 1, 1) := by decide +kernel
theorem dL_acts_573 : decode cL_acts 573 = .ok (.invokevirtual 9, 3) := by decide +kernel
theorem dL_acts_576 : decode cL_acts 576 = .ok (.istore 17, 2) := by decide +kernel
theorem dL_acts_578 : decode cL_acts 578 = .ok (.iload 7, 2) := by decide +kernel
theorem dL_acts_580 : decode cL_acts 580 = .ok (.ifCond .eq 22, 3) := by decide +kernel
theorem dL_acts_583 : decode cL_acts 583 = .ok (.iload 17, 2) := by decide +kernel
theorem dL_acts_585 : decode cL_acts 585 = .ok (.ifCond .lt 17, 3) := by decide +kernel
theorem dL_acts_588 : decode cL_acts 588 = .ok (.aload_n 0, 1) := by decide +kernel
theorem dL_acts_589 : decode cL_acts 589 = .ok (.iload_n 3, 1) := by decide +kernel
theorem dL_acts_590 : decode cL_acts 590 = .ok (.bipush 7, 2) := by decide +kernel
theorem dL_acts_592 : decode cL_acts 592 = .ok (.invokevirtual 9, 3) := by decide +kernel
theorem dL_acts_595 : decode cL_acts 595 = .ok (.ifCond .ne 7, 3) := by decide +kernel
theorem dL_acts_598 : decode cL_acts 598 = .ok (.iconst 1, 1) := by decide +kernel
theorem dL_acts_599 : decode cL_acts 599 = .ok (.goto 4, 3) := by decide +kernel
theorem dL_acts_602 : decode cL_acts 602 = .ok (.iconst 0, 1) := by decide +kernel
theorem dL_acts_603 : decode cL_acts 603 = .ok (.istore 18, 2) := by decide +kernel
theorem dL_acts_605 : decode cL_acts 605 = .ok (.iload 17, 2) := by decide +kernel
theorem dL_acts_607 : decode cL_acts 607 = .ok (.ifCond .ge 7, 3) := by decide +kernel
theorem dL_acts_610 : decode cL_acts 610 = .ok (.iconst 0, 1) := by decide +kernel
theorem dL_acts_611 : decode cL_acts 611 = .ok (.goto 18, 3) := by decide +kernel
theorem dL_acts_614 : decode cL_acts 614 = .ok (.aload_n 0, 1) := by decide +kernel
theorem dL_acts_615 : decode cL_acts 615 = .ok (.iload 17, 2) := by decide +kernel
theorem dL_acts_617 : decode cL_acts 617 = .ok (.iconst 0, 1) := by decide +kernel
theorem dL_acts_618 : decode cL_acts 618 = .ok (.invokevirtual 28, 3) := by decide +kernel
theorem dL_acts_621 : decode cL_acts 621 = .ok (.aload_n 0, 1) := by decide +kernel
theorem dL_acts_622 : decode cL_acts 622 = .ok (.iload 17, 2) := by decide +kernel
theorem dL_acts_624 : decode cL_acts 624 = .ok (.iconst 1, 1) := by decide +kernel
theorem dL_acts_625 : decode cL_acts 625 = .ok (.invokevirtual 28, 3) := by decide +kernel
theorem dL_acts_628 : decode cL_acts 628 = .ok (.iadd, 1) := by decide +kernel
theorem dL_acts_629 : decode cL_acts 629 = .ok (.istore 19, 2) := by decide +kernel
theorem dL_acts_631 : decode cL_acts 631 = .ok (.aload_n 0, 1) := by decide +kernel

theorem dX8_awaited_37 : decode cX8_awaited 37 = .ok (.ifCond .ne 7, 3) := by decide +kernel
theorem dX8_awaited_40 : decode cX8_awaited 40 = .ok (.iconst 1, 1) := by decide +kernel
theorem dX8_awaited_41 : decode cX8_awaited 41 = .ok (.goto 4, 3) := by decide +kernel
theorem dX8_awaited_44 : decode cX8_awaited 44 = .ok (.iconst 0, 1) := by decide +kernel
theorem dX8_awaited_45 : decode cX8_awaited 45 = .ok (.iadd, 1) := by decide +kernel
theorem dX8_awaited_46 : decode cX8_awaited 46 = .ok (.istore_n 2, 1) := by decide +kernel
theorem dX8_awaited_47 : decode cX8_awaited 47 = .ok (.iinc 3 1, 3) := by decide +kernel
theorem dX8_awaited_50 : decode cX8_awaited 50 = .ok (.goto (-46), 3) := by decide +kernel
theorem dX8_awaited_53 : decode cX8_awaited 53 = .ok (.iload_n 2, 1) := by decide +kernel
theorem dX8_awaited_54 : decode cX8_awaited 54 = .ok (.ireturn, 1) := by decide +kernel
theorem dX8_eats_0 : decode cX8_eats 0 = .ok (.aload_n 0, 1) := by decide +kernel
theorem dX8_eats_1 : decode cX8_eats 1 = .ok (.getfield 7, 3) := by decide +kernel
theorem dX8_eats_4 : decode cX8_eats 4 = .ok (.iload_n 2, 1) := by decide +kernel
theorem dX8_eats_5 : decode cX8_eats 5 = .ok (.invokestatic 51, 3) := by decide +kernel
theorem dX8_eats_8 : decode cX8_eats 8 = .ok (.iconst 0, 1) := by decide +kernel
theorem dX8_eats_9 : decode cX8_eats 9 = .ok (.iadd, 1) := by decide +kernel
theorem dX8_eats_10 : decode cX8_eats 10 = .ok (.iaload, 1) := by decide +kernel
theorem dX8_eats_11 : decode cX8_eats 11 = .ok (.ifCond .le 7, 3) := by decide +kernel
theorem dX8_eats_14 : decode cX8_eats 14 = .ok (.iconst 0, 1) := by decide +kernel
theorem dX8_eats_15 : decode cX8_eats 15 = .ok (.goto 4, 3) := by decide +kernel
theorem dX8_eats_18 : decode cX8_eats 18 = .ok (.iconst 1, 1) := by decide +kernel
theorem dX8_eats_19 : decode cX8_eats 19 = .ok (.istore_n 3, 1) := by decide +kernel
theorem dX8_eats_20 : decode cX8_eats 20 = .ok (.aload_n 0, 1) := by decide +kernel
theorem dX8_eats_21 : decode cX8_eats 21 = .ok (.getfield 7, 3) := by decide +kernel
theorem dX8_eats_24 : decode cX8_eats 24 = .ok (.iload_n 2, 1) := by decide +kernel
theorem dX8_eats_25 : decode cX8_eats 25 = .ok (.invokestatic 51, 3) := by decide +kernel
theorem dX8_eats_28 : decode cX8_eats 28 = .ok (.iload_n 3, 1) := by decide +kernel
theorem dX8_eats_29 : decode cX8_eats 29 = .ok (.iadd, 1) := by decide +kernel
theorem dX8_eats_30 : decode cX8_eats 30 = .ok (.dup2, 1) := by decide +kernel
theorem dX8_eats_31 : decode cX8_eats 31 = .ok (.iaload, 1) := by decide +kernel
theorem dX8_eats_32 : decode cX8_eats 32 = .ok (.iconst 1, 1) := by decide +kernel
theorem dX8_eats_33 : decode cX8_eats 33 = .ok (.isub, 1) := by decide +kernel
theorem dX8_eats_34 : decode cX8_eats 34 = .ok (.iastore, 1) := by decide +kernel
theorem dX8_eats_35 : decode cX8_eats 35 = .ok (.aload_n 0, 1) := by decide +kernel
theorem dX8_eats_36 : decode cX8_eats 36 = .ok (.getfield 7, 3) := by decide +kernel
theorem dX8_eats_39 : decode cX8_eats 39 = .ok (.iload_n 2, 1) := by decide +kernel
theorem dX8_eats_40 : decode cX8_eats 40 = .ok (.invokestatic 51, 3) := by decide +kernel
theorem dX8_eats_43 : decode cX8_eats 43 = .ok (.iconst 3, 1) := by decide +kernel
theorem dX8_eats_44 : decode cX8_eats 44 = .ok (.iadd, 1) := by decide +kernel
theorem dX8_eats_45 : decode cX8_eats 45 = .ok (.dup2, 1) := by decide +kernel
theorem dX8_eats_46 : decode cX8_eats 46 = .ok (.iaload, 1) := by decide +kernel
theorem dX8_eats_47 : decode cX8_eats 47 = .ok (.iconst 1, 1) := by decide +kernel
theorem dX8_eats_48 : decode cX8_eats 48 = .ok (.iadd, 1) := by decide +kernel
theorem dX8_eats_49 : decode cX8_eats 49 = .ok (.iastore, 1) := by decide +kernel
theorem dX8_eats_50 : decode cX8_eats 50 = .ok (.aload_n 0, 1) := by decide +kernel
theorem dX8_eats_51 : decode cX8_eats 51 = .ok (.getfield 7, 3) := by decide +kernel
theorem dX8_eats_54 : decode cX8_eats 54 = .ok (.iload_n 1, 1) := by decide +kernel
theorem dX8_eats_55 : decode cX8_eats 55 = .ok (.invokestatic 41, 3) := by decide +kernel
theorem dX8_eats_58 : decode cX8_eats 58 = .ok (.bipush 16, 2) := by decide +kernel
theorem dX8_eats_60 : decode cX8_eats 60 = .ok (.iadd, 1) := by decide +kernel
theorem dX8_eats_61 : decode cX8_eats 61 = .ok (.dup2, 1) := by decide +kernel
theorem dX8_eats_62 : decode cX8_eats 62 = .ok (.iaload, 1) := by decide +kernel
theorem dX8_eats_63 : decode cX8_eats 63 = .ok (.iconst 1, 1) := by decide +kernel
theorem dX8_eats_64 : decode cX8_eats 64 = .ok (.iadd, 1) := by decide +kernel
theorem dX8_eats_65 : decode cX8_eats 65 = .ok (.iastore, 1) := by decide +kernel
theorem dX8_eats_66 : decode cX8_eats 66 = .ok (.return_, 1) := by decide +kernel
theorem dX8_comesHere_0 : decode cX8_comesHere 0 = .ok (.aload_n 0, 1) := by decide +kernel
theorem dX8_comesHere_1 : decode cX8_comesHere 1 = .ok (.getfield 7, 3) := by decide +kernel
theorem dX8_comesHere_4 : decode cX8_comesHere 4 = .ok (.iconst 5, 1) := by decide +kernel
theorem dX8_comesHere_5 : decode cX8_comesHere 5 = .ok (.iaload, 1) := by decide +kernel
theorem dX8_comesHere_6 : decode cX8_comesHere 6 = .ok (.bipush 14, 2) := by decide +kernel
theorem dX8_comesHere_8 : decode cX8_comesHere 8 = .ok (.if_icmp .ne 6, 3) := by decide +kernel
theorem dX8_comesHere_11 : decode cX8_comesHere 11 = .ok (.bipush (-4), 2) := by decide +kernel
theorem dX8_comesHere_13 : decode cX8_comesHere 13 = .ok (.ireturn, 1) := by decide +kernel
theorem dX8_comesHere_14 : decode cX8_comesHere 14 = .ok (.aload_n 0, 1) := by decide +kernel
theorem dX8_comesHere_15 : decode cX8_comesHere 15 = .ok (.getfield 7, 3) := by decide +kernel
theorem dX8_comesHere_18 : decode cX8_comesHere 18 = .ok (.iconst 5, 1) := by decide +kernel
theorem dX8_comesHere_19 : decode cX8_comesHere 19 = .ok (.iaload, 1) := by decide +kernel
theorem dX8_comesHere_20 : decode cX8_comesHere 20 = .ok (.istore_n 1, 1) := by decide +kernel
theorem dX8_comesHere_21 : decode cX8_comesHere 21 = .ok (.iconst 0, 1) := by decide +kernel
theorem dX8_comesHere_22 : decode cX8_comesHere 22 = .ok (.istore_n 2, 1) := by decide +kernel
theorem dX8_comesHere_23 : decode cX8_comesHere 23 = .ok (.iload_n 2, 1) := by decide +kernel
theorem dX8_comesHere_24 : decode cX8_comesHere 24 = .ok (.bipush 17, 2) := by decide +kernel
theorem dX8_comesHere_26 : decode cX8_comesHere 26 = .ok (.if_icmp .ge 21, 3) := by decide +kernel
theorem dX8_comesHere_29 : decode cX8_comesHere 29 = .ok (.aload_n 0, 1) := by decide +kernel
theorem dX8_comesHere_30 : decode cX8_comesHere 30 = .ok (.getfield 7, 3) := by decide +kernel
theorem dX8_comesHere_33 : decode cX8_comesHere 33 = .ok (.iload_n 1, 1) := by decide +kernel
theorem dX8_comesHere_34 : decode cX8_comesHere 34 = .ok (.invokestatic 41, 3) := by decide +kernel
theorem dX8_comesHere_37 : decode cX8_comesHere 37 = .ok (.iload_n 2, 1) := by decide +kernel
theorem dX8_comesHere_38 : decode cX8_comesHere 38 = .ok (.iadd, 1) := by decide +kernel
theorem dX8_comesHere_39 : decode cX8_comesHere 39 = .ok (.iconst 0, 1) := by decide +kernel
theorem dX8_comesHere_40 : decode cX8_comesHere 40 = .ok (.iastore, 1) := by decide +kernel
theorem dX8_comesHere_41 : decode cX8_comesHere 41 = .ok (.iinc 2 1, 3) := by decide +kernel
theorem dX8_comesHere_44 : decode cX8_comesHere 44 = .ok (.goto (-21), 3) := by decide +kernel
theorem dX8_comesHere_47 : decode cX8_comesHere 47 = .ok (.aload_n 0, 1) := by decide +kernel
theorem dX8_comesHere_48 : decode cX8_comesHere 48 = .ok (.getfield 7, 3) := by decide +kernel
theorem dX8_comesHere_51 : decode cX8_comesHere 51 = .ok (.iload_n 1, 1) := by decide +kernel
theorem dX8_comesHere_52 : decode cX8_comesHere 52 = .ok (.invokestatic 41, 3) := by decide +kernel
theorem dX8_comesHere_55 : decode cX8_comesHere 55 = .ok (.iconst 0, 1) := by decide +kernel
theorem dX8_comesHere_56 : decode cX8_comesHere 56 = .ok (.iadd, 1) := by decide +kernel
theorem dX8_comesHere_57 : decode cX8_comesHere 57 = .ok (.iconst 5, 1) := by decide +kernel
theorem dX8_comesHere_58 : decode cX8_comesHere 58 = .ok (.iastore, 1) := by decide +kernel
theorem dX8_comesHere_59 : decode cX8_comesHere 59 = .ok (.aload_n 0, 1) := by decide +kernel
theorem dX8_comesHere_60 : decode cX8_comesHere 60 = .ok (.getfield 7, 3) := by decide +kernel
theorem dX8_comesHere_63 : decode cX8_comesHere 63 = .ok (.iconst 5, 1) := by decide +kernel
theorem dX8_comesHere_64 : decode cX8_comesHere 64 = .ok (.dup2, 1) := by decide +kernel
theorem dX8_comesHere_65 : decode cX8_comesHere 65 = .ok (.iaload, 1) := by decide +kernel
theorem dX8_comesHere_66 : decode cX8_comesHere 66 = .ok (.iconst 1, 1) := by decide +kernel
theorem dX8_comesHere_67 : decode cX8_comesHere 67 = .ok (.iadd, 1) := by decide +kernel
theorem dX8_comesHere_68 : decode cX8_comesHere 68 = .ok (.iastore, 1) := by decide +kernel
theorem dX8_comesHere_69 : decode cX8_comesHere 69 = .ok (.iload_n 1, 1) := by decide +kernel
theorem dX8_comesHere_70 : decode cX8_comesHere 70 = .ok (.ireturn, 1) := by decide +kernel
theorem dX8_gets_0 : decode cX8_gets 0 = .ok (.aload_n 0, 1) := by decide +kernel
theorem dX8_gets_1 : decode cX8_gets 1 = .ok (.iload_n 1, 1) := by decide +kernel
theorem dX8_gets_2 : decode cX8_gets 2 = .ok (.invokevirtual 54, 3) := by decide +kernel
theorem dX8_gets_5 : decode cX8_gets 5 = .ok (.ifCond .ne 5, 3) := by decide +kernel
theorem dX8_gets_8 : decode cX8_gets 8 = .ok (.iconst (-1), 1) := by decide +kernel
theorem dX8_gets_9 : decode cX8_gets 9 = .ok (.ireturn, 1) := by decide +kernel
theorem dX8_gets_10 : decode cX8_gets 10 = .ok (.iload_n 2, 1) := by decide +kernel
theorem dX8_gets_11 : decode cX8_gets 11 = .ok (.iconst 1, 1) := by decide +kernel
theorem dX8_gets_12 : decode cX8_gets 12 = .ok (.bipush 30, 2) := by decide +kernel
theorem dX8_gets_14 : decode cX8_gets 14 = .ok (.invokestatic 33, 3) := by decide +kernel
theorem dX8_gets_17 : decode cX8_gets 17 = .ok (.ifCond .ne 6, 3) := by decide +kernel
theorem dX8_gets_20 : decode cX8_gets 20 = .ok (.bipush (-2), 2) := by decide +kernel
theorem dX8_gets_22 : decode cX8_gets 22 = .ok (.ireturn, 1) := by decide +kernel
theorem dX8_gets_23 : decode cX8_gets 23 = .ok (.aload_n 0, 1) := by decide +kernel
theorem dX8_gets_24 : decode cX8_gets 24 = .ok (.iload_n 1, 1) := by decide +kernel
theorem dX8_gets_25 : decode cX8_gets 25 = .ok (.iload_n 2, 1) := by decide +kernel
theorem dX8_gets_26 : decode cX8_gets 26 = .ok (.invokevirtual 58, 3) := by decide +kernel
theorem dX8_gets_29 : decode cX8_gets 29 = .ok (.aload_n 0, 1) := by decide +kernel
theorem dX8_gets_30 : decode cX8_gets 30 = .ok (.getfield 7, 3) := by decide +kernel
theorem dX8_gets_33 : decode cX8_gets 33 = .ok (.iload_n 1, 1) := by decide +kernel
theorem dX8_gets_34 : decode cX8_gets 34 = .ok (.invokestatic 41, 3) := by decide +kernel
theorem dX8_gets_37 : decode cX8_gets 37 = .ok (.iconst 0, 1) := by decide +kernel
theorem dX8_gets_38 : decode cX8_gets 38 = .ok (.iadd, 1) := by decide +kernel
theorem dX8_gets_39 : decode cX8_gets 39 = .ok (.iaload, 1) := by decide +kernel
theorem dX8_gets_40 : decode cX8_gets 40 = .ok (.ireturn, 1) := by decide +kernel
theorem dX8_reason_0 : decode cX8_reason 0 = .ok (.iload_n 1, 1) := by decide +kernel
theorem dX8_reason_1 : decode cX8_reason 1 = .ok (.invokestatic 41, 3) := by decide +kernel
theorem dX8_reason_4 : decode cX8_reason 4 = .ok (.istore 4, 2) := by decide +kernel
theorem dX8_reason_6 : decode cX8_reason 6 = .ok (.aload_n 0, 1) := by decide +kernel
theorem dX8_reason_7 : decode cX8_reason 7 = .ok (.getfield 7, 3) := by decide +kernel
theorem dX8_reason_10 : decode cX8_reason 10 = .ok (.iconst 4, 1) := by decide +kernel
theorem dX8_reason_11 : decode cX8_reason 11 = .ok (.iaload, 1) := by decide +kernel
theorem dX8_reason_12 : decode cX8_reason 12 = .ok (.iload_n 2, 1) := by decide +kernel
theorem dX8_reason_13 : decode cX8_reason 13 = .ok (.iadd, 1) := by decide +kernel
theorem dX8_reason_14 : decode cX8_reason 14 = .ok (.istore 5, 2) := by decide +kernel
theorem dX8_reason_16 : decode cX8_reason 16 = .ok (.iload_n 2, 1) := by decide +kernel
theorem dX8_reason_17 : decode cX8_reason 17 = .ok (.ifCond .ne 18, 3) := by decide +kernel
theorem dX8_reason_20 : decode cX8_reason 20 = .ok (.aload_n 0, 1) := by decide +kernel
theorem dX8_reason_21 : decode cX8_reason 21 = .ok (.getfield 7, 3) := by decide +kernel
theorem dX8_reason_24 : decode cX8_reason 24 = .ok (.bipush 6, 2) := by decide +kernel
theorem dX8_reason_26 : decode cX8_reason 26 = .ok (.iaload, 1) := by decide +kernel
theorem dX8_reason_27 : decode cX8_reason 27 = .ok (.iconst 1, 1) := by decide +kernel
theorem dX8_reason_28 : decode cX8_reason 28 = .ok (.if_icmp .ne 7, 3) := by decide +kernel
theorem dX8_reason_31 : decode cX8_reason 31 = .ok (.iconst 1, 1) := by decide +kernel
theorem dX8_reason_32 : decode cX8_reason 32 = .ok (.goto 64, 3) := by decide +kernel
theorem dX8_reason_35 : decode cX8_reason 35 = .ok (.iload 5, 2) := by decide +kernel
theorem dX8_reason_37 : decode cX8_reason 37 = .ok (.aload_n 0, 1) := by decide +kernel
theorem dX8_reason_38 : decode cX8_reason 38 = .ok (.getfield 7, 3) := by decide +kernel
theorem dX8_reason_41 : decode cX8_reason 41 = .ok (.iload 4, 2) := by decide +kernel
theorem dX8_reason_43 : decode cX8_reason 43 = .ok (.bipush 12, 2) := by decide +kernel
theorem dX8_reason_45 : decode cX8_reason 45 = .ok (.iadd, 1) := by decide +kernel
theorem dX8_reason_46 : decode cX8_reason 46 = .ok (.iaload, 1) := by decide +kernel
theorem dX8_reason_47 : decode cX8_reason 47 = .ok (.if_icmp .ge 7, 3) := by decide +kernel
theorem dX8_reason_50 : decode cX8_reason 50 = .ok (.iconst 2, 1) := by decide +kernel
theorem dX8_reason_51 : decode cX8_reason 51 = .ok (.goto 45, 3) := by decide +kernel
theorem dX8_reason_54 : decode cX8_reason 54 = .ok (.aload_n 0, 1) := by decide +kernel
theorem dX8_reason_55 : decode cX8_reason 55 = .ok (.getfield 7, 3) := by decide +kernel
theorem dX8_reason_58 : decode cX8_reason 58 = .ok (.iload 4, 2) := by decide +kernel
theorem dX8_reason_60 : decode cX8_reason 60 = .ok (.iconst 1, 1) := by decide +kernel
theorem dX8_reason_61 : decode cX8_reason 61 = .ok (.iadd, 1) := by decide +kernel
theorem dX8_reason_62 : decode cX8_reason 62 = .ok (.iload_n 2, 1) := by decide +kernel
theorem dX8_reason_63 : decode cX8_reason 63 = .ok (.iadd, 1) := by decide +kernel
theorem dX8_reason_64 : decode cX8_reason 64 = .ok (.iaload, 1) := by decide +kernel
theorem dX8_reason_65 : decode cX8_reason 65 = .ok (.ifCond .le 7, 3) := by decide +kernel
theorem dX8_reason_68 : decode cX8_reason 68 = .ok (.iconst 3, 1) := by decide +kernel
theorem dX8_reason_69 : decode cX8_reason 69 = .ok (.goto 27, 3) := by decide +kernel
theorem dX8_reason_72 : decode cX8_reason 72 = .ok (.aload_n 0, 1) := by decide +kernel
theorem dX8_reason_73 : decode cX8_reason 73 = .ok (.getfield 7, 3) := by decide +kernel
theorem dX8_reason_76 : decode cX8_reason 76 = .ok (.iload 4, 2) := by decide +kernel
theorem dX8_reason_78 : decode cX8_reason 78 = .ok (.iconst 0, 1) := by decide +kernel
theorem dX8_reason_79 : decode cX8_reason 79 = .ok (.iadd, 1) := by decide +kernel
theorem dX8_reason_80 : decode cX8_reason 80 = .ok (.iaload, 1) := by decide +kernel
theorem dX8_reason_81 : decode cX8_reason 81 = .ok (.aload_n 0, 1) := by decide +kernel
theorem dX8_reason_82 : decode cX8_reason 82 = .ok (.iload 5, 2) := by decide +kernel
theorem dX8_reason_84 : decode cX8_reason 84 = .ok (.iload_n 3, 1) := by decide +kernel
theorem dX8_reason_85 : decode cX8_reason 85 = .ok (.invokevirtual 62, 3) := by decide +kernel
theorem dX8_reason_88 : decode cX8_reason 88 = .ok (.if_icmp .ge 7, 3) := by decide +kernel
theorem dX8_reason_91 : decode cX8_reason 91 = .ok (.iconst 4, 1) := by decide +kernel
theorem dX8_reason_92 : decode cX8_reason 92 = .ok (.goto 4, 3) := by decide +kernel
theorem dX8_reason_95 : decode cX8_reason 95 = .ok (.iconst 0, 1) := by decide +kernel
theorem dX8_reason_96 : decode cX8_reason 96 = .ok (.ireturn, 1) := by decide +kernel
theorem dX8_ordersOf_0 : decode cX8_ordersOf 0 = .ok (.aload_n 0, 1) := by decide +kernel
theorem dX8_ordersOf_1 : decode cX8_ordersOf 1 = .ok (.iload_n 1, 1) := by decide +kernel
theorem dX8_ordersOf_2 : decode cX8_ordersOf 2 = .ok (.invokevirtual 54, 3) := by decide +kernel
theorem dX8_ordersOf_5 : decode cX8_ordersOf 5 = .ok (.ifCond .eq 10, 3) := by decide +kernel
theorem dX8_ordersOf_8 : decode cX8_ordersOf 8 = .ok (.iload_n 3, 1) := by decide +kernel
theorem dX8_ordersOf_9 : decode cX8_ordersOf 9 = .ok (.invokestatic 66, 3) := by decide +kernel
theorem dX8_ordersOf_12 : decode cX8_ordersOf 12 = .ok (.ifCond .ne 5, 3) := by decide +kernel
theorem dX8_ordersOf_15 : decode cX8_ordersOf 15 = .ok (.iconst (-1), 1) := by decide +kernel
theorem dX8_ordersOf_16 : decode cX8_ordersOf 16 = .ok (.ireturn, 1) := by decide +kernel
theorem dX8_ordersOf_17 : decode cX8_ordersOf 17 = .ok (.iload_n 2, 1) := by decide +kernel
theorem dX8_ordersOf_18 : decode cX8_ordersOf 18 = .ok (.iconst 0, 1) := by decide +kernel
theorem dX8_ordersOf_19 : decode cX8_ordersOf 19 = .ok (.iconst 4, 1) := by decide +kernel
theorem dX8_ordersOf_20 : decode cX8_ordersOf 20 = .ok (.invokestatic 33, 3) := by decide +kernel
theorem dX8_ordersOf_23 : decode cX8_ordersOf 23 = .ok (.ifCond .ne 6, 3) := by decide +kernel
theorem dX8_ordersOf_26 : decode cX8_ordersOf 26 = .ok (.bipush (-2), 2) := by decide +kernel
theorem dX8_ordersOf_28 : decode cX8_ordersOf 28 = .ok (.ireturn, 1) := by decide +kernel
theorem dX8_ordersOf_29 : decode cX8_ordersOf 29 = .ok (.aload_n 0, 1) := by decide +kernel
theorem dX8_ordersOf_30 : decode cX8_ordersOf 30 = .ok (.iload_n 1, 1) := by decide +kernel
theorem dX8_ordersOf_31 : decode cX8_ordersOf 31 = .ok (.iload_n 2, 1) := by decide +kernel
theorem dX8_ordersOf_32 : decode cX8_ordersOf 32 = .ok (.iload_n 3, 1) := by decide +kernel
theorem dX8_ordersOf_33 : decode cX8_ordersOf 33 = .ok (.invokevirtual 69, 3) := by decide +kernel
theorem dX8_ordersOf_36 : decode cX8_ordersOf 36 = .ok (.ifCond .le 6, 3) := by decide +kernel
theorem dX8_ordersOf_39 : decode cX8_ordersOf 39 = .ok (.bipush (-5), 2) := by decide +kernel
theorem dX8_ordersOf_41 : decode cX8_ordersOf 41 = .ok (.ireturn, 1) := by decide +kernel
theorem dX8_ordersOf_42 : decode cX8_ordersOf 42 = .ok (.aload_n 0, 1) := by decide +kernel
theorem dX8_ordersOf_43 : decode cX8_ordersOf 43 = .ok (.aload_n 0, 1) := by decide +kernel
theorem dX8_ordersOf_44 : decode cX8_ordersOf 44 = .ok (.getfield 7, 3) := by decide +kernel
theorem dX8_ordersOf_47 : decode cX8_ordersOf 47 = .ok (.iconst 4, 1) := by decide +kernel
theorem dX8_ordersOf_48 : decode cX8_ordersOf 48 = .ok (.iaload, 1) := by decide +kernel
theorem dX8_ordersOf_49 : decode cX8_ordersOf 49 = .ok (.iload_n 2, 1) := by decide +kernel
theorem dX8_ordersOf_50 : decode cX8_ordersOf 50 = .ok (.iadd, 1) := by decide +kernel
theorem dX8_ordersOf_51 : decode cX8_ordersOf 51 = .ok (.iload_n 3, 1) := by decide +kernel
theorem dX8_ordersOf_52 : decode cX8_ordersOf 52 = .ok (.invokevirtual 62, 3) := by decide +kernel
theorem dX8_ordersOf_55 : decode cX8_ordersOf 55 = .ok (.istore 4, 2) := by decide +kernel
theorem dX8_ordersOf_57 : decode cX8_ordersOf 57 = .ok (.aload_n 0, 1) := by decide +kernel
theorem dX8_ordersOf_58 : decode cX8_ordersOf 58 = .ok (.getfield 7, 3) := by decide +kernel
theorem dX8_ordersOf_61 : decode cX8_ordersOf 61 = .ok (.iload_n 1, 1) := by decide +kernel
theorem dX8_ordersOf_62 : decode cX8_ordersOf 62 = .ok (.invokestatic 41, 3) := by decide +kernel
theorem dX8_ordersOf_65 : decode cX8_ordersOf 65 = .ok (.iconst 1, 1) := by decide +kernel
theorem dX8_ordersOf_66 : decode cX8_ordersOf 66 = .ok (.iadd, 1) := by decide +kernel
theorem dX8_ordersOf_67 : decode cX8_ordersOf 67 = .ok (.iload_n 2, 1) := by decide +kernel
theorem dX8_ordersOf_68 : decode cX8_ordersOf 68 = .ok (.iadd, 1) := by decide +kernel
theorem dX8_ordersOf_69 : decode cX8_ordersOf 69 = .ok (.iload_n 3, 1) := by decide +kernel
theorem dX8_ordersOf_70 : decode cX8_ordersOf 70 = .ok (.iconst 1, 1) := by decide +kernel
theorem dX8_ordersOf_71 : decode cX8_ordersOf 71 = .ok (.iadd, 1) := by decide +kernel
theorem dX8_ordersOf_72 : decode cX8_ordersOf 72 = .ok (.iastore, 1) := by decide +kernel
theorem dX8_ordersOf_73 : decode cX8_ordersOf 73 = .ok (.aload_n 0, 1) := by decide +kernel
theorem dX8_ordersOf_74 : decode cX8_ordersOf 74 = .ok (.getfield 7, 3) := by decide +kernel
theorem dX8_ordersOf_77 : decode cX8_ordersOf 77 = .ok (.iload_n 1, 1) := by decide +kernel
theorem dX8_ordersOf_78 : decode cX8_ordersOf 78 = .ok (.invokestatic 41, 3) := by decide +kernel
theorem dX8_ordersOf_81 : decode cX8_ordersOf 81 = .ok (.bipush 6, 2) := by decide +kernel
theorem dX8_ordersOf_83 : decode cX8_ordersOf 83 = .ok (.iadd, 1) := by decide +kernel
theorem dX8_ordersOf_84 : decode cX8_ordersOf 84 = .ok (.iload_n 2, 1) := by decide +kernel
theorem dX8_ordersOf_85 : decode cX8_ordersOf 85 = .ok (.iadd, 1) := by decide +kernel
theorem dX8_ordersOf_86 : decode cX8_ordersOf 86 = .ok (.iload 4, 2) := by decide +kernel
theorem dX8_ordersOf_88 : decode cX8_ordersOf 88 = .ok (.iastore, 1) := by decide +kernel
theorem dX8_ordersOf_89 : decode cX8_ordersOf 89 = .ok (.aload_n 0, 1) := by decide +kernel
theorem dX8_ordersOf_90 : decode cX8_ordersOf 90 = .ok (.getfield 7, 3) := by decide +kernel
theorem dX8_ordersOf_93 : decode cX8_ordersOf 93 = .ok (.iload_n 1, 1) := by decide +kernel
theorem dX8_ordersOf_94 : decode cX8_ordersOf 94 = .ok (.invokestatic 41, 3) := by decide +kernel
theorem dX8_ordersOf_97 : decode cX8_ordersOf 97 = .ok (.iconst 0, 1) := by decide +kernel
theorem dX8_ordersOf_98 : decode cX8_ordersOf 98 = .ok (.iadd, 1) := by decide +kernel
theorem dX8_ordersOf_99 : decode cX8_ordersOf 99 = .ok (.dup2, 1) := by decide +kernel
theorem dX8_ordersOf_100 : decode cX8_ordersOf 100 = .ok (.iaload, 1) := by decide +kernel
theorem dX8_ordersOf_101 : decode cX8_ordersOf 101 = .ok (.iload 4, 2) := by decide +kernel
theorem dX8_ordersOf_103 : decode cX8_ordersOf 103 = .ok (.isub, 1) := by decide +kernel
theorem dX8_ordersOf_104 : decode cX8_ordersOf 104 = .ok (.iastore, 1) := by decide +kernel
theorem dX8_ordersOf_105 : decode cX8_ordersOf 105 = .ok (.aload_n 0, 1) := by decide +kernel
theorem dX8_ordersOf_106 : decode cX8_ordersOf 106 = .ok (.getfield 7, 3) := by decide +kernel
theorem dX8_ordersOf_109 : decode cX8_ordersOf 109 = .ok (.iload_n 1, 1) := by decide +kernel
theorem dX8_ordersOf_110 : decode cX8_ordersOf 110 = .ok (.invokestatic 41, 3) := by decide +kernel
theorem dX8_ordersOf_113 : decode cX8_ordersOf 113 = .ok (.iconst 0, 1) := by decide +kernel
theorem dX8_ordersOf_114 : decode cX8_ordersOf 114 = .ok (.iadd, 1) := by decide +kernel
theorem dX8_ordersOf_115 : decode cX8_ordersOf 115 = .ok (.iaload, 1) := by decide +kernel
theorem dX8_ordersOf_116 : decode cX8_ordersOf 116 = .ok (.ireturn, 1) := by decide +kernel
theorem dX8_cooks_0 : decode cX8_cooks 0 = .ok (.aload_n 0, 1) := by decide +kernel
theorem dX8_cooks_1 : decode cX8_cooks 1 = .ok (.getfield 7, 3) := by decide +kernel
theorem dX8_cooks_4 : decode cX8_cooks 4 = .ok (.bipush 6, 2) := by decide +kernel
theorem dX8_cooks_6 : decode cX8_cooks 6 = .ok (.iaload, 1) := by decide +kernel
theorem dX8_cooks_7 : decode cX8_cooks 7 = .ok (.iconst 1, 1) := by decide +kernel
theorem dX8_cooks_8 : decode cX8_cooks 8 = .ok (.if_icmp .ne 6, 3) := by decide +kernel
theorem dX8_cooks_11 : decode cX8_cooks 11 = .ok (.bipush (-5), 2) := by decide +kernel
theorem dX8_cooks_13 : decode cX8_cooks 13 = .ok (.ireturn, 1) := by decide +kernel
theorem dX8_cooks_14 : decode cX8_cooks 14 = .ok (.iconst 0, 1) := by decide +kernel
theorem dX8_cooks_15 : decode cX8_cooks 15 = .ok (.istore_n 1, 1) := by decide +kernel
theorem dX8_cooks_16 : decode cX8_cooks 16 = .ok (.iconst 0, 1) := by decide +kernel
theorem dX8_cooks_17 : decode cX8_cooks 17 = .ok (.istore_n 2, 1) := by decide +kernel
theorem dX8_cooks_18 : decode cX8_cooks 18 = .ok (.iload_n 2, 1) := by decide +kernel
theorem dX8_cooks_19 : decode cX8_cooks 19 = .ok (.iconst 3, 1) := by decide +kernel
theorem dX8_cooks_20 : decode cX8_cooks 20 = .ok (.if_icmp .ge 46, 3) := by decide +kernel
theorem dX8_cooks_23 : decode cX8_cooks 23 = .ok (.aload_n 0, 1) := by decide +kernel
theorem dX8_cooks_24 : decode cX8_cooks 24 = .ok (.iload_n 2, 1) := by decide +kernel
theorem dX8_cooks_25 : decode cX8_cooks 25 = .ok (.invokevirtual 73, 3) := by decide +kernel
theorem dX8_cooks_28 : decode cX8_cooks 28 = .ok (.istore_n 3, 1) := by decide +kernel
theorem dX8_cooks_29 : decode cX8_cooks 29 = .ok (.aload_n 0, 1) := by decide +kernel
theorem dX8_cooks_30 : decode cX8_cooks 30 = .ok (.getfield 7, 3) := by decide +kernel
theorem dX8_cooks_33 : decode cX8_cooks 33 = .ok (.iload_n 2, 1) := by decide +kernel
theorem dX8_cooks_34 : decode cX8_cooks 34 = .ok (.invokestatic 51, 3) := by decide +kernel
theorem dX8_cooks_37 : decode cX8_cooks 37 = .ok (.iconst 1, 1) := by decide +kernel
theorem dX8_cooks_38 : decode cX8_cooks 38 = .ok (.iadd, 1) := by decide +kernel
theorem dX8_cooks_39 : decode cX8_cooks 39 = .ok (.iload_n 3, 1) := by decide +kernel
theorem dX8_cooks_40 : decode cX8_cooks 40 = .ok (.iastore, 1) := by decide +kernel
theorem dX8_cooks_41 : decode cX8_cooks 41 = .ok (.aload_n 0, 1) := by decide +kernel
theorem dX8_cooks_42 : decode cX8_cooks 42 = .ok (.getfield 7, 3) := by decide +kernel
theorem dX8_cooks_45 : decode cX8_cooks 45 = .ok (.iload_n 2, 1) := by decide +kernel
theorem dX8_cooks_46 : decode cX8_cooks 46 = .ok (.invokestatic 51, 3) := by decide +kernel
theorem dX8_cooks_49 : decode cX8_cooks 49 = .ok (.iconst 2, 1) := by decide +kernel
theorem dX8_cooks_50 : decode cX8_cooks 50 = .ok (.iadd, 1) := by decide +kernel
theorem dX8_cooks_51 : decode cX8_cooks 51 = .ok (.dup2, 1) := by decide +kernel
theorem dX8_cooks_52 : decode cX8_cooks 52 = .ok (.iaload, 1) := by decide +kernel
theorem dX8_cooks_53 : decode cX8_cooks 53 = .ok (.iload_n 3, 1) := by decide +kernel
theorem dX8_cooks_54 : decode cX8_cooks 54 = .ok (.iadd, 1) := by decide +kernel
theorem dX8_cooks_55 : decode cX8_cooks 55 = .ok (.iastore, 1) := by decide +kernel
theorem dX8_cooks_56 : decode cX8_cooks 56 = .ok (.iload_n 1, 1) := by decide +kernel
theorem dX8_cooks_57 : decode cX8_cooks 57 = .ok (.iload_n 3, 1) := by decide +kernel
theorem dX8_cooks_58 : decode cX8_cooks 58 = .ok (.iadd, 1) := by decide +kernel
theorem dX8_cooks_59 : decode cX8_cooks 59 = .ok (.istore_n 1, 1) := by decide +kernel
theorem dX8_cooks_60 : decode cX8_cooks 60 = .ok (.iinc 2 1, 3) := by decide +kernel
theorem dX8_cooks_63 : decode cX8_cooks 63 = .ok (.goto (-45), 3) := by decide +kernel
theorem dX8_cooks_66 : decode cX8_cooks 66 = .ok (.aload_n 0, 1) := by decide +kernel
theorem dX8_cooks_67 : decode cX8_cooks 67 = .ok (.getfield 7, 3) := by decide +kernel
theorem dX8_cooks_70 : decode cX8_cooks 70 = .ok (.bipush 6, 2) := by decide +kernel
theorem dX8_cooks_72 : decode cX8_cooks 72 = .ok (.iconst 1, 1) := by decide +kernel
theorem dX8_cooks_73 : decode cX8_cooks 73 = .ok (.iastore, 1) := by decide +kernel
theorem dX8_cooks_74 : decode cX8_cooks 74 = .ok (.iload_n 1, 1) := by decide +kernel
theorem dX8_cooks_75 : decode cX8_cooks 75 = .ok (.ireturn, 1) := by decide +kernel
theorem dX8_comes_0 : decode cX8_comes 0 = .ok (.aload_n 0, 1) := by decide +kernel
theorem dX8_comes_1 : decode cX8_comes 1 = .ok (.iload_n 1, 1) := by decide +kernel
theorem dX8_comes_2 : decode cX8_comes 2 = .ok (.invokevirtual 54, 3) := by decide +kernel
theorem dX8_comes_5 : decode cX8_comes 5 = .ok (.ifCond .ne 5, 3) := by decide +kernel
theorem dX8_comes_8 : decode cX8_comes 8 = .ok (.iconst (-1), 1) := by decide +kernel
theorem dX8_comes_9 : decode cX8_comes 9 = .ok (.ireturn, 1) := by decide +kernel
theorem dX8_comes_10 : decode cX8_comes 10 = .ok (.iload_n 1, 1) := by decide +kernel
theorem dX8_comes_11 : decode cX8_comes 11 = .ok (.invokestatic 41, 3) := by decide +kernel
theorem dX8_comes_14 : decode cX8_comes 14 = .ok (.istore_n 2, 1) := by decide +kernel
theorem dX8_comes_15 : decode cX8_comes 15 = .ok (.aload_n 0, 1) := by decide +kernel
theorem dX8_comes_16 : decode cX8_comes 16 = .ok (.getfield 7, 3) := by decide +kernel
theorem dX8_comes_19 : decode cX8_comes 19 = .ok (.bipush 6, 2) := by decide +kernel
theorem dX8_comes_21 : decode cX8_comes 21 = .ok (.iaload, 1) := by decide +kernel
theorem dX8_comes_22 : decode cX8_comes 22 = .ok (.ifCond .eq 27, 3) := by decide +kernel
theorem dX8_comes_25 : decode cX8_comes 25 = .ok (.aload_n 0, 1) := by decide +kernel
theorem dX8_comes_26 : decode cX8_comes 26 = .ok (.getfield 7, 3) := by decide +kernel
theorem dX8_comes_29 : decode cX8_comes 29 = .ok (.iload_n 2, 1) := by decide +kernel
theorem dX8_comes_30 : decode cX8_comes 30 = .ok (.iconst 1, 1) := by decide +kernel
theorem dX8_comes_31 : decode cX8_comes 31 = .ok (.iadd, 1) := by decide +kernel
theorem dX8_comes_32 : decode cX8_comes 32 = .ok (.iaload, 1) := by decide +kernel
theorem dX8_comes_33 : decode cX8_comes 33 = .ok (.ifCond .eq 16, 3) := by decide +kernel
theorem dX8_comes_36 : decode cX8_comes 36 = .ok (.aload_n 0, 1) := by decide +kernel
theorem dX8_comes_37 : decode cX8_comes 37 = .ok (.getfield 7, 3) := by decide +kernel
theorem dX8_comes_40 : decode cX8_comes 40 = .ok (.iload_n 2, 1) := by decide +kernel
theorem dX8_comes_41 : decode cX8_comes 41 = .ok (.bipush 15, 2) := by decide +kernel
theorem dX8_comes_43 : decode cX8_comes 43 = .ok (.iadd, 1) := by decide +kernel
theorem dX8_comes_44 : decode cX8_comes 44 = .ok (.iaload, 1) := by decide +kernel
theorem dX8_comes_45 : decode cX8_comes 45 = .ok (.iconst 1, 1) := by decide +kernel
theorem dX8_comes_46 : decode cX8_comes 46 = .ok (.if_icmp .ne 6, 3) := by decide +kernel
theorem dX8_comes_49 : decode cX8_comes 49 = .ok (.bipush (-5), 2) := by decide +kernel
theorem dX8_comes_51 : decode cX8_comes 51 = .ok (.ireturn, 1) := by decide +kernel
theorem dX8_comes_52 : decode cX8_comes 52 = .ok (.aload_n 0, 1) := by decide +kernel
theorem dX8_comes_53 : decode cX8_comes 53 = .ok (.getfield 7, 3) := by decide +kernel
theorem dX8_comes_56 : decode cX8_comes 56 = .ok (.iload_n 2, 1) := by decide +kernel
theorem dX8_comes_57 : decode cX8_comes 57 = .ok (.iconst 1, 1) := by decide +kernel
theorem dX8_comes_58 : decode cX8_comes 58 = .ok (.iadd, 1) := by decide +kernel
theorem dX8_comes_59 : decode cX8_comes 59 = .ok (.iaload, 1) := by decide +kernel
theorem dX8_comes_60 : decode cX8_comes 60 = .ok (.iconst 1, 1) := by decide +kernel
theorem dX8_comes_61 : decode cX8_comes 61 = .ok (.isub, 1) := by decide +kernel
theorem dX8_comes_62 : decode cX8_comes 62 = .ok (.istore_n 3, 1) := by decide +kernel
theorem dX8_comes_63 : decode cX8_comes 63 = .ok (.aload_n 0, 1) := by decide +kernel
theorem dX8_comes_64 : decode cX8_comes 64 = .ok (.iload_n 3, 1) := by decide +kernel
theorem dX8_comes_65 : decode cX8_comes 65 = .ok (.invokevirtual 76, 3) := by decide +kernel
theorem dX8_comes_68 : decode cX8_comes 68 = .ok (.ifCond .le 7, 3) := by decide +kernel
theorem dX8_comes_71 : decode cX8_comes 71 = .ok (.iconst 1, 1) := by decide +kernel
theorem dX8_comes_72 : decode cX8_comes 72 = .ok (.goto 4, 3) := by decide +kernel
theorem dX8_comes_75 : decode cX8_comes 75 = .ok (.iconst 0, 1) := by decide +kernel
theorem dX8_comes_76 : decode cX8_comes 76 = .ok (.istore 4, 2) := by decide +kernel
theorem dX8_comes_78 : decode cX8_comes 78 = .ok (.aload_n 0, 1) := by decide +kernel
theorem dX8_comes_79 : decode cX8_comes 79 = .ok (.getfield 7, 3) := by decide +kernel
theorem dX8_comes_82 : decode cX8_comes 82 = .ok (.iload_n 2, 1) := by decide +kernel
theorem dX8_comes_83 : decode cX8_comes 83 = .ok (.bipush 15, 2) := by decide +kernel
theorem dX8_comes_85 : decode cX8_comes 85 = .ok (.iadd, 1) := by decide +kernel
theorem dX8_comes_86 : decode cX8_comes 86 = .ok (.iconst 1, 1) := by decide +kernel
theorem dX8_comes_87 : decode cX8_comes 87 = .ok (.iastore, 1) := by decide +kernel
theorem dX8_comes_88 : decode cX8_comes 88 = .ok (.aload_n 0, 1) := by decide +kernel
theorem dX8_comes_89 : decode cX8_comes 89 = .ok (.getfield 7, 3) := by decide +kernel
theorem dX8_comes_92 : decode cX8_comes 92 = .ok (.iload_n 2, 1) := by decide +kernel
theorem dX8_comes_93 : decode cX8_comes 93 = .ok (.bipush 13, 2) := by decide +kernel
theorem dX8_comes_95 : decode cX8_comes 95 = .ok (.iadd, 1) := by decide +kernel
theorem dX8_comes_96 : decode cX8_comes 96 = .ok (.dup2, 1) := by decide +kernel
theorem dX8_comes_97 : decode cX8_comes 97 = .ok (.iaload, 1) := by decide +kernel
theorem dX8_comes_98 : decode cX8_comes 98 = .ok (.iconst 1, 1) := by decide +kernel
theorem dX8_comes_99 : decode cX8_comes 99 = .ok (.iadd, 1) := by decide +kernel
theorem dX8_comes_100 : decode cX8_comes 100 = .ok (.iastore, 1) := by decide +kernel
theorem dX8_comes_101 : decode cX8_comes 101 = .ok (.aload_n 0, 1) := by decide +kernel
theorem dX8_comes_102 : decode cX8_comes 102 = .ok (.getfield 7, 3) := by decide +kernel
theorem dX8_comes_105 : decode cX8_comes 105 = .ok (.iload_n 2, 1) := by decide +kernel
theorem dX8_comes_106 : decode cX8_comes 106 = .ok (.bipush 11, 2) := by decide +kernel
theorem dX8_comes_108 : decode cX8_comes 108 = .ok (.iadd, 1) := by decide +kernel
theorem dX8_comes_109 : decode cX8_comes 109 = .ok (.iconst 0, 1) := by decide +kernel
theorem dX8_comes_110 : decode cX8_comes 110 = .ok (.iastore, 1) := by decide +kernel
theorem dX8_comes_111 : decode cX8_comes 111 = .ok (.iload 4, 2) := by decide +kernel
theorem dX8_comes_113 : decode cX8_comes 113 = .ok (.ifCond .eq 12, 3) := by decide +kernel
theorem dX8_comes_116 : decode cX8_comes 116 = .ok (.aload_n 0, 1) := by decide +kernel
theorem dX8_comes_117 : decode cX8_comes 117 = .ok (.iload_n 1, 1) := by decide +kernel
theorem dX8_comes_118 : decode cX8_comes 118 = .ok (.iload_n 3, 1) := by decide +kernel
theorem dX8_comes_119 : decode cX8_comes 119 = .ok (.invokevirtual 79, 3) := by decide +kernel
theorem dX8_comes_122 : decode cX8_comes 122 = .ok (.goto 17, 3) := by decide +kernel
theorem dX8_comes_125 : decode cX8_comes 125 = .ok (.aload_n 0, 1) := by decide +kernel
theorem dX8_comes_126 : decode cX8_comes 126 = .ok (.iload_n 1, 1) := by decide +kernel
theorem dX8_comes_127 : decode cX8_comes 127 = .ok (.aload_n 0, 1) := by decide +kernel
theorem dX8_comes_128 : decode cX8_comes 128 = .ok (.getfield 7, 3) := by decide +kernel
theorem dX8_comes_131 : decode cX8_comes 131 = .ok (.iload_n 2, 1) := by decide +kernel
theorem dX8_comes_132 : decode cX8_comes 132 = .ok (.bipush 6, 2) := by decide +kernel
theorem dX8_comes_134 : decode cX8_comes 134 = .ok (.iadd, 1) := by decide +kernel
theorem dX8_comes_135 : decode cX8_comes 135 = .ok (.iaload, 1) := by decide +kernel
theorem dX8_comes_136 : decode cX8_comes 136 = .ok (.invokevirtual 58, 3) := by decide +kernel
theorem dX8_comes_139 : decode cX8_comes 139 = .ok (.iload 4, 2) := by decide +kernel
theorem dX8_comes_141 : decode cX8_comes 141 = .ok (.ifCond .eq 7, 3) := by decide +kernel
theorem dX8_comes_144 : decode cX8_comes 144 = .ok (.iload_n 3, 1) := by decide +kernel
theorem dX8_comes_145 : decode cX8_comes 145 = .ok (.goto 4, 3) := by decide +kernel
theorem dX8_comes_148 : decode cX8_comes 148 = .ok (.iconst 3, 1) := by decide +kernel
theorem dX8_comes_149 : decode cX8_comes 149 = .ok (.ireturn, 1) := by decide +kernel
theorem dX8_buys_0 : decode cX8_buys 0 = .ok (.aload_n 0, 1) := by decide +kernel
theorem dX8_buys_1 : decode cX8_buys 1 = .ok (.iload_n 1, 1) := by decide +kernel
theorem dX8_buys_2 : decode cX8_buys 2 = .ok (.invokevirtual 54, 3) := by decide +kernel
theorem dX8_buys_5 : decode cX8_buys 5 = .ok (.ifCond .eq 10, 3) := by decide +kernel
theorem dX8_buys_8 : decode cX8_buys 8 = .ok (.iload_n 2, 1) := by decide +kernel
theorem dX8_buys_9 : decode cX8_buys 9 = .ok (.invokestatic 66, 3) := by decide +kernel
theorem dX8_buys_12 : decode cX8_buys 12 = .ok (.ifCond .ne 5, 3) := by decide +kernel
theorem dX8_buys_15 : decode cX8_buys 15 = .ok (.iconst (-1), 1) := by decide +kernel
theorem dX8_buys_16 : decode cX8_buys 16 = .ok (.ireturn, 1) := by decide +kernel
theorem dX8_buys_17 : decode cX8_buys 17 = .ok (.iload_n 1, 1) := by decide +kernel
theorem dX8_buys_18 : decode cX8_buys 18 = .ok (.invokestatic 41, 3) := by decide +kernel
theorem dX8_buys_21 : decode cX8_buys 21 = .ok (.istore_n 3, 1) := by decide +kernel
theorem dX8_buys_22 : decode cX8_buys 22 = .ok (.aload_n 0, 1) := by decide +kernel
theorem dX8_buys_23 : decode cX8_buys 23 = .ok (.aload_n 0, 1) := by decide +kernel
theorem dX8_buys_24 : decode cX8_buys 24 = .ok (.getfield 7, 3) := by decide +kernel
theorem dX8_buys_27 : decode cX8_buys 27 = .ok (.iconst 4, 1) := by decide +kernel
theorem dX8_buys_28 : decode cX8_buys 28 = .ok (.iaload, 1) := by decide +kernel
theorem dX8_buys_29 : decode cX8_buys 29 = .ok (.iload_n 2, 1) := by decide +kernel
theorem dX8_buys_30 : decode cX8_buys 30 = .ok (.invokevirtual 62, 3) := by decide +kernel
theorem dX8_buys_33 : decode cX8_buys 33 = .ok (.iconst 1, 1) := by decide +kernel
theorem dX8_buys_34 : decode cX8_buys 34 = .ok (.iadd, 1) := by decide +kernel
theorem dX8_buys_35 : decode cX8_buys 35 = .ok (.istore 4, 2) := by decide +kernel
theorem dX8_buys_37 : decode cX8_buys 37 = .ok (.aload_n 0, 1) := by decide +kernel
theorem dX8_buys_38 : decode cX8_buys 38 = .ok (.getfield 7, 3) := by decide +kernel
theorem dX8_buys_41 : decode cX8_buys 41 = .ok (.bipush 6, 2) := by decide +kernel
theorem dX8_buys_43 : decode cX8_buys 43 = .ok (.iaload, 1) := by decide +kernel
theorem dX8_buys_44 : decode cX8_buys 44 = .ok (.iconst 1, 1) := by decide +kernel
theorem dX8_buys_45 : decode cX8_buys 45 = .ok (.if_icmp .ne 43, 3) := by decide +kernel
theorem dX8_buys_48 : decode cX8_buys 48 = .ok (.aload_n 0, 1) := by decide +kernel
theorem dX8_buys_49 : decode cX8_buys 49 = .ok (.getfield 7, 3) := by decide +kernel
theorem dX8_buys_52 : decode cX8_buys 52 = .ok (.iload_n 3, 1) := by decide +kernel
theorem dX8_buys_53 : decode cX8_buys 53 = .ok (.iconst 1, 1) := by decide +kernel
theorem dX8_buys_54 : decode cX8_buys 54 = .ok (.iadd, 1) := by decide +kernel
theorem dX8_buys_55 : decode cX8_buys 55 = .ok (.iaload, 1) := by decide +kernel
theorem dX8_buys_56 : decode cX8_buys 56 = .ok (.ifCond .ne 32, 3) := by decide +kernel
theorem dX8_buys_59 : decode cX8_buys 59 = .ok (.aload_n 0, 1) := by decide +kernel
theorem dX8_buys_60 : decode cX8_buys 60 = .ok (.getfield 7, 3) := by decide +kernel
theorem dX8_buys_63 : decode cX8_buys 63 = .ok (.iload_n 3, 1) := by decide +kernel
theorem dX8_buys_64 : decode cX8_buys 64 = .ok (.bipush 15, 2) := by decide +kernel
theorem dX8_buys_66 : decode cX8_buys 66 = .ok (.iadd, 1) := by decide +kernel
theorem dX8_buys_67 : decode cX8_buys 67 = .ok (.iaload, 1) := by decide +kernel
theorem dX8_buys_68 : decode cX8_buys 68 = .ok (.ifCond .ne 20, 3) := by decide +kernel
theorem dX8_buys_71 : decode cX8_buys 71 = .ok (.aload_n 0, 1) := by decide +kernel
theorem dX8_buys_72 : decode cX8_buys 72 = .ok (.getfield 7, 3) := by decide +kernel
theorem dX8_buys_75 : decode cX8_buys 75 = .ok (.iload_n 3, 1) := by decide +kernel
theorem dX8_buys_76 : decode cX8_buys 76 = .ok (.iconst 0, 1) := by decide +kernel
theorem dX8_buys_77 : decode cX8_buys 77 = .ok (.iadd, 1) := by decide +kernel
theorem dX8_buys_78 : decode cX8_buys 78 = .ok (.iaload, 1) := by decide +kernel
theorem dX8_buys_79 : decode cX8_buys 79 = .ok (.iload 4, 2) := by decide +kernel
theorem dX8_buys_81 : decode cX8_buys 81 = .ok (.if_icmp .lt 7, 3) := by decide +kernel
theorem dX8_buys_84 : decode cX8_buys 84 = .ok (.iconst 1, 1) := by decide +kernel
theorem dX8_buys_85 : decode cX8_buys 85 = .ok (.goto 4, 3) := by decide +kernel
theorem dX8_buys_88 : decode cX8_buys 88 = .ok (.iconst 0, 1) := by decide +kernel
theorem dX8_buys_89 : decode cX8_buys 89 = .ok (.istore 5, 2) := by decide +kernel
theorem dX8_buys_91 : decode cX8_buys 91 = .ok (.iload 5, 2) := by decide +kernel
theorem dX8_buys_93 : decode cX8_buys 93 = .ok (.ifCond .eq 16, 3) := by decide +kernel
theorem dX8_buys_96 : decode cX8_buys 96 = .ok (.aload_n 0, 1) := by decide +kernel
theorem dX8_buys_97 : decode cX8_buys 97 = .ok (.iload_n 2, 1) := by decide +kernel
theorem dX8_buys_98 : decode cX8_buys 98 = .ok (.invokevirtual 76, 3) := by decide +kernel
theorem dX8_buys_101 : decode cX8_buys 101 = .ok (.aload_n 0, 1) := by decide +kernel
theorem dX8_buys_102 : decode cX8_buys 102 = .ok (.iload_n 2, 1) := by decide +kernel
theorem dX8_buys_103 : decode cX8_buys 103 = .ok (.invokevirtual 82, 3) := by decide +kernel
theorem dX8_buys_106 : decode cX8_buys 106 = .ok (.if_icmp .gt 6, 3) := by decide +kernel
theorem dX8_buys_109 : decode cX8_buys 109 = .ok (.bipush (-5), 2) := by decide +kernel
theorem dX8_buys_111 : decode cX8_buys 111 = .ok (.ireturn, 1) := by decide +kernel
theorem dX8_buys_112 : decode cX8_buys 112 = .ok (.aload_n 0, 1) := by decide +kernel
theorem dX8_buys_113 : decode cX8_buys 113 = .ok (.getfield 7, 3) := by decide +kernel
theorem dX8_buys_116 : decode cX8_buys 116 = .ok (.iload_n 3, 1) := by decide +kernel
theorem dX8_buys_117 : decode cX8_buys 117 = .ok (.iconst 0, 1) := by decide +kernel
theorem dX8_buys_118 : decode cX8_buys 118 = .ok (.iadd, 1) := by decide +kernel
theorem dX8_buys_119 : decode cX8_buys 119 = .ok (.dup2, 1) := by decide +kernel
theorem dX8_buys_120 : decode cX8_buys 120 = .ok (.iaload, 1) := by decide +kernel
theorem dX8_buys_121 : decode cX8_buys 121 = .ok (.iload 4, 2) := by decide +kernel
theorem dX8_buys_123 : decode cX8_buys 123 = .ok (.isub, 1) := by decide +kernel
theorem dX8_buys_124 : decode cX8_buys 124 = .ok (.iastore, 1) := by decide +kernel
theorem dX8_buys_125 : decode cX8_buys 125 = .ok (.aload_n 0, 1) := by decide +kernel
theorem dX8_buys_126 : decode cX8_buys 126 = .ok (.getfield 7, 3) := by decide +kernel
theorem dX8_buys_129 : decode cX8_buys 129 = .ok (.iload_n 3, 1) := by decide +kernel
theorem dX8_buys_130 : decode cX8_buys 130 = .ok (.bipush 15, 2) := by decide +kernel
theorem dX8_buys_132 : decode cX8_buys 132 = .ok (.iadd, 1) := by decide +kernel
theorem dX8_buys_133 : decode cX8_buys 133 = .ok (.iconst 1, 1) := by decide +kernel
theorem dX8_buys_134 : decode cX8_buys 134 = .ok (.iastore, 1) := by decide +kernel
theorem dX8_buys_135 : decode cX8_buys 135 = .ok (.aload_n 0, 1) := by decide +kernel
theorem dX8_buys_136 : decode cX8_buys 136 = .ok (.iload_n 1, 1) := by decide +kernel
theorem dX8_buys_137 : decode cX8_buys 137 = .ok (.iload_n 2, 1) := by decide +kernel
theorem dX8_buys_138 : decode cX8_buys 138 = .ok (.invokevirtual 79, 3) := by decide +kernel
theorem dX8_buys_141 : decode cX8_buys 141 = .ok (.aload_n 0, 1) := by decide +kernel
theorem dX8_buys_142 : decode cX8_buys 142 = .ok (.getfield 7, 3) := by decide +kernel
theorem dX8_buys_145 : decode cX8_buys 145 = .ok (.iload_n 3, 1) := by decide +kernel
theorem dX8_buys_146 : decode cX8_buys 146 = .ok (.iconst 0, 1) := by decide +kernel
theorem dX8_buys_147 : decode cX8_buys 147 = .ok (.iadd, 1) := by decide +kernel
theorem dX8_buys_148 : decode cX8_buys 148 = .ok (.iaload, 1) := by decide +kernel
theorem dX8_buys_149 : decode cX8_buys 149 = .ok (.ireturn, 1) := by decide +kernel
theorem dX8_endsFor_0 : decode cX8_endsFor 0 = .ok (.iload_n 1, 1) := by decide +kernel
theorem dX8_endsFor_1 : decode cX8_endsFor 1 = .ok (.invokestatic 41, 3) := by decide +kernel
theorem dX8_endsFor_4 : decode cX8_endsFor 4 = .ok (.istore_n 2, 1) := by decide +kernel
theorem dX8_endsFor_5 : decode cX8_endsFor 5 = .ok (.aload_n 0, 1) := by decide +kernel
theorem dX8_endsFor_6 : decode cX8_endsFor 6 = .ok (.getfield 7, 3) := by decide +kernel
theorem dX8_endsFor_9 : decode cX8_endsFor 9 = .ok (.iload_n 2, 1) := by decide +kernel
theorem dX8_endsFor_10 : decode cX8_endsFor 10 = .ok (.iconst 1, 1) := by decide +kernel
theorem dX8_endsFor_11 : decode cX8_endsFor 11 = .ok (.iadd, 1) := by decide +kernel
theorem dX8_endsFor_12 : decode cX8_endsFor 12 = .ok (.iaload, 1) := by decide +kernel
theorem dX8_endsFor_13 : decode cX8_endsFor 13 = .ok (.ifCond .le 19, 3) := by decide +kernel
theorem dX8_endsFor_16 : decode cX8_endsFor 16 = .ok (.aload_n 0, 1) := by decide +kernel
theorem dX8_endsFor_17 : decode cX8_endsFor 17 = .ok (.getfield 7, 3) := by decide +kernel
theorem dX8_endsFor_20 : decode cX8_endsFor 20 = .ok (.iload_n 2, 1) := by decide +kernel
theorem dX8_endsFor_21 : decode cX8_endsFor 21 = .ok (.bipush 15, 2) := by decide +kernel
theorem dX8_endsFor_23 : decode cX8_endsFor 23 = .ok (.iadd, 1) := by decide +kernel
theorem dX8_endsFor_24 : decode cX8_endsFor 24 = .ok (.iaload, 1) := by decide +kernel
theorem dX8_endsFor_25 : decode cX8_endsFor 25 = .ok (.ifCond .ne 7, 3) := by decide +kernel
theorem dX8_endsFor_28 : decode cX8_endsFor 28 = .ok (.iconst 1, 1) := by decide +kernel
theorem dX8_endsFor_29 : decode cX8_endsFor 29 = .ok (.goto 4, 3) := by decide +kernel
theorem dX8_endsFor_32 : decode cX8_endsFor 32 = .ok (.iconst 0, 1) := by decide +kernel
theorem dX8_endsFor_33 : decode cX8_endsFor 33 = .ok (.istore_n 3, 1) := by decide +kernel
theorem dX8_endsFor_34 : decode cX8_endsFor 34 = .ok (.aload_n 0, 1) := by decide +kernel
theorem dX8_endsFor_35 : decode cX8_endsFor 35 = .ok (.getfield 7, 3) := by decide +kernel
theorem dX8_endsFor_38 : decode cX8_endsFor 38 = .ok (.iload_n 2, 1) := by decide +kernel
theorem dX8_endsFor_39 : decode cX8_endsFor 39 = .ok (.bipush 14, 2) := by decide +kernel
theorem dX8_endsFor_41 : decode cX8_endsFor 41 = .ok (.iadd, 1) := by decide +kernel
theorem dX8_endsFor_42 : decode cX8_endsFor 42 = .ok (.dup2, 1) := by decide +kernel
theorem dX8_endsFor_43 : decode cX8_endsFor 43 = .ok (.iaload, 1) := by decide +kernel
theorem dX8_endsFor_44 : decode cX8_endsFor 44 = .ok (.iload_n 3, 1) := by decide +kernel
theorem dX8_endsFor_45 : decode cX8_endsFor 45 = .ok (.iadd, 1) := by decide +kernel
theorem dX8_endsFor_46 : decode cX8_endsFor 46 = .ok (.iastore, 1) := by decide +kernel
theorem dX8_endsFor_47 : decode cX8_endsFor 47 = .ok (.aload_n 0, 1) := by decide +kernel
theorem dX8_endsFor_48 : decode cX8_endsFor 48 = .ok (.getfield 7, 3) := by decide +kernel
theorem dX8_endsFor_51 : decode cX8_endsFor 51 = .ok (.iload_n 2, 1) := by decide +kernel
theorem dX8_endsFor_52 : decode cX8_endsFor 52 = .ok (.bipush 11, 2) := by decide +kernel
theorem dX8_endsFor_54 : decode cX8_endsFor 54 = .ok (.iadd, 1) := by decide +kernel
theorem dX8_endsFor_55 : decode cX8_endsFor 55 = .ok (.dup2, 1) := by decide +kernel
theorem dX8_endsFor_56 : decode cX8_endsFor 56 = .ok (.iaload, 1) := by decide +kernel
theorem dX8_endsFor_57 : decode cX8_endsFor 57 = .ok (.iload_n 3, 1) := by decide +kernel
theorem dX8_endsFor_58 : decode cX8_endsFor 58 = .ok (.iadd, 1) := by decide +kernel
theorem dX8_endsFor_59 : decode cX8_endsFor 59 = .ok (.iastore, 1) := by decide +kernel
theorem dX8_endsFor_60 : decode cX8_endsFor 60 = .ok (.aload_n 0, 1) := by decide +kernel
theorem dX8_endsFor_61 : decode cX8_endsFor 61 = .ok (.getfield 7, 3) := by decide +kernel
theorem dX8_endsFor_64 : decode cX8_endsFor 64 = .ok (.iload_n 2, 1) := by decide +kernel
theorem dX8_endsFor_65 : decode cX8_endsFor 65 = .ok (.bipush 11, 2) := by decide +kernel
theorem dX8_endsFor_67 : decode cX8_endsFor 67 = .ok (.iadd, 1) := by decide +kernel
theorem dX8_endsFor_68 : decode cX8_endsFor 68 = .ok (.iaload, 1) := by decide +kernel
theorem dX8_endsFor_69 : decode cX8_endsFor 69 = .ok (.aload_n 0, 1) := by decide +kernel
theorem dX8_endsFor_70 : decode cX8_endsFor 70 = .ok (.getfield 7, 3) := by decide +kernel
theorem dX8_endsFor_73 : decode cX8_endsFor 73 = .ok (.iconst 2, 1) := by decide +kernel
theorem dX8_endsFor_74 : decode cX8_endsFor 74 = .ok (.iaload, 1) := by decide +kernel
theorem dX8_endsFor_75 : decode cX8_endsFor 75 = .ok (.if_icmp .lt 37, 3) := by decide +kernel
theorem dX8_endsFor_78 : decode cX8_endsFor 78 = .ok (.aload_n 0, 1) := by decide +kernel
theorem dX8_endsFor_79 : decode cX8_endsFor 79 = .ok (.getfield 7, 3) := by decide +kernel
theorem dX8_endsFor_82 : decode cX8_endsFor 82 = .ok (.iload_n 2, 1) := by decide +kernel
theorem dX8_endsFor_83 : decode cX8_endsFor 83 = .ok (.bipush 11, 2) := by decide +kernel
theorem dX8_endsFor_85 : decode cX8_endsFor 85 = .ok (.iadd, 1) := by decide +kernel
theorem dX8_endsFor_86 : decode cX8_endsFor 86 = .ok (.iconst 0, 1) := by decide +kernel
theorem dX8_endsFor_87 : decode cX8_endsFor 87 = .ok (.iastore, 1) := by decide +kernel
theorem dX8_endsFor_88 : decode cX8_endsFor 88 = .ok (.aload_n 0, 1) := by decide +kernel
theorem dX8_endsFor_89 : decode cX8_endsFor 89 = .ok (.getfield 7, 3) := by decide +kernel
theorem dX8_endsFor_92 : decode cX8_endsFor 92 = .ok (.iload_n 2, 1) := by decide +kernel
theorem dX8_endsFor_93 : decode cX8_endsFor 93 = .ok (.bipush 12, 2) := by decide +kernel
theorem dX8_endsFor_95 : decode cX8_endsFor 95 = .ok (.iadd, 1) := by decide +kernel
theorem dX8_endsFor_96 : decode cX8_endsFor 96 = .ok (.aload_n 0, 1) := by decide +kernel
theorem dX8_endsFor_97 : decode cX8_endsFor 97 = .ok (.getfield 7, 3) := by decide +kernel
theorem dX8_endsFor_100 : decode cX8_endsFor 100 = .ok (.iconst 4, 1) := by decide +kernel
theorem dX8_endsFor_101 : decode cX8_endsFor 101 = .ok (.iaload, 1) := by decide +kernel
theorem dX8_endsFor_102 : decode cX8_endsFor 102 = .ok (.aload_n 0, 1) := by decide +kernel
theorem dX8_endsFor_103 : decode cX8_endsFor 103 = .ok (.getfield 7, 3) := by decide +kernel
theorem dX8_endsFor_106 : decode cX8_endsFor 106 = .ok (.iconst 3, 1) := by decide +kernel
theorem dX8_endsFor_107 : decode cX8_endsFor 107 = .ok (.iaload, 1) := by decide +kernel
theorem dX8_endsFor_108 : decode cX8_endsFor 108 = .ok (.iadd, 1) := by decide +kernel
theorem dX8_endsFor_109 : decode cX8_endsFor 109 = .ok (.iconst 1, 1) := by decide +kernel
theorem dX8_endsFor_110 : decode cX8_endsFor 110 = .ok (.iadd, 1) := by decide +kernel
theorem dX8_endsFor_111 : decode cX8_endsFor 111 = .ok (.iastore, 1) := by decide +kernel
theorem dX8_endsFor_112 : decode cX8_endsFor 112 = .ok (.iconst 0, 1) := by decide +kernel
theorem dX8_endsFor_113 : decode cX8_endsFor 113 = .ok (.istore 4, 2) := by decide +kernel
theorem dX8_endsFor_115 : decode cX8_endsFor 115 = .ok (.iload 4, 2) := by decide +kernel
theorem dX8_endsFor_117 : decode cX8_endsFor 117 = .ok (.iconst 4, 1) := by decide +kernel
theorem dX8_endsFor_118 : decode cX8_endsFor 118 = .ok (.if_icmp .ge 59, 3) := by decide +kernel
theorem dX8_endsFor_121 : decode cX8_endsFor 121 = .ok (.aload_n 0, 1) := by decide +kernel
theorem dX8_endsFor_122 : decode cX8_endsFor 122 = .ok (.getfield 7, 3) := by decide +kernel
theorem dX8_endsFor_125 : decode cX8_endsFor 125 = .ok (.iload_n 2, 1) := by decide +kernel
theorem dX8_endsFor_126 : decode cX8_endsFor 126 = .ok (.iconst 1, 1) := by decide +kernel
theorem dX8_endsFor_127 : decode cX8_endsFor 127 = .ok (.iadd, 1) := by decide +kernel
theorem dX8_endsFor_128 : decode cX8_endsFor 128 = .ok (.iload 4, 2) := by decide +kernel
theorem dX8_endsFor_130 : decode cX8_endsFor 130 = .ok (.iadd, 1) := by decide +kernel
theorem dX8_endsFor_131 : decode cX8_endsFor 131 = .ok (.aload_n 0, 1) := by decide +kernel
theorem dX8_endsFor_132 : decode cX8_endsFor 132 = .ok (.getfield 7, 3) := by decide +kernel
theorem dX8_endsFor_135 : decode cX8_endsFor 135 = .ok (.iload_n 2, 1) := by decide +kernel
theorem dX8_endsFor_136 : decode cX8_endsFor 136 = .ok (.iconst 1, 1) := by decide +kernel
theorem dX8_endsFor_137 : decode cX8_endsFor 137 = .ok (.iadd, 1) := by decide +kernel
theorem dX8_endsFor_138 : decode cX8_endsFor 138 = .ok (.iload 4, 2) := by decide +kernel
theorem dX8_endsFor_140 : decode cX8_endsFor 140 = .ok (.iadd, 1) := by decide +kernel
theorem dX8_endsFor_141 : decode cX8_endsFor 141 = .ok (.iconst 1, 1) := by decide +kernel
theorem dX8_endsFor_142 : decode cX8_endsFor 142 = .ok (.iadd, 1) := by decide +kernel
theorem dX8_endsFor_143 : decode cX8_endsFor 143 = .ok (.iaload, 1) := by decide +kernel
theorem dX8_endsFor_144 : decode cX8_endsFor 144 = .ok (.iastore, 1) := by decide +kernel
theorem dX8_endsFor_145 : decode cX8_endsFor 145 = .ok (.aload_n 0, 1) := by decide +kernel
theorem dX8_endsFor_146 : decode cX8_endsFor 146 = .ok (.getfield 7, 3) := by decide +kernel
theorem dX8_endsFor_149 : decode cX8_endsFor 149 = .ok (.iload_n 2, 1) := by decide +kernel
theorem dX8_endsFor_150 : decode cX8_endsFor 150 = .ok (.bipush 6, 2) := by decide +kernel
theorem dX8_endsFor_152 : decode cX8_endsFor 152 = .ok (.iadd, 1) := by decide +kernel
theorem dX8_endsFor_153 : decode cX8_endsFor 153 = .ok (.iload 4, 2) := by decide +kernel
theorem dX8_endsFor_155 : decode cX8_endsFor 155 = .ok (.iadd, 1) := by decide +kernel
theorem dX8_endsFor_156 : decode cX8_endsFor 156 = .ok (.aload_n 0, 1) := by decide +kernel
theorem dX8_endsFor_157 : decode cX8_endsFor 157 = .ok (.getfield 7, 3) := by decide +kernel
theorem dX8_endsFor_160 : decode cX8_endsFor 160 = .ok (.iload_n 2, 1) := by decide +kernel
theorem dX8_endsFor_161 : decode cX8_endsFor 161 = .ok (.bipush 6, 2) := by decide +kernel
theorem dX8_endsFor_163 : decode cX8_endsFor 163 = .ok (.iadd, 1) := by decide +kernel
theorem dX8_endsFor_164 : decode cX8_endsFor 164 = .ok (.iload 4, 2) := by decide +kernel
theorem dX8_endsFor_166 : decode cX8_endsFor 166 = .ok (.iadd, 1) := by decide +kernel
theorem dX8_endsFor_167 : decode cX8_endsFor 167 = .ok (.iconst 1, 1) := by decide +kernel
theorem dX8_endsFor_168 : decode cX8_endsFor 168 = .ok (.iadd, 1) := by decide +kernel
theorem dX8_endsFor_169 : decode cX8_endsFor 169 = .ok (.iaload, 1) := by decide +kernel
theorem dX8_endsFor_170 : decode cX8_endsFor 170 = .ok (.iastore, 1) := by decide +kernel
theorem dX8_endsFor_171 : decode cX8_endsFor 171 = .ok (.iinc 4 1, 3) := by decide +kernel
theorem dX8_endsFor_174 : decode cX8_endsFor 174 = .ok (.goto (-59), 3) := by decide +kernel
theorem dX8_endsFor_177 : decode cX8_endsFor 177 = .ok (.aload_n 0, 1) := by decide +kernel
theorem dX8_endsFor_178 : decode cX8_endsFor 178 = .ok (.getfield 7, 3) := by decide +kernel
theorem dX8_endsFor_181 : decode cX8_endsFor 181 = .ok (.iload_n 2, 1) := by decide +kernel
theorem dX8_endsFor_182 : decode cX8_endsFor 182 = .ok (.iconst 1, 1) := by decide +kernel
theorem dX8_endsFor_183 : decode cX8_endsFor 183 = .ok (.iadd, 1) := by decide +kernel
theorem dX8_endsFor_184 : decode cX8_endsFor 184 = .ok (.iconst 4, 1) := by decide +kernel
theorem dX8_endsFor_185 : decode cX8_endsFor 185 = .ok (.iadd, 1) := by decide +kernel
theorem dX8_endsFor_186 : decode cX8_endsFor 186 = .ok (.iconst 0, 1) := by decide +kernel
theorem dX8_endsFor_187 : decode cX8_endsFor 187 = .ok (.iastore, 1) := by decide +kernel
theorem dX8_endsFor_188 : decode cX8_endsFor 188 = .ok (.aload_n 0, 1) := by decide +kernel
theorem dX8_endsFor_189 : decode cX8_endsFor 189 = .ok (.getfield 7, 3) := by decide +kernel
theorem dX8_endsFor_192 : decode cX8_endsFor 192 = .ok (.iload_n 2, 1) := by decide +kernel
theorem dX8_endsFor_193 : decode cX8_endsFor 193 = .ok (.bipush 6, 2) := by decide +kernel
theorem dX8_endsFor_195 : decode cX8_endsFor 195 = .ok (.iadd, 1) := by decide +kernel
theorem dX8_endsFor_196 : decode cX8_endsFor 196 = .ok (.iconst 4, 1) := by decide +kernel
theorem dX8_endsFor_197 : decode cX8_endsFor 197 = .ok (.iadd, 1) := by decide +kernel
theorem dX8_endsFor_198 : decode cX8_endsFor 198 = .ok (.iconst 0, 1) := by decide +kernel
theorem dX8_endsFor_199 : decode cX8_endsFor 199 = .ok (.iastore, 1) := by decide +kernel
theorem dX8_endsFor_200 : decode cX8_endsFor 200 = .ok (.aload_n 0, 1) := by decide +kernel
theorem dX8_endsFor_201 : decode cX8_endsFor 201 = .ok (.getfield 7, 3) := by decide +kernel
theorem dX8_endsFor_204 : decode cX8_endsFor 204 = .ok (.iload_n 2, 1) := by decide +kernel
theorem dX8_endsFor_205 : decode cX8_endsFor 205 = .ok (.bipush 15, 2) := by decide +kernel
theorem dX8_endsFor_207 : decode cX8_endsFor 207 = .ok (.iadd, 1) := by decide +kernel
theorem dX8_endsFor_208 : decode cX8_endsFor 208 = .ok (.iconst 0, 1) := by decide +kernel
theorem dX8_endsFor_209 : decode cX8_endsFor 209 = .ok (.iastore, 1) := by decide +kernel
theorem dX8_endsFor_210 : decode cX8_endsFor 210 = .ok (.iload_n 3, 1) := by decide +kernel
theorem dX8_endsFor_211 : decode cX8_endsFor 211 = .ok (.ireturn, 1) := by decide +kernel
theorem dX8_closes_0 : decode cX8_closes 0 = .ok (.aload_n 0, 1) := by decide +kernel
theorem dX8_closes_1 : decode cX8_closes 1 = .ok (.getfield 7, 3) := by decide +kernel
theorem dX8_closes_4 : decode cX8_closes 4 = .ok (.bipush 6, 2) := by decide +kernel
theorem dX8_closes_6 : decode cX8_closes 6 = .ok (.iaload, 1) := by decide +kernel
theorem dX8_closes_7 : decode cX8_closes 7 = .ok (.ifCond .eq 15, 3) := by decide +kernel
theorem dX8_closes_10 : decode cX8_closes 10 = .ok (.aload_n 0, 1) := by decide +kernel
theorem dX8_closes_11 : decode cX8_closes 11 = .ok (.getfield 7, 3) := by decide +kernel
theorem dX8_closes_14 : decode cX8_closes 14 = .ok (.iconst 4, 1) := by decide +kernel
theorem dX8_closes_15 : decode cX8_closes 15 = .ok (.iaload, 1) := by decide +kernel
theorem dX8_closes_16 : decode cX8_closes 16 = .ok (.sipush 9999, 3) := by decide +kernel
theorem dX8_closes_19 : decode cX8_closes 19 = .ok (.if_icmp .ne 6, 3) := by decide +kernel
theorem dX8_closes_22 : decode cX8_closes 22 = .ok (.bipush (-5), 2) := by decide +kernel
theorem dX8_closes_24 : decode cX8_closes 24 = .ok (.ireturn, 1) := by decide +kernel
theorem dX8_closes_25 : decode cX8_closes 25 = .ok (.iconst 0, 1) := by decide +kernel
theorem dX8_closes_26 : decode cX8_closes 26 = .ok (.istore_n 1, 1) := by decide +kernel
theorem dX8_closes_27 : decode cX8_closes 27 = .ok (.iconst 0, 1) := by decide +kernel
theorem dX8_closes_28 : decode cX8_closes 28 = .ok (.istore_n 2, 1) := by decide +kernel
theorem dX8_closes_29 : decode cX8_closes 29 = .ok (.iload_n 2, 1) := by decide +kernel
theorem dX8_closes_30 : decode cX8_closes 30 = .ok (.aload_n 0, 1) := by decide +kernel
theorem dX8_closes_31 : decode cX8_closes 31 = .ok (.getfield 7, 3) := by decide +kernel
theorem dX8_closes_34 : decode cX8_closes 34 = .ok (.iconst 5, 1) := by decide +kernel
theorem dX8_closes_35 : decode cX8_closes 35 = .ok (.iaload, 1) := by decide +kernel
theorem dX8_closes_36 : decode cX8_closes 36 = .ok (.if_icmp .ge 17, 3) := by decide +kernel
theorem dX8_closes_39 : decode cX8_closes 39 = .ok (.iload_n 1, 1) := by decide +kernel
theorem dX8_closes_40 : decode cX8_closes 40 = .ok (.aload_n 0, 1) := by decide +kernel
theorem dX8_closes_41 : decode cX8_closes 41 = .ok (.iload_n 2, 1) := by decide +kernel
theorem dX8_closes_42 : decode cX8_closes 42 = .ok (.invokevirtual 85, 3) := by decide +kernel
theorem dX8_closes_45 : decode cX8_closes 45 = .ok (.iadd, 1) := by decide +kernel
theorem dX8_closes_46 : decode cX8_closes 46 = .ok (.istore_n 1, 1) := by decide +kernel
theorem dX8_closes_47 : decode cX8_closes 47 = .ok (.iinc 2 1, 3) := by decide +kernel
theorem dX8_closes_50 : decode cX8_closes 50 = .ok (.goto (-21), 3) := by decide +kernel
theorem dX8_closes_53 : decode cX8_closes 53 = .ok (.iconst 0, 1) := by decide +kernel
theorem dX8_closes_54 : decode cX8_closes 54 = .ok (.istore_n 2, 1) := by decide +kernel
theorem dX8_closes_55 : decode cX8_closes 55 = .ok (.iload_n 2, 1) := by decide +kernel
theorem dX8_closes_56 : decode cX8_closes 56 = .ok (.iconst 3, 1) := by decide +kernel
theorem dX8_closes_57 : decode cX8_closes 57 = .ok (.if_icmp .ge 100, 3) := by decide +kernel
theorem dX8_closes_60 : decode cX8_closes 60 = .ok (.iload_n 2, 1) := by decide +kernel
theorem dX8_closes_61 : decode cX8_closes 61 = .ok (.invokestatic 51, 3) := by decide +kernel
theorem dX8_closes_64 : decode cX8_closes 64 = .ok (.istore_n 3, 1) := by decide +kernel
theorem dX8_closes_65 : decode cX8_closes 65 = .ok (.aload_n 0, 1) := by decide +kernel
theorem dX8_closes_66 : decode cX8_closes 66 = .ok (.getfield 7, 3) := by decide +kernel
theorem dX8_closes_69 : decode cX8_closes 69 = .ok (.iload_n 3, 1) := by decide +kernel
theorem dX8_closes_70 : decode cX8_closes 70 = .ok (.iconst 1, 1) := by decide +kernel
theorem dX8_closes_71 : decode cX8_closes 71 = .ok (.iadd, 1) := by decide +kernel
theorem dX8_closes_72 : decode cX8_closes 72 = .ok (.iaload, 1) := by decide +kernel
theorem dX8_closes_73 : decode cX8_closes 73 = .ok (.aload_n 0, 1) := by decide +kernel
theorem dX8_closes_74 : decode cX8_closes 74 = .ok (.getfield 7, 3) := by decide +kernel
theorem dX8_closes_77 : decode cX8_closes 77 = .ok (.iconst 1, 1) := by decide +kernel
theorem dX8_closes_78 : decode cX8_closes 78 = .ok (.iaload, 1) := by decide +kernel
theorem dX8_closes_79 : decode cX8_closes 79 = .ok (.if_icmp .ge 14, 3) := by decide +kernel
theorem dX8_closes_82 : decode cX8_closes 82 = .ok (.aload_n 0, 1) := by decide +kernel
theorem dX8_closes_83 : decode cX8_closes 83 = .ok (.getfield 7, 3) := by decide +kernel
theorem dX8_closes_86 : decode cX8_closes 86 = .ok (.iload_n 3, 1) := by decide +kernel
theorem dX8_closes_87 : decode cX8_closes 87 = .ok (.iconst 1, 1) := by decide +kernel
theorem dX8_closes_88 : decode cX8_closes 88 = .ok (.iadd, 1) := by decide +kernel
theorem dX8_closes_89 : decode cX8_closes 89 = .ok (.iaload, 1) := by decide +kernel
theorem dX8_closes_90 : decode cX8_closes 90 = .ok (.goto 9, 3) := by decide +kernel
theorem dX8_closes_93 : decode cX8_closes 93 = .ok (.aload_n 0, 1) := by decide +kernel
theorem dX8_closes_94 : decode cX8_closes 94 = .ok (.getfield 7, 3) := by decide +kernel
theorem dX8_closes_97 : decode cX8_closes 97 = .ok (.iconst 1, 1) := by decide +kernel
theorem dX8_closes_98 : decode cX8_closes 98 = .ok (.iaload, 1) := by decide +kernel
theorem dX8_closes_99 : decode cX8_closes 99 = .ok (.istore 4, 2) := by decide +kernel
theorem dX8_closes_101 : decode cX8_closes 101 = .ok (.aload_n 0, 1) := by decide +kernel
theorem dX8_closes_102 : decode cX8_closes 102 = .ok (.getfield 7, 3) := by decide +kernel
theorem dX8_closes_105 : decode cX8_closes 105 = .ok (.iload_n 3, 1) := by decide +kernel
theorem dX8_closes_106 : decode cX8_closes 106 = .ok (.iconst 4, 1) := by decide +kernel
theorem dX8_closes_107 : decode cX8_closes 107 = .ok (.iadd, 1) := by decide +kernel
theorem dX8_closes_108 : decode cX8_closes 108 = .ok (.dup2, 1) := by decide +kernel
theorem dX8_closes_109 : decode cX8_closes 109 = .ok (.iaload, 1) := by decide +kernel
theorem dX8_closes_110 : decode cX8_closes 110 = .ok (.aload_n 0, 1) := by decide +kernel
theorem dX8_closes_111 : decode cX8_closes 111 = .ok (.getfield 7, 3) := by decide +kernel
theorem dX8_closes_114 : decode cX8_closes 114 = .ok (.iload_n 3, 1) := by decide +kernel
theorem dX8_closes_115 : decode cX8_closes 115 = .ok (.iconst 0, 1) := by decide +kernel
theorem dX8_closes_116 : decode cX8_closes 116 = .ok (.iadd, 1) := by decide +kernel
theorem dX8_closes_117 : decode cX8_closes 117 = .ok (.iaload, 1) := by decide +kernel
theorem dX8_closes_118 : decode cX8_closes 118 = .ok (.aload_n 0, 1) := by decide +kernel
theorem dX8_closes_119 : decode cX8_closes 119 = .ok (.getfield 7, 3) := by decide +kernel
theorem dX8_closes_122 : decode cX8_closes 122 = .ok (.iload_n 3, 1) := by decide +kernel
theorem dX8_closes_123 : decode cX8_closes 123 = .ok (.iconst 1, 1) := by decide +kernel
theorem dX8_closes_124 : decode cX8_closes 124 = .ok (.iadd, 1) := by decide +kernel
theorem dX8_closes_125 : decode cX8_closes 125 = .ok (.iaload, 1) := by decide +kernel
theorem dX8_closes_126 : decode cX8_closes 126 = .ok (.iadd, 1) := by decide +kernel
theorem dX8_closes_127 : decode cX8_closes 127 = .ok (.iload 4, 2) := by decide +kernel
theorem dX8_closes_129 : decode cX8_closes 129 = .ok (.isub, 1) := by decide +kernel
theorem dX8_closes_130 : decode cX8_closes 130 = .ok (.iadd, 1) := by decide +kernel
theorem dX8_closes_131 : decode cX8_closes 131 = .ok (.iastore, 1) := by decide +kernel
theorem dX8_closes_132 : decode cX8_closes 132 = .ok (.aload_n 0, 1) := by decide +kernel
theorem dX8_closes_133 : decode cX8_closes 133 = .ok (.getfield 7, 3) := by decide +kernel
theorem dX8_closes_136 : decode cX8_closes 136 = .ok (.iload_n 3, 1) := by decide +kernel
theorem dX8_closes_137 : decode cX8_closes 137 = .ok (.iconst 0, 1) := by decide +kernel
theorem dX8_closes_138 : decode cX8_closes 138 = .ok (.iadd, 1) := by decide +kernel
theorem dX8_closes_139 : decode cX8_closes 139 = .ok (.iload 4, 2) := by decide +kernel
theorem dX8_closes_141 : decode cX8_closes 141 = .ok (.iastore, 1) := by decide +kernel
theorem dX8_closes_142 : decode cX8_closes 142 = .ok (.aload_n 0, 1) := by decide +kernel
theorem dX8_closes_143 : decode cX8_closes 143 = .ok (.getfield 7, 3) := by decide +kernel
theorem dX8_closes_146 : decode cX8_closes 146 = .ok (.iload_n 3, 1) := by decide +kernel
theorem dX8_closes_147 : decode cX8_closes 147 = .ok (.iconst 1, 1) := by decide +kernel
theorem dX8_closes_148 : decode cX8_closes 148 = .ok (.iadd, 1) := by decide +kernel
theorem dX8_closes_149 : decode cX8_closes 149 = .ok (.iconst 0, 1) := by decide +kernel
theorem dX8_closes_150 : decode cX8_closes 150 = .ok (.iastore, 1) := by decide +kernel
theorem dX8_closes_151 : decode cX8_closes 151 = .ok (.iinc 2 1, 3) := by decide +kernel
theorem dX8_closes_154 : decode cX8_closes 154 = .ok (.goto (-99), 3) := by decide +kernel
theorem dX8_closes_157 : decode cX8_closes 157 = .ok (.aload_n 0, 1) := by decide +kernel
theorem dX8_closes_158 : decode cX8_closes 158 = .ok (.getfield 7, 3) := by decide +kernel
theorem dX8_closes_161 : decode cX8_closes 161 = .ok (.bipush 7, 2) := by decide +kernel
theorem dX8_closes_163 : decode cX8_closes 163 = .ok (.dup2, 1) := by decide +kernel
theorem dX8_closes_164 : decode cX8_closes 164 = .ok (.iaload, 1) := by decide +kernel
theorem dX8_closes_165 : decode cX8_closes 165 = .ok (.iload_n 1, 1) := by decide +kernel
theorem dX8_closes_166 : decode cX8_closes 166 = .ok (.iadd, 1) := by decide +kernel
theorem dX8_closes_167 : decode cX8_closes 167 = .ok (.iastore, 1) := by decide +kernel
theorem dX8_closes_168 : decode cX8_closes 168 = .ok (.aload_n 0, 1) := by decide +kernel
theorem dX8_closes_169 : decode cX8_closes 169 = .ok (.getfield 7, 3) := by decide +kernel
theorem dX8_closes_172 : decode cX8_closes 172 = .ok (.iconst 4, 1) := by decide +kernel
theorem dX8_closes_173 : decode cX8_closes 173 = .ok (.dup2, 1) := by decide +kernel
theorem dX8_closes_174 : decode cX8_closes 174 = .ok (.iaload, 1) := by decide +kernel
theorem dX8_closes_175 : decode cX8_closes 175 = .ok (.iconst 1, 1) := by decide +kernel
theorem dX8_closes_176 : decode cX8_closes 176 = .ok (.iadd, 1) := by decide +kernel
theorem dX8_closes_177 : decode cX8_closes 177 = .ok (.iastore, 1) := by decide +kernel
theorem dX8_closes_178 : decode cX8_closes 178 = .ok (.aload_n 0, 1) := by decide +kernel
theorem dX8_closes_179 : decode cX8_closes 179 = .ok (.getfield 7, 3) := by decide +kernel
theorem dX8_closes_182 : decode cX8_closes 182 = .ok (.bipush 6, 2) := by decide +kernel
theorem dX8_closes_184 : decode cX8_closes 184 = .ok (.iconst 0, 1) := by decide +kernel
theorem dX8_closes_185 : decode cX8_closes 185 = .ok (.iastore, 1) := by decide +kernel
theorem dX8_closes_186 : decode cX8_closes 186 = .ok (.iload_n 1, 1) := by decide +kernel
theorem dX8_closes_187 : decode cX8_closes 187 = .ok (.ireturn, 1) := by decide +kernel
theorem dX8_set_0 : decode cX8_set 0 = .ok (.iload_n 1, 1) := by decide +kernel
theorem dX8_set_1 : decode cX8_set 1 = .ok (.ifCond .ne 13, 3) := by decide +kernel
theorem dX8_set_4 : decode cX8_set 4 = .ok (.iload_n 2, 1) := by decide +kernel
theorem dX8_set_5 : decode cX8_set 5 = .ok (.iconst 0, 1) := by decide +kernel
theorem dX8_set_6 : decode cX8_set 6 = .ok (.bipush 9, 2) := by decide +kernel
theorem dX8_set_8 : decode cX8_set 8 = .ok (.invokestatic 33, 3) := by decide +kernel
theorem dX8_set_11 : decode cX8_set 11 = .ok (.goto 53, 3) := by decide +kernel
theorem dX8_set_14 : decode cX8_set 14 = .ok (.iload_n 1, 1) := by decide +kernel
theorem dX8_set_15 : decode cX8_set 15 = .ok (.iconst 1, 1) := by decide +kernel
theorem dX8_set_16 : decode cX8_set 16 = .ok (.if_icmp .ne 13, 3) := by decide +kernel
theorem dX8_set_19 : decode cX8_set 19 = .ok (.iload_n 2, 1) := by decide +kernel
theorem dX8_set_20 : decode cX8_set 20 = .ok (.iconst 0, 1) := by decide +kernel
theorem dX8_set_21 : decode cX8_set 21 = .ok (.bipush 20, 2) := by decide +kernel
theorem dX8_set_23 : decode cX8_set 23 = .ok (.invokestatic 33, 3) := by decide +kernel
theorem dX8_set_26 : decode cX8_set 26 = .ok (.goto 38, 3) := by decide +kernel
theorem dX8_set_29 : decode cX8_set 29 = .ok (.iload_n 1, 1) := by decide +kernel
theorem dX8_set_30 : decode cX8_set 30 = .ok (.iconst 2, 1) := by decide +kernel
theorem dX8_set_31 : decode cX8_set 31 = .ok (.if_icmp .ne 13, 3) := by decide +kernel
theorem dX8_set_34 : decode cX8_set 34 = .ok (.iload_n 2, 1) := by decide +kernel
theorem dX8_set_35 : decode cX8_set 35 = .ok (.iconst 1, 1) := by decide +kernel
theorem dX8_set_36 : decode cX8_set 36 = .ok (.bipush 9, 2) := by decide +kernel
theorem dX8_set_38 : decode cX8_set 38 = .ok (.invokestatic 33, 3) := by decide +kernel
theorem dX8_set_41 : decode cX8_set 41 = .ok (.goto 23, 3) := by decide +kernel
theorem dX8_set_44 : decode cX8_set 44 = .ok (.iload_n 1, 1) := by decide +kernel
theorem dX8_set_45 : decode cX8_set 45 = .ok (.iconst 3, 1) := by decide +kernel
theorem dX8_set_46 : decode cX8_set 46 = .ok (.if_icmp .ne 17, 3) := by decide +kernel
theorem dX8_set_49 : decode cX8_set 49 = .ok (.iload_n 2, 1) := by decide +kernel
theorem dX8_set_50 : decode cX8_set 50 = .ok (.iconst 1, 1) := by decide +kernel
theorem dX8_set_51 : decode cX8_set 51 = .ok (.bipush 20, 2) := by decide +kernel
theorem dX8_set_53 : decode cX8_set 53 = .ok (.invokestatic 33, 3) := by decide +kernel
theorem dX8_set_56 : decode cX8_set 56 = .ok (.ifCond .eq 7, 3) := by decide +kernel
theorem dX8_set_59 : decode cX8_set 59 = .ok (.iconst 1, 1) := by decide +kernel
theorem dX8_set_60 : decode cX8_set 60 = .ok (.goto 4, 3) := by decide +kernel
theorem dX8_set_63 : decode cX8_set 63 = .ok (.iconst 0, 1) := by decide +kernel
theorem dX8_set_64 : decode cX8_set 64 = .ok (.istore_n 3, 1) := by decide +kernel
theorem dX8_set_65 : decode cX8_set 65 = .ok (.iload_n 3, 1) := by decide +kernel
theorem dX8_set_66 : decode cX8_set 66 = .ok (.ifCond .ne 6, 3) := by decide +kernel
theorem dX8_set_69 : decode cX8_set 69 = .ok (.bipush (-2), 2) := by decide +kernel
theorem dX8_set_71 : decode cX8_set 71 = .ok (.ireturn, 1) := by decide +kernel
theorem dX8_set_72 : decode cX8_set 72 = .ok (.aload_n 0, 1) := by decide +kernel
theorem dX8_set_73 : decode cX8_set 73 = .ok (.invokevirtual 88, 3) := by decide +kernel
theorem dX8_set_76 : decode cX8_set 76 = .ok (.aload_n 0, 1) := by decide +kernel
theorem dX8_set_77 : decode cX8_set 77 = .ok (.getfield 7, 3) := by decide +kernel
theorem dX8_set_80 : decode cX8_set 80 = .ok (.iload_n 1, 1) := by decide +kernel
theorem dX8_set_81 : decode cX8_set 81 = .ok (.iaload, 1) := by decide +kernel
theorem dX8_set_82 : decode cX8_set 82 = .ok (.istore 4, 2) := by decide +kernel
theorem dX8_set_84 : decode cX8_set 84 = .ok (.aload_n 0, 1) := by decide +kernel
theorem dX8_set_85 : decode cX8_set 85 = .ok (.getfield 7, 3) := by decide +kernel
theorem dX8_set_88 : decode cX8_set 88 = .ok (.iload_n 1, 1) := by decide +kernel
theorem dX8_set_89 : decode cX8_set 89 = .ok (.iload_n 2, 1) := by decide +kernel
theorem dX8_set_90 : decode cX8_set 90 = .ok (.iastore, 1) := by decide +kernel
theorem dX8_set_91 : decode cX8_set 91 = .ok (.aload_n 0, 1) := by decide +kernel
theorem dX8_set_92 : decode cX8_set 92 = .ok (.iload 4, 2) := by decide +kernel
theorem dX8_set_94 : decode cX8_set 94 = .ok (.invokevirtual 91, 3) := by decide +kernel
theorem dX8_set_97 : decode cX8_set 97 = .ok (.ireturn, 1) := by decide +kernel
theorem dX8_price_0 : decode cX8_price 0 = .ok (.iload_n 1, 1) := by decide +kernel
theorem dX8_price_1 : decode cX8_price 1 = .ok (.iconst 0, 1) := by decide +kernel
theorem dX8_price_2 : decode cX8_price 2 = .ok (.iconst 4, 1) := by decide +kernel
theorem dX8_price_3 : decode cX8_price 3 = .ok (.invokestatic 33, 3) := by decide +kernel
theorem dX8_price_6 : decode cX8_price 6 = .ok (.ifCond .eq 10, 3) := by decide +kernel
theorem dX8_price_9 : decode cX8_price 9 = .ok (.iload_n 2, 1) := by decide +kernel
theorem dX8_price_10 : decode cX8_price 10 = .ok (.invokestatic 66, 3) := by decide +kernel
theorem dX8_price_13 : decode cX8_price 13 = .ok (.ifCond .ne 5, 3) := by decide +kernel
theorem dX8_price_16 : decode cX8_price 16 = .ok (.iconst (-1), 1) := by decide +kernel
theorem dX8_price_17 : decode cX8_price 17 = .ok (.ireturn, 1) := by decide +kernel
theorem dX8_price_18 : decode cX8_price 18 = .ok (.iload_n 3, 1) := by decide +kernel
theorem dX8_price_19 : decode cX8_price 19 = .ok (.iconst 1, 1) := by decide +kernel
theorem dX8_price_20 : decode cX8_price 20 = .ok (.iconst 3, 1) := by decide +kernel
theorem dX8_price_21 : decode cX8_price 21 = .ok (.invokestatic 33, 3) := by decide +kernel
theorem dX8_price_24 : decode cX8_price 24 = .ok (.ifCond .ne 6, 3) := by decide +kernel
theorem dX8_price_27 : decode cX8_price 27 = .ok (.bipush (-2), 2) := by decide +kernel
theorem dX8_price_29 : decode cX8_price 29 = .ok (.ireturn, 1) := by decide +kernel
theorem dX8_price_30 : decode cX8_price 30 = .ok (.aload_n 0, 1) := by decide +kernel
theorem dX8_price_31 : decode cX8_price 31 = .ok (.invokevirtual 88, 3) := by decide +kernel
theorem dX8_price_34 : decode cX8_price 34 = .ok (.aload_n 0, 1) := by decide +kernel
theorem dX8_price_35 : decode cX8_price 35 = .ok (.getfield 7, 3) := by decide +kernel
theorem dX8_price_38 : decode cX8_price 38 = .ok (.bipush 8, 2) := by decide +kernel
theorem dX8_price_40 : decode cX8_price 40 = .ok (.iconst 3, 1) := by decide +kernel
theorem dX8_price_41 : decode cX8_price 41 = .ok (.iload_n 1, 1) := by decide +kernel
theorem dX8_price_42 : decode cX8_price 42 = .ok (.imul, 1) := by decide +kernel
theorem dX8_price_43 : decode cX8_price 43 = .ok (.iadd, 1) := by decide +kernel
theorem dX8_price_44 : decode cX8_price 44 = .ok (.iload_n 2, 1) := by decide +kernel
theorem dX8_price_45 : decode cX8_price 45 = .ok (.iadd, 1) := by decide +kernel
theorem dX8_price_46 : decode cX8_price 46 = .ok (.iaload, 1) := by decide +kernel
theorem dX8_price_47 : decode cX8_price 47 = .ok (.istore 4, 2) := by decide +kernel
theorem dX8_price_49 : decode cX8_price 49 = .ok (.aload_n 0, 1) := by decide +kernel
theorem dX8_price_50 : decode cX8_price 50 = .ok (.getfield 7, 3) := by decide +kernel
theorem dX8_price_53 : decode cX8_price 53 = .ok (.bipush 8, 2) := by decide +kernel
theorem dX8_price_55 : decode cX8_price 55 = .ok (.iconst 3, 1) := by decide +kernel
theorem dX8_price_56 : decode cX8_price 56 = .ok (.iload_n 1, 1) := by decide +kernel
theorem dX8_price_57 : decode cX8_price 57 = .ok (.imul, 1) := by decide +kernel
theorem dX8_price_58 : decode cX8_price 58 = .ok (.iadd, 1) := by decide +kernel
theorem dX8_price_59 : decode cX8_price 59 = .ok (.iload_n 2, 1) := by decide +kernel
theorem dX8_price_60 : decode cX8_price 60 = .ok (.iadd, 1) := by decide +kernel
theorem dX8_price_61 : decode cX8_price 61 = .ok (.iload_n 3, 1) := by decide +kernel
theorem dX8_price_62 : decode cX8_price 62 = .ok (.iastore, 1) := by decide +kernel
theorem dX8_price_63 : decode cX8_price 63 = .ok (.aload_n 0, 1) := by decide +kernel
theorem dX8_price_64 : decode cX8_price 64 = .ok (.iload 4, 2) := by decide +kernel
theorem dX8_price_66 : decode cX8_price 66 = .ok (.invokevirtual 91, 3) := by decide +kernel
theorem dX8_price_69 : decode cX8_price 69 = .ok (.ireturn, 1) := by decide +kernel
theorem dX8_person_0 : decode cX8_person 0 = .ok (.aload_n 0, 1) := by decide +kernel
theorem dX8_person_1 : decode cX8_person 1 = .ok (.invokevirtual 88, 3) := by decide +kernel
theorem dX8_person_4 : decode cX8_person 4 = .ok (.aload_n 0, 1) := by decide +kernel
theorem dX8_person_5 : decode cX8_person 5 = .ok (.aload_n 0, 1) := by decide +kernel
theorem dX8_person_6 : decode cX8_person 6 = .ok (.invokevirtual 94, 3) := by decide +kernel
theorem dX8_person_9 : decode cX8_person 9 = .ok (.invokevirtual 91, 3) := by decide +kernel
theorem dX8_person_12 : decode cX8_person 12 = .ok (.ireturn, 1) := by decide +kernel
theorem dX8_vouchers_0 : decode cX8_vouchers 0 = .ok (.aload_n 0, 1) := by decide +kernel
theorem dX8_vouchers_1 : decode cX8_vouchers 1 = .ok (.invokevirtual 88, 3) := by decide +kernel
theorem dX8_vouchers_4 : decode cX8_vouchers 4 = .ok (.aload_n 0, 1) := by decide +kernel
theorem dX8_vouchers_5 : decode cX8_vouchers 5 = .ok (.aload_n 0, 1) := by decide +kernel
theorem dX8_vouchers_6 : decode cX8_vouchers 6 = .ok (.iload_n 1, 1) := by decide +kernel
theorem dX8_vouchers_7 : decode cX8_vouchers 7 = .ok (.iload_n 2, 1) := by decide +kernel
theorem dX8_vouchers_8 : decode cX8_vouchers 8 = .ok (.invokevirtual 98, 3) := by decide +kernel
theorem dX8_vouchers_11 : decode cX8_vouchers 11 = .ok (.invokevirtual 91, 3) := by decide +kernel
theorem dX8_vouchers_14 : decode cX8_vouchers 14 = .ok (.ireturn, 1) := by decide +kernel
theorem dX8_order_0 : decode cX8_order 0 = .ok (.aload_n 0, 1) := by decide +kernel
theorem dX8_order_1 : decode cX8_order 1 = .ok (.invokevirtual 88, 3) := by decide +kernel
theorem dX8_order_4 : decode cX8_order 4 = .ok (.aload_n 0, 1) := by decide +kernel
theorem dX8_order_5 : decode cX8_order 5 = .ok (.aload_n 0, 1) := by decide +kernel
theorem dX8_order_6 : decode cX8_order 6 = .ok (.iload_n 1, 1) := by decide +kernel
theorem dX8_order_7 : decode cX8_order 7 = .ok (.iload_n 2, 1) := by decide +kernel
theorem dX8_order_8 : decode cX8_order 8 = .ok (.iload_n 3, 1) := by decide +kernel
theorem dX8_order_9 : decode cX8_order 9 = .ok (.invokevirtual 101, 3) := by decide +kernel
theorem dX8_order_12 : decode cX8_order 12 = .ok (.invokevirtual 91, 3) := by decide +kernel
theorem dX8_order_15 : decode cX8_order 15 = .ok (.ireturn, 1) := by decide +kernel
theorem dX8_callOff_0 : decode cX8_callOff 0 = .ok (.aload_n 0, 1) := by decide +kernel
theorem dX8_callOff_1 : decode cX8_callOff 1 = .ok (.iload_n 1, 1) := by decide +kernel
theorem dX8_callOff_2 : decode cX8_callOff 2 = .ok (.invokevirtual 54, 3) := by decide +kernel
theorem dX8_callOff_5 : decode cX8_callOff 5 = .ok (.ifCond .ne 5, 3) := by decide +kernel
theorem dX8_callOff_8 : decode cX8_callOff 8 = .ok (.iconst (-1), 1) := by decide +kernel
theorem dX8_callOff_9 : decode cX8_callOff 9 = .ok (.ireturn, 1) := by decide +kernel
theorem dX8_callOff_10 : decode cX8_callOff 10 = .ok (.iload_n 2, 1) := by decide +kernel
theorem dX8_callOff_11 : decode cX8_callOff 11 = .ok (.iconst 1, 1) := by decide +kernel
theorem dX8_callOff_12 : decode cX8_callOff 12 = .ok (.iconst 4, 1) := by decide +kernel
theorem dX8_callOff_13 : decode cX8_callOff 13 = .ok (.invokestatic 33, 3) := by decide +kernel
theorem dX8_callOff_16 : decode cX8_callOff 16 = .ok (.ifCond .ne 6, 3) := by decide +kernel
theorem dX8_callOff_19 : decode cX8_callOff 19 = .ok (.bipush (-2), 2) := by decide +kernel
theorem dX8_callOff_21 : decode cX8_callOff 21 = .ok (.ireturn, 1) := by decide +kernel
theorem dX8_callOff_22 : decode cX8_callOff 22 = .ok (.iload_n 1, 1) := by decide +kernel
theorem dX8_callOff_23 : decode cX8_callOff 23 = .ok (.invokestatic 41, 3) := by decide +kernel
theorem dX8_callOff_26 : decode cX8_callOff 26 = .ok (.istore_n 3, 1) := by decide +kernel
theorem dX8_callOff_27 : decode cX8_callOff 27 = .ok (.aload_n 0, 1) := by decide +kernel
theorem dX8_callOff_28 : decode cX8_callOff 28 = .ok (.getfield 7, 3) := by decide +kernel
theorem dX8_callOff_31 : decode cX8_callOff 31 = .ok (.iload_n 3, 1) := by decide +kernel
theorem dX8_callOff_32 : decode cX8_callOff 32 = .ok (.iconst 1, 1) := by decide +kernel
theorem dX8_callOff_33 : decode cX8_callOff 33 = .ok (.iadd, 1) := by decide +kernel
theorem dX8_callOff_34 : decode cX8_callOff 34 = .ok (.iload_n 2, 1) := by decide +kernel
theorem dX8_callOff_35 : decode cX8_callOff 35 = .ok (.iadd, 1) := by decide +kernel
theorem dX8_callOff_36 : decode cX8_callOff 36 = .ok (.iaload, 1) := by decide +kernel
theorem dX8_callOff_37 : decode cX8_callOff 37 = .ok (.ifCond .ne 6, 3) := by decide +kernel
theorem dX8_callOff_40 : decode cX8_callOff 40 = .ok (.bipush (-5), 2) := by decide +kernel
theorem dX8_callOff_42 : decode cX8_callOff 42 = .ok (.ireturn, 1) := by decide +kernel
theorem dX8_callOff_43 : decode cX8_callOff 43 = .ok (.aload_n 0, 1) := by decide +kernel
theorem dX8_callOff_44 : decode cX8_callOff 44 = .ok (.invokevirtual 88, 3) := by decide +kernel
theorem dX8_callOff_47 : decode cX8_callOff 47 = .ok (.aload_n 0, 1) := by decide +kernel
theorem dX8_callOff_48 : decode cX8_callOff 48 = .ok (.getfield 7, 3) := by decide +kernel
theorem dX8_callOff_51 : decode cX8_callOff 51 = .ok (.iload_n 3, 1) := by decide +kernel
theorem dX8_callOff_52 : decode cX8_callOff 52 = .ok (.iconst 1, 1) := by decide +kernel
theorem dX8_callOff_53 : decode cX8_callOff 53 = .ok (.iadd, 1) := by decide +kernel
theorem dX8_callOff_54 : decode cX8_callOff 54 = .ok (.iload_n 2, 1) := by decide +kernel
theorem dX8_callOff_55 : decode cX8_callOff 55 = .ok (.iadd, 1) := by decide +kernel
theorem dX8_callOff_56 : decode cX8_callOff 56 = .ok (.iconst 0, 1) := by decide +kernel
theorem dX8_callOff_57 : decode cX8_callOff 57 = .ok (.iastore, 1) := by decide +kernel
theorem dX8_callOff_58 : decode cX8_callOff 58 = .ok (.aload_n 0, 1) := by decide +kernel
theorem dX8_callOff_59 : decode cX8_callOff 59 = .ok (.iload_n 1, 1) := by decide +kernel
theorem dX8_callOff_60 : decode cX8_callOff 60 = .ok (.aload_n 0, 1) := by decide +kernel
theorem dX8_callOff_61 : decode cX8_callOff 61 = .ok (.getfield 7, 3) := by decide +kernel
theorem dX8_callOff_64 : decode cX8_callOff 64 = .ok (.iload_n 3, 1) := by decide +kernel
theorem dX8_callOff_65 : decode cX8_callOff 65 = .ok (.bipush 6, 2) := by decide +kernel
theorem dX8_callOff_67 : decode cX8_callOff 67 = .ok (.iadd, 1) := by decide +kernel
theorem dX8_callOff_68 : decode cX8_callOff 68 = .ok (.iload_n 2, 1) := by decide +kernel
theorem dX8_callOff_69 : decode cX8_callOff 69 = .ok (.iadd, 1) := by decide +kernel
theorem dX8_callOff_70 : decode cX8_callOff 70 = .ok (.iaload, 1) := by decide +kernel
theorem dX8_callOff_71 : decode cX8_callOff 71 = .ok (.invokevirtual 58, 3) := by decide +kernel
theorem dX8_callOff_74 : decode cX8_callOff 74 = .ok (.aload_n 0, 1) := by decide +kernel
theorem dX8_callOff_75 : decode cX8_callOff 75 = .ok (.getfield 7, 3) := by decide +kernel
theorem dX8_callOff_78 : decode cX8_callOff 78 = .ok (.iload_n 3, 1) := by decide +kernel
theorem dX8_callOff_79 : decode cX8_callOff 79 = .ok (.bipush 6, 2) := by decide +kernel
theorem dX8_callOff_81 : decode cX8_callOff 81 = .ok (.iadd, 1) := by decide +kernel
theorem dX8_callOff_82 : decode cX8_callOff 82 = .ok (.iload_n 2, 1) := by decide +kernel
theorem dX8_callOff_83 : decode cX8_callOff 83 = .ok (.iadd, 1) := by decide +kernel
theorem dX8_callOff_84 : decode cX8_callOff 84 = .ok (.iconst 0, 1) := by decide +kernel
theorem dX8_callOff_85 : decode cX8_callOff 85 = .ok (.iastore, 1) := by decide +kernel
theorem dX8_callOff_86 : decode cX8_callOff 86 = .ok (.aload_n 0, 1) := by decide +kernel
theorem dX8_callOff_87 : decode cX8_callOff 87 = .ok (.aload_n 0, 1) := by decide +kernel
theorem dX8_callOff_88 : decode cX8_callOff 88 = .ok (.getfield 7, 3) := by decide +kernel
theorem dX8_callOff_91 : decode cX8_callOff 91 = .ok (.iload_n 3, 1) := by decide +kernel
theorem dX8_callOff_92 : decode cX8_callOff 92 = .ok (.iconst 0, 1) := by decide +kernel
theorem dX8_callOff_93 : decode cX8_callOff 93 = .ok (.iadd, 1) := by decide +kernel
theorem dX8_callOff_94 : decode cX8_callOff 94 = .ok (.iaload, 1) := by decide +kernel
theorem dX8_callOff_95 : decode cX8_callOff 95 = .ok (.invokevirtual 91, 3) := by decide +kernel
theorem dX8_callOff_98 : decode cX8_callOff 98 = .ok (.ireturn, 1) := by decide +kernel
theorem dX8_cook_0 : decode cX8_cook 0 = .ok (.aload_n 0, 1) := by decide +kernel
theorem dX8_cook_1 : decode cX8_cook 1 = .ok (.invokevirtual 88, 3) := by decide +kernel
theorem dX8_cook_4 : decode cX8_cook 4 = .ok (.aload_n 0, 1) := by decide +kernel
theorem dX8_cook_5 : decode cX8_cook 5 = .ok (.aload_n 0, 1) := by decide +kernel
theorem dX8_cook_6 : decode cX8_cook 6 = .ok (.invokevirtual 104, 3) := by decide +kernel
theorem dX8_cook_9 : decode cX8_cook 9 = .ok (.invokevirtual 91, 3) := by decide +kernel
theorem dX8_cook_12 : decode cX8_cook 12 = .ok (.ireturn, 1) := by decide +kernel
theorem dX8_come_0 : decode cX8_come 0 = .ok (.aload_n 0, 1) := by decide +kernel
theorem dX8_come_1 : decode cX8_come 1 = .ok (.invokevirtual 88, 3) := by decide +kernel
theorem dX8_come_4 : decode cX8_come 4 = .ok (.aload_n 0, 1) := by decide +kernel
theorem dX8_come_5 : decode cX8_come 5 = .ok (.aload_n 0, 1) := by decide +kernel
theorem dX8_come_6 : decode cX8_come 6 = .ok (.iload_n 1, 1) := by decide +kernel
theorem dX8_come_7 : decode cX8_come 7 = .ok (.invokevirtual 107, 3) := by decide +kernel
theorem dX8_come_10 : decode cX8_come 10 = .ok (.invokevirtual 91, 3) := by decide +kernel
theorem dX8_come_13 : decode cX8_come 13 = .ok (.ireturn, 1) := by decide +kernel
theorem dX8_buy_0 : decode cX8_buy 0 = .ok (.aload_n 0, 1) := by decide +kernel
theorem dX8_buy_1 : decode cX8_buy 1 = .ok (.invokevirtual 88, 3) := by decide +kernel
theorem dX8_buy_4 : decode cX8_buy 4 = .ok (.aload_n 0, 1) := by decide +kernel
theorem dX8_buy_5 : decode cX8_buy 5 = .ok (.aload_n 0, 1) := by decide +kernel
theorem dX8_buy_6 : decode cX8_buy 6 = .ok (.iload_n 1, 1) := by decide +kernel
theorem dX8_buy_7 : decode cX8_buy 7 = .ok (.iload_n 2, 1) := by decide +kernel
theorem dX8_buy_8 : decode cX8_buy 8 = .ok (.invokevirtual 110, 3) := by decide +kernel
theorem dX8_buy_11 : decode cX8_buy 11 = .ok (.invokevirtual 91, 3) := by decide +kernel
theorem dX8_buy_14 : decode cX8_buy 14 = .ok (.ireturn, 1) := by decide +kernel
theorem dX8_close_0 : decode cX8_close 0 = .ok (.aload_n 0, 1) := by decide +kernel
theorem dX8_close_1 : decode cX8_close 1 = .ok (.invokevirtual 88, 3) := by decide +kernel
theorem dX8_close_4 : decode cX8_close 4 = .ok (.aload_n 0, 1) := by decide +kernel
theorem dX8_close_5 : decode cX8_close 5 = .ok (.aload_n 0, 1) := by decide +kernel
theorem dX8_close_6 : decode cX8_close 6 = .ok (.invokevirtual 113, 3) := by decide +kernel
theorem dX8_close_9 : decode cX8_close 9 = .ok (.invokevirtual 91, 3) := by decide +kernel
theorem dX8_close_12 : decode cX8_close 12 = .ok (.ireturn, 1) := by decide +kernel
theorem dX8_daysOf_0 : decode cX8_daysOf 0 = .ok (.iconst 0, 1) := by decide +kernel
theorem dX8_daysOf_1 : decode cX8_daysOf 1 = .ok (.istore_n 2, 1) := by decide +kernel
theorem dX8_daysOf_2 : decode cX8_daysOf 2 = .ok (.iconst 0, 1) := by decide +kernel
theorem dX8_daysOf_3 : decode cX8_daysOf 3 = .ok (.istore_n 3, 1) := by decide +kernel
theorem dX8_daysOf_4 : decode cX8_daysOf 4 = .ok (.iload_n 3, 1) := by decide +kernel
theorem dX8_daysOf_5 : decode cX8_daysOf 5 = .ok (.iconst 5, 1) := by decide +kernel
theorem dX8_daysOf_6 : decode cX8_daysOf 6 = .ok (.if_icmp .ge 35, 3) := by decide +kernel
theorem dX8_daysOf_9 : decode cX8_daysOf 9 = .ok (.iload_n 2, 1) := by decide +kernel
theorem dX8_daysOf_10 : decode cX8_daysOf 10 = .ok (.aload_n 0, 1) := by decide +kernel
theorem dX8_daysOf_11 : decode cX8_daysOf 11 = .ok (.getfield 7, 3) := by decide +kernel
theorem dX8_daysOf_14 : decode cX8_daysOf 14 = .ok (.iload_n 1, 1) := by decide +kernel
theorem dX8_daysOf_15 : decode cX8_daysOf 15 = .ok (.invokestatic 41, 3) := by decide +kernel
theorem dX8_daysOf_18 : decode cX8_daysOf 18 = .ok (.iconst 1, 1) := by decide +kernel
theorem dX8_daysOf_19 : decode cX8_daysOf 19 = .ok (.iadd, 1) := by decide +kernel
theorem dX8_daysOf_20 : decode cX8_daysOf 20 = .ok (.iload_n 3, 1) := by decide +kernel
theorem dX8_daysOf_21 : decode cX8_daysOf 21 = .ok (.iadd, 1) := by decide +kernel
theorem dX8_daysOf_22 : decode cX8_daysOf 22 = .ok (.iaload, 1) := by decide +kernel
theorem dX8_daysOf_23 : decode cX8_daysOf 23 = .ok (.ifCond .le 9, 3) := by decide +kernel
theorem dX8_daysOf_26 : decode cX8_daysOf 26 = .ok (.iconst 1, 1) := by decide +kernel
theorem dX8_daysOf_27 : decode cX8_daysOf 27 = .ok (.iload_n 3, 1) := by decide +kernel
theorem dX8_daysOf_28 : decode cX8_daysOf 28 = .ok (.ishl, 1) := by decide +kernel
theorem dX8_daysOf_29 : decode cX8_daysOf 29 = .ok (.goto 4, 3) := by decide +kernel
theorem dX8_daysOf_32 : decode cX8_daysOf 32 = .ok (.iconst 0, 1) := by decide +kernel
theorem dX8_daysOf_33 : decode cX8_daysOf 33 = .ok (.ior, 1) := by decide +kernel
theorem dX8_daysOf_34 : decode cX8_daysOf 34 = .ok (.istore_n 2, 1) := by decide +kernel
theorem dX8_daysOf_35 : decode cX8_daysOf 35 = .ok (.iinc 3 1, 3) := by decide +kernel
theorem dX8_daysOf_38 : decode cX8_daysOf 38 = .ok (.goto (-34), 3) := by decide +kernel
theorem dX8_daysOf_41 : decode cX8_daysOf 41 = .ok (.iload_n 2, 1) := by decide +kernel
theorem dX8_daysOf_42 : decode cX8_daysOf 42 = .ok (.ireturn, 1) := by decide +kernel
theorem dX8_of_0 : decode cX8_of 0 = .ok (.aload_n 0, 1) := by decide +kernel
theorem dX8_of_1 : decode cX8_of 1 = .ok (.iload_n 1, 1) := by decide +kernel
theorem dX8_of_2 : decode cX8_of 2 = .ok (.invokevirtual 54, 3) := by decide +kernel
theorem dX8_of_5 : decode cX8_of 5 = .ok (.ifCond .ne 5, 3) := by decide +kernel
theorem dX8_of_8 : decode cX8_of 8 = .ok (.iconst (-1), 1) := by decide +kernel
theorem dX8_of_9 : decode cX8_of 9 = .ok (.ireturn, 1) := by decide +kernel
theorem dX8_of_10 : decode cX8_of 10 = .ok (.iload_n 1, 1) := by decide +kernel
theorem dX8_of_11 : decode cX8_of 11 = .ok (.invokestatic 41, 3) := by decide +kernel
theorem dX8_of_14 : decode cX8_of 14 = .ok (.istore_n 3, 1) := by decide +kernel
theorem dX8_of_15 : decode cX8_of 15 = .ok (.iload_n 2, 1) := by decide +kernel
theorem dX8_of_16 : decode cX8_of 16 = .ok (.tableswitch 108 0 8 #[52, 61, 88, 94, 94, 94, 94, 94, 94], 52) := by decide +kernel
theorem dX8_of_68 : decode cX8_of 68 = .ok (.aload_n 0, 1) := by decide +kernel
theorem dX8_of_69 : decode cX8_of 69 = .ok (.getfield 7, 3) := by decide +kernel
theorem dX8_of_72 : decode cX8_of 72 = .ok (.iload_n 3, 1) := by decide +kernel
theorem dX8_of_73 : decode cX8_of 73 = .ok (.iconst 0, 1) := by decide +kernel
theorem dX8_of_74 : decode cX8_of 74 = .ok (.iadd, 1) := by decide +kernel
theorem dX8_of_75 : decode cX8_of 75 = .ok (.iaload, 1) := by decide +kernel
theorem dX8_of_76 : decode cX8_of 76 = .ok (.ireturn, 1) := by decide +kernel
theorem dX8_of_77 : decode cX8_of 77 = .ok (.aload_n 0, 1) := by decide +kernel
theorem dX8_of_78 : decode cX8_of 78 = .ok (.getfield 7, 3) := by decide +kernel
theorem dX8_of_81 : decode cX8_of 81 = .ok (.iload_n 3, 1) := by decide +kernel
theorem dX8_of_82 : decode cX8_of 82 = .ok (.iconst 1, 1) := by decide +kernel
theorem dX8_of_83 : decode cX8_of 83 = .ok (.iadd, 1) := by decide +kernel
theorem dX8_of_84 : decode cX8_of 84 = .ok (.iaload, 1) := by decide +kernel
theorem dX8_of_85 : decode cX8_of 85 = .ok (.ifCond .ne 8, 3) := by decide +kernel
theorem dX8_of_88 : decode cX8_of 88 = .ok (.bipush (-6), 2) := by decide +kernel
theorem dX8_of_90 : decode cX8_of 90 = .ok (.goto 13, 3) := by decide +kernel
theorem dX8_of_93 : decode cX8_of 93 = .ok (.aload_n 0, 1) := by decide +kernel
theorem dX8_of_94 : decode cX8_of 94 = .ok (.getfield 7, 3) := by decide +kernel
theorem dX8_of_97 : decode cX8_of 97 = .ok (.iload_n 3, 1) := by decide +kernel
theorem dX8_of_98 : decode cX8_of 98 = .ok (.iconst 1, 1) := by decide +kernel
theorem dX8_of_99 : decode cX8_of 99 = .ok (.iadd, 1) := by decide +kernel
theorem dX8_of_100 : decode cX8_of 100 = .ok (.iaload, 1) := by decide +kernel
theorem dX8_of_101 : decode cX8_of 101 = .ok (.iconst 1, 1) := by decide +kernel
theorem dX8_of_102 : decode cX8_of 102 = .ok (.isub, 1) := by decide +kernel
theorem dX8_of_103 : decode cX8_of 103 = .ok (.ireturn, 1) := by decide +kernel
theorem dX8_of_104 : decode cX8_of 104 = .ok (.aload_n 0, 1) := by decide +kernel
theorem dX8_of_105 : decode cX8_of 105 = .ok (.iload_n 1, 1) := by decide +kernel
theorem dX8_of_106 : decode cX8_of 106 = .ok (.invokevirtual 116, 3) := by decide +kernel
theorem dX8_of_109 : decode cX8_of 109 = .ok (.ireturn, 1) := by decide +kernel
theorem dX8_of_110 : decode cX8_of 110 = .ok (.aload_n 0, 1) := by decide +kernel
theorem dX8_of_111 : decode cX8_of 111 = .ok (.getfield 7, 3) := by decide +kernel
theorem dX8_of_114 : decode cX8_of 114 = .ok (.iload_n 3, 1) := by decide +kernel
theorem dX8_of_115 : decode cX8_of 115 = .ok (.bipush 11, 2) := by decide +kernel
theorem dX8_of_117 : decode cX8_of 117 = .ok (.iadd, 1) := by decide +kernel
theorem dX8_of_118 : decode cX8_of 118 = .ok (.iload_n 2, 1) := by decide +kernel
theorem dX8_of_119 : decode cX8_of 119 = .ok (.iadd, 1) := by decide +kernel
theorem dX8_of_120 : decode cX8_of 120 = .ok (.iconst 3, 1) := by decide +kernel
theorem dX8_of_121 : decode cX8_of 121 = .ok (.isub, 1) := by decide +kernel
theorem dX8_of_122 : decode cX8_of 122 = .ok (.iaload, 1) := by decide +kernel
theorem dX8_of_123 : decode cX8_of 123 = .ok (.ireturn, 1) := by decide +kernel
theorem dX8_of_124 : decode cX8_of 124 = .ok (.bipush (-2), 2) := by decide +kernel
theorem dX8_of_126 : decode cX8_of 126 = .ok (.ireturn, 1) := by decide +kernel
theorem dX8_ofDish_0 : decode cX8_ofDish 0 = .ok (.iload_n 1, 1) := by decide +kernel
theorem dX8_ofDish_1 : decode cX8_ofDish 1 = .ok (.invokestatic 66, 3) := by decide +kernel
theorem dX8_ofDish_4 : decode cX8_ofDish 4 = .ok (.ifCond .ne 5, 3) := by decide +kernel
theorem dX8_ofDish_7 : decode cX8_ofDish 7 = .ok (.iconst (-1), 1) := by decide +kernel
theorem dX8_ofDish_8 : decode cX8_ofDish 8 = .ok (.ireturn, 1) := by decide +kernel
theorem dX8_ofDish_9 : decode cX8_ofDish 9 = .ok (.iload_n 2, 1) := by decide +kernel
theorem dX8_ofDish_10 : decode cX8_ofDish 10 = .ok (.tableswitch 111 0 7 #[46, 46, 58, 64, 64, 64, 78, 90], 46) := by decide +kernel
theorem dX8_ofDish_56 : decode cX8_ofDish 56 = .ok (.aload_n 0, 1) := by decide +kernel
theorem dX8_ofDish_57 : decode cX8_ofDish 57 = .ok (.getfield 7, 3) := by decide +kernel
theorem dX8_ofDish_60 : decode cX8_ofDish 60 = .ok (.iload_n 1, 1) := by decide +kernel
theorem dX8_ofDish_61 : decode cX8_ofDish 61 = .ok (.invokestatic 51, 3) := by decide +kernel
theorem dX8_ofDish_64 : decode cX8_ofDish 64 = .ok (.iload_n 2, 1) := by decide +kernel
theorem dX8_ofDish_65 : decode cX8_ofDish 65 = .ok (.iadd, 1) := by decide +kernel
theorem dX8_ofDish_66 : decode cX8_ofDish 66 = .ok (.iaload, 1) := by decide +kernel
theorem dX8_ofDish_67 : decode cX8_ofDish 67 = .ok (.ireturn, 1) := by decide +kernel
theorem dX8_ofDish_68 : decode cX8_ofDish 68 = .ok (.aload_n 0, 1) := by decide +kernel
theorem dX8_ofDish_69 : decode cX8_ofDish 69 = .ok (.iload_n 1, 1) := by decide +kernel
theorem dX8_ofDish_70 : decode cX8_ofDish 70 = .ok (.invokevirtual 82, 3) := by decide +kernel
theorem dX8_ofDish_73 : decode cX8_ofDish 73 = .ok (.ireturn, 1) := by decide +kernel
theorem dX8_ofDish_74 : decode cX8_ofDish 74 = .ok (.aload_n 0, 1) := by decide +kernel
theorem dX8_ofDish_75 : decode cX8_ofDish 75 = .ok (.getfield 7, 3) := by decide +kernel
theorem dX8_ofDish_78 : decode cX8_ofDish 78 = .ok (.iload_n 1, 1) := by decide +kernel
theorem dX8_ofDish_79 : decode cX8_ofDish 79 = .ok (.invokestatic 51, 3) := by decide +kernel
theorem dX8_ofDish_82 : decode cX8_ofDish 82 = .ok (.iload_n 2, 1) := by decide +kernel
theorem dX8_ofDish_83 : decode cX8_ofDish 83 = .ok (.iadd, 1) := by decide +kernel
theorem dX8_ofDish_84 : decode cX8_ofDish 84 = .ok (.iconst 1, 1) := by decide +kernel
theorem dX8_ofDish_85 : decode cX8_ofDish 85 = .ok (.isub, 1) := by decide +kernel
theorem dX8_ofDish_86 : decode cX8_ofDish 86 = .ok (.iaload, 1) := by decide +kernel
theorem dX8_ofDish_87 : decode cX8_ofDish 87 = .ok (.ireturn, 1) := by decide +kernel
theorem dX8_ofDish_88 : decode cX8_ofDish 88 = .ok (.aload_n 0, 1) := by decide +kernel
theorem dX8_ofDish_89 : decode cX8_ofDish 89 = .ok (.aload_n 0, 1) := by decide +kernel
theorem dX8_ofDish_90 : decode cX8_ofDish 90 = .ok (.getfield 7, 3) := by decide +kernel
theorem dX8_ofDish_93 : decode cX8_ofDish 93 = .ok (.iconst 4, 1) := by decide +kernel
theorem dX8_ofDish_94 : decode cX8_ofDish 94 = .ok (.iaload, 1) := by decide +kernel
theorem dX8_ofDish_95 : decode cX8_ofDish 95 = .ok (.iload_n 1, 1) := by decide +kernel
theorem dX8_ofDish_96 : decode cX8_ofDish 96 = .ok (.invokevirtual 62, 3) := by decide +kernel
theorem dX8_ofDish_99 : decode cX8_ofDish 99 = .ok (.ireturn, 1) := by decide +kernel
theorem dX8_ofDish_100 : decode cX8_ofDish 100 = .ok (.aload_n 0, 1) := by decide +kernel
theorem dX8_ofDish_101 : decode cX8_ofDish 101 = .ok (.getfield 7, 3) := by decide +kernel
theorem dX8_ofDish_104 : decode cX8_ofDish 104 = .ok (.bipush 6, 2) := by decide +kernel
theorem dX8_ofDish_106 : decode cX8_ofDish 106 = .ok (.iaload, 1) := by decide +kernel
theorem dX8_ofDish_107 : decode cX8_ofDish 107 = .ok (.iconst 1, 1) := by decide +kernel
theorem dX8_ofDish_108 : decode cX8_ofDish 108 = .ok (.if_icmp .ne 7, 3) := by decide +kernel
theorem dX8_ofDish_111 : decode cX8_ofDish 111 = .ok (.iconst 0, 1) := by decide +kernel
theorem dX8_ofDish_112 : decode cX8_ofDish 112 = .ok (.goto 8, 3) := by decide +kernel
theorem dX8_ofDish_115 : decode cX8_ofDish 115 = .ok (.aload_n 0, 1) := by decide +kernel
theorem dX8_ofDish_116 : decode cX8_ofDish 116 = .ok (.iload_n 1, 1) := by decide +kernel
theorem dX8_ofDish_117 : decode cX8_ofDish 117 = .ok (.invokevirtual 73, 3) := by decide +kernel
theorem dX8_ofDish_120 : decode cX8_ofDish 120 = .ok (.ireturn, 1) := by decide +kernel
theorem dX8_ofDish_121 : decode cX8_ofDish 121 = .ok (.bipush (-2), 2) := by decide +kernel
theorem dX8_ofDish_123 : decode cX8_ofDish 123 = .ok (.ireturn, 1) := by decide +kernel
theorem dX8_ordered_0 : decode cX8_ordered 0 = .ok (.iload_n 2, 1) := by decide +kernel
theorem dX8_ordered_1 : decode cX8_ordered 1 = .ok (.invokestatic 66, 3) := by decide +kernel
theorem dX8_ordered_4 : decode cX8_ordered 4 = .ok (.ifCond .ne 5, 3) := by decide +kernel
theorem dX8_ordered_7 : decode cX8_ordered 7 = .ok (.iconst (-1), 1) := by decide +kernel
theorem dX8_ordered_8 : decode cX8_ordered 8 = .ok (.ireturn, 1) := by decide +kernel
theorem dX8_ordered_9 : decode cX8_ordered 9 = .ok (.iload_n 1, 1) := by decide +kernel
theorem dX8_ordered_10 : decode cX8_ordered 10 = .ok (.iconst 0, 1) := by decide +kernel
theorem dX8_ordered_11 : decode cX8_ordered 11 = .ok (.iconst 4, 1) := by decide +kernel
theorem dX8_ordered_12 : decode cX8_ordered 12 = .ok (.invokestatic 33, 3) := by decide +kernel
theorem dX8_ordered_15 : decode cX8_ordered 15 = .ok (.ifCond .ne 6, 3) := by decide +kernel
theorem dX8_ordered_18 : decode cX8_ordered 18 = .ok (.bipush (-2), 2) := by decide +kernel
theorem dX8_ordered_20 : decode cX8_ordered 20 = .ok (.ireturn, 1) := by decide +kernel
theorem dX8_ordered_21 : decode cX8_ordered 21 = .ok (.iconst 0, 1) := by decide +kernel
theorem dX8_ordered_22 : decode cX8_ordered 22 = .ok (.istore_n 3, 1) := by decide +kernel
theorem dX8_ordered_23 : decode cX8_ordered 23 = .ok (.iconst 0, 1) := by decide +kernel
theorem dX8_ordered_24 : decode cX8_ordered 24 = .ok (.istore 4, 2) := by decide +kernel
theorem dX8_ordered_26 : decode cX8_ordered 26 = .ok (.iload 4, 2) := by decide +kernel
theorem dX8_ordered_28 : decode cX8_ordered 28 = .ok (.aload_n 0, 1) := by decide +kernel
theorem dX8_ordered_29 : decode cX8_ordered 29 = .ok (.getfield 7, 3) := by decide +kernel
theorem dX8_ordered_32 : decode cX8_ordered 32 = .ok (.iconst 5, 1) := by decide +kernel
theorem dX8_ordered_33 : decode cX8_ordered 33 = .ok (.iaload, 1) := by decide +kernel
theorem dX8_ordered_34 : decode cX8_ordered 34 = .ok (.if_icmp .ge 31, 3) := by decide +kernel
theorem dX8_ordered_37 : decode cX8_ordered 37 = .ok (.iload_n 3, 1) := by decide +kernel
theorem dX8_ordered_38 : decode cX8_ordered 38 = .ok (.aload_n 0, 1) := by decide +kernel
theorem dX8_ordered_39 : decode cX8_ordered 39 = .ok (.iload 4, 2) := by decide +kernel
theorem dX8_ordered_41 : decode cX8_ordered 41 = .ok (.iload_n 1, 1) := by decide +kernel
theorem dX8_ordered_42 : decode cX8_ordered 42 = .ok (.iload_n 2, 1) := by decide +kernel
theorem dX8_ordered_43 : decode cX8_ordered 43 = .ok (.invokevirtual 45, 3) := by decide +kernel
theorem dX8_ordered_46 : decode cX8_ordered 46 = .ok (.ifCond .eq 10, 3) := by decide +kernel
theorem dX8_ordered_49 : decode cX8_ordered 49 = .ok (.iconst 1, 1) := by decide +kernel
theorem dX8_ordered_50 : decode cX8_ordered 50 = .ok (.iload 4, 2) := by decide +kernel
theorem dX8_ordered_52 : decode cX8_ordered 52 = .ok (.ishl, 1) := by decide +kernel
theorem dX8_ordered_53 : decode cX8_ordered 53 = .ok (.goto 4, 3) := by decide +kernel
theorem dX8_ordered_56 : decode cX8_ordered 56 = .ok (.iconst 0, 1) := by decide +kernel
theorem dX8_ordered_57 : decode cX8_ordered 57 = .ok (.ior, 1) := by decide +kernel
theorem dX8_ordered_58 : decode cX8_ordered 58 = .ok (.istore_n 3, 1) := by decide +kernel
theorem dX8_ordered_59 : decode cX8_ordered 59 = .ok (.iinc 4 1, 3) := by decide +kernel
theorem dX8_ordered_62 : decode cX8_ordered 62 = .ok (.goto (-36), 3) := by decide +kernel
theorem dX8_ordered_65 : decode cX8_ordered 65 = .ok (.iload_n 3, 1) := by decide +kernel
theorem dX8_ordered_66 : decode cX8_ordered 66 = .ok (.ireturn, 1) := by decide +kernel
theorem dX8_ofDishes_0 : decode cX8_ofDishes 0 = .ok (.iconst 0, 1) := by decide +kernel
theorem dX8_ofDishes_1 : decode cX8_ofDishes 1 = .ok (.istore_n 2, 1) := by decide +kernel
theorem dX8_ofDishes_2 : decode cX8_ofDishes 2 = .ok (.iconst 0, 1) := by decide +kernel
theorem dX8_ofDishes_3 : decode cX8_ofDishes 3 = .ok (.istore_n 3, 1) := by decide +kernel
theorem dX8_ofDishes_4 : decode cX8_ofDishes 4 = .ok (.iload_n 3, 1) := by decide +kernel
theorem dX8_ofDishes_5 : decode cX8_ofDishes 5 = .ok (.iconst 3, 1) := by decide +kernel
theorem dX8_ofDishes_6 : decode cX8_ofDishes 6 = .ok (.if_icmp .ge 39, 3) := by decide +kernel
theorem dX8_ofDishes_9 : decode cX8_ofDishes 9 = .ok (.iload_n 2, 1) := by decide +kernel
theorem dX8_ofDishes_10 : decode cX8_ofDishes 10 = .ok (.iload_n 1, 1) := by decide +kernel
theorem dX8_ofDishes_11 : decode cX8_ofDishes 11 = .ok (.bipush 6, 2) := by decide +kernel
theorem dX8_ofDishes_13 : decode cX8_ofDishes 13 = .ok (.if_icmp .ne 11, 3) := by decide +kernel
theorem dX8_ofDishes_16 : decode cX8_ofDishes 16 = .ok (.aload_n 0, 1) := by decide +kernel
theorem dX8_ofDishes_17 : decode cX8_ofDishes 17 = .ok (.iload_n 3, 1) := by decide +kernel
theorem dX8_ofDishes_18 : decode cX8_ofDishes 18 = .ok (.invokevirtual 76, 3) := by decide +kernel
theorem dX8_ofDishes_21 : decode cX8_ofDishes 21 = .ok (.goto 16, 3) := by decide +kernel
theorem dX8_ofDishes_24 : decode cX8_ofDishes 24 = .ok (.aload_n 0, 1) := by decide +kernel
theorem dX8_ofDishes_25 : decode cX8_ofDishes 25 = .ok (.getfield 7, 3) := by decide +kernel
theorem dX8_ofDishes_28 : decode cX8_ofDishes 28 = .ok (.iload_n 3, 1) := by decide +kernel
theorem dX8_ofDishes_29 : decode cX8_ofDishes 29 = .ok (.invokestatic 51, 3) := by decide +kernel
theorem dX8_ofDishes_32 : decode cX8_ofDishes 32 = .ok (.iload_n 1, 1) := by decide +kernel
theorem dX8_ofDishes_33 : decode cX8_ofDishes 33 = .ok (.iadd, 1) := by decide +kernel
theorem dX8_ofDishes_34 : decode cX8_ofDishes 34 = .ok (.iconst 1, 1) := by decide +kernel
theorem dX8_ofDishes_35 : decode cX8_ofDishes 35 = .ok (.isub, 1) := by decide +kernel
theorem dX8_ofDishes_36 : decode cX8_ofDishes 36 = .ok (.iaload, 1) := by decide +kernel
theorem dX8_ofDishes_37 : decode cX8_ofDishes 37 = .ok (.iadd, 1) := by decide +kernel
theorem dX8_ofDishes_38 : decode cX8_ofDishes 38 = .ok (.istore_n 2, 1) := by decide +kernel
theorem dX8_ofDishes_39 : decode cX8_ofDishes 39 = .ok (.iinc 3 1, 3) := by decide +kernel
theorem dX8_ofDishes_42 : decode cX8_ofDishes 42 = .ok (.goto (-38), 3) := by decide +kernel
theorem dX8_ofDishes_45 : decode cX8_ofDishes 45 = .ok (.iload_n 2, 1) := by decide +kernel
theorem dX8_ofDishes_46 : decode cX8_ofDishes 46 = .ok (.ireturn, 1) := by decide +kernel
theorem dX8_ofPeople_0 : decode cX8_ofPeople 0 = .ok (.iconst 0, 1) := by decide +kernel
theorem dX8_ofPeople_1 : decode cX8_ofPeople 1 = .ok (.istore_n 2, 1) := by decide +kernel
theorem dX8_ofPeople_2 : decode cX8_ofPeople 2 = .ok (.iconst 0, 1) := by decide +kernel
theorem dX8_ofPeople_3 : decode cX8_ofPeople 3 = .ok (.istore_n 3, 1) := by decide +kernel
theorem dX8_ofPeople_4 : decode cX8_ofPeople 4 = .ok (.iconst 0, 1) := by decide +kernel
theorem dX8_ofPeople_5 : decode cX8_ofPeople 5 = .ok (.istore 4, 2) := by decide +kernel
theorem dX8_ofPeople_7 : decode cX8_ofPeople 7 = .ok (.iload 4, 2) := by decide +kernel
theorem dX8_ofPeople_9 : decode cX8_ofPeople 9 = .ok (.aload_n 0, 1) := by decide +kernel
theorem dX8_ofPeople_10 : decode cX8_ofPeople 10 = .ok (.getfield 7, 3) := by decide +kernel
theorem dX8_ofPeople_13 : decode cX8_ofPeople 13 = .ok (.iconst 5, 1) := by decide +kernel
theorem dX8_ofPeople_14 : decode cX8_ofPeople 14 = .ok (.iaload, 1) := by decide +kernel
theorem dX8_ofPeople_15 : decode cX8_ofPeople 15 = .ok (.if_icmp .ge 57, 3) := by decide +kernel
theorem dX8_ofPeople_18 : decode cX8_ofPeople 18 = .ok (.iload_n 2, 1) := by decide +kernel
theorem dX8_ofPeople_19 : decode cX8_ofPeople 19 = .ok (.aload_n 0, 1) := by decide +kernel
theorem dX8_ofPeople_20 : decode cX8_ofPeople 20 = .ok (.getfield 7, 3) := by decide +kernel
theorem dX8_ofPeople_23 : decode cX8_ofPeople 23 = .ok (.iload 4, 2) := by decide +kernel
theorem dX8_ofPeople_25 : decode cX8_ofPeople 25 = .ok (.invokestatic 41, 3) := by decide +kernel
theorem dX8_ofPeople_28 : decode cX8_ofPeople 28 = .ok (.iconst 0, 1) := by decide +kernel
theorem dX8_ofPeople_29 : decode cX8_ofPeople 29 = .ok (.iadd, 1) := by decide +kernel
theorem dX8_ofPeople_30 : decode cX8_ofPeople 30 = .ok (.iaload, 1) := by decide +kernel
theorem dX8_ofPeople_31 : decode cX8_ofPeople 31 = .ok (.iadd, 1) := by decide +kernel
theorem dX8_ofPeople_32 : decode cX8_ofPeople 32 = .ok (.istore_n 2, 1) := by decide +kernel
theorem dX8_ofPeople_33 : decode cX8_ofPeople 33 = .ok (.iload_n 3, 1) := by decide +kernel
theorem dX8_ofPeople_34 : decode cX8_ofPeople 34 = .ok (.aload_n 0, 1) := by decide +kernel
theorem dX8_ofPeople_35 : decode cX8_ofPeople 35 = .ok (.getfield 7, 3) := by decide +kernel
theorem dX8_ofPeople_38 : decode cX8_ofPeople 38 = .ok (.iconst 4, 1) := by decide +kernel
theorem dX8_ofPeople_39 : decode cX8_ofPeople 39 = .ok (.iaload, 1) := by decide +kernel
theorem dX8_ofPeople_40 : decode cX8_ofPeople 40 = .ok (.aload_n 0, 1) := by decide +kernel
theorem dX8_ofPeople_41 : decode cX8_ofPeople 41 = .ok (.getfield 7, 3) := by decide +kernel
theorem dX8_ofPeople_44 : decode cX8_ofPeople 44 = .ok (.iload 4, 2) := by decide +kernel
theorem dX8_ofPeople_46 : decode cX8_ofPeople 46 = .ok (.invokestatic 41, 3) := by decide +kernel
theorem dX8_ofPeople_49 : decode cX8_ofPeople 49 = .ok (.bipush 12, 2) := by decide +kernel
theorem dX8_ofPeople_51 : decode cX8_ofPeople 51 = .ok (.iadd, 1) := by decide +kernel
theorem dX8_ofPeople_52 : decode cX8_ofPeople 52 = .ok (.iaload, 1) := by decide +kernel
theorem dX8_ofPeople_53 : decode cX8_ofPeople 53 = .ok (.if_icmp .ge 10, 3) := by decide +kernel
theorem dX8_ofPeople_56 : decode cX8_ofPeople 56 = .ok (.iconst 1, 1) := by decide +kernel
theorem dX8_ofPeople_57 : decode cX8_ofPeople 57 = .ok (.iload 4, 2) := by decide +kernel
theorem dX8_ofPeople_59 : decode cX8_ofPeople 59 = .ok (.ishl, 1) := by decide +kernel
theorem dX8_ofPeople_60 : decode cX8_ofPeople 60 = .ok (.goto 4, 3) := by decide +kernel
theorem dX8_ofPeople_63 : decode cX8_ofPeople 63 = .ok (.iconst 0, 1) := by decide +kernel
theorem dX8_ofPeople_64 : decode cX8_ofPeople 64 = .ok (.ior, 1) := by decide +kernel
theorem dX8_ofPeople_65 : decode cX8_ofPeople 65 = .ok (.istore_n 3, 1) := by decide +kernel
theorem dX8_ofPeople_66 : decode cX8_ofPeople 66 = .ok (.iinc 4 1, 3) := by decide +kernel
theorem dX8_ofPeople_69 : decode cX8_ofPeople 69 = .ok (.goto (-62), 3) := by decide +kernel
theorem dX8_ofPeople_72 : decode cX8_ofPeople 72 = .ok (.iload_n 1, 1) := by decide +kernel
theorem dX8_ofPeople_73 : decode cX8_ofPeople 73 = .ok (.bipush 7, 2) := by decide +kernel
theorem dX8_ofPeople_75 : decode cX8_ofPeople 75 = .ok (.if_icmp .ne 7, 3) := by decide +kernel
theorem dX8_ofPeople_78 : decode cX8_ofPeople 78 = .ok (.iload_n 2, 1) := by decide +kernel
theorem dX8_ofPeople_79 : decode cX8_ofPeople 79 = .ok (.goto 4, 3) := by decide +kernel
theorem dX8_ofPeople_82 : decode cX8_ofPeople 82 = .ok (.iload_n 3, 1) := by decide +kernel
theorem dX8_ofPeople_83 : decode cX8_ofPeople 83 = .ok (.ireturn, 1) := by decide +kernel
theorem dX8_count_0 : decode cX8_count 0 = .ok (.iload_n 1, 1) := by decide +kernel
theorem dX8_count_1 : decode cX8_count 1 = .ok (.tableswitch 128 0 15 #[79, 79, 79, 88, 88, 88, 88, 94, 94, 100, 108, 108, 108, 108, 118, 123], 79) := by decide +kernel
theorem dX8_count_80 : decode cX8_count 80 = .ok (.aload_n 0, 1) := by decide +kernel
theorem dX8_count_81 : decode cX8_count 81 = .ok (.getfield 7, 3) := by decide +kernel
theorem dX8_count_84 : decode cX8_count 84 = .ok (.iconst 4, 1) := by decide +kernel
theorem dX8_count_85 : decode cX8_count 85 = .ok (.iload_n 1, 1) := by decide +kernel
theorem dX8_count_86 : decode cX8_count 86 = .ok (.iadd, 1) := by decide +kernel
theorem dX8_count_87 : decode cX8_count 87 = .ok (.iaload, 1) := by decide +kernel
theorem dX8_count_88 : decode cX8_count 88 = .ok (.ireturn, 1) := by decide +kernel
theorem dX8_count_89 : decode cX8_count 89 = .ok (.aload_n 0, 1) := by decide +kernel
theorem dX8_count_90 : decode cX8_count 90 = .ok (.iload_n 1, 1) := by decide +kernel
theorem dX8_count_91 : decode cX8_count 91 = .ok (.invokevirtual 119, 3) := by decide +kernel
theorem dX8_count_94 : decode cX8_count 94 = .ok (.ireturn, 1) := by decide +kernel
theorem dX8_count_95 : decode cX8_count 95 = .ok (.aload_n 0, 1) := by decide +kernel
theorem dX8_count_96 : decode cX8_count 96 = .ok (.iload_n 1, 1) := by decide +kernel
theorem dX8_count_97 : decode cX8_count 97 = .ok (.invokevirtual 122, 3) := by decide +kernel
theorem dX8_count_100 : decode cX8_count 100 = .ok (.ireturn, 1) := by decide +kernel
theorem dX8_count_101 : decode cX8_count 101 = .ok (.aload_n 0, 1) := by decide +kernel
theorem dX8_count_102 : decode cX8_count 102 = .ok (.getfield 7, 3) := by decide +kernel
theorem dX8_count_105 : decode cX8_count 105 = .ok (.bipush 7, 2) := by decide +kernel
theorem dX8_count_107 : decode cX8_count 107 = .ok (.iaload, 1) := by decide +kernel
theorem dX8_count_108 : decode cX8_count 108 = .ok (.ireturn, 1) := by decide +kernel
theorem dX8_count_109 : decode cX8_count 109 = .ok (.aload_n 0, 1) := by decide +kernel
theorem dX8_count_110 : decode cX8_count 110 = .ok (.getfield 7, 3) := by decide +kernel
theorem dX8_count_113 : decode cX8_count 113 = .ok (.iload_n 1, 1) := by decide +kernel
theorem dX8_count_114 : decode cX8_count 114 = .ok (.bipush 10, 2) := by decide +kernel
theorem dX8_count_116 : decode cX8_count 116 = .ok (.isub, 1) := by decide +kernel
theorem dX8_count_117 : decode cX8_count 117 = .ok (.iaload, 1) := by decide +kernel
theorem dX8_count_118 : decode cX8_count 118 = .ok (.ireturn, 1) := by decide +kernel
theorem dX8_count_119 : decode cX8_count 119 = .ok (.aload_n 0, 1) := by decide +kernel
theorem dX8_count_120 : decode cX8_count 120 = .ok (.getfield 125, 3) := by decide +kernel
theorem dX8_count_123 : decode cX8_count 123 = .ok (.ireturn, 1) := by decide +kernel
theorem dX8_count_124 : decode cX8_count 124 = .ok (.aload_n 0, 1) := by decide +kernel
theorem dX8_count_125 : decode cX8_count 125 = .ok (.getfield 37, 3) := by decide +kernel
theorem dX8_count_128 : decode cX8_count 128 = .ok (.ireturn, 1) := by decide +kernel
theorem dX8_count_129 : decode cX8_count 129 = .ok (.bipush (-2), 2) := by decide +kernel
theorem dX8_count_131 : decode cX8_count 131 = .ok (.ireturn, 1) := by decide +kernel
theorem dX8_why_0 : decode cX8_why 0 = .ok (.aload_n 0, 1) := by decide +kernel
theorem dX8_why_1 : decode cX8_why 1 = .ok (.iload_n 1, 1) := by decide +kernel
theorem dX8_why_2 : decode cX8_why 2 = .ok (.invokevirtual 54, 3) := by decide +kernel
theorem dX8_why_5 : decode cX8_why 5 = .ok (.ifCond .eq 10, 3) := by decide +kernel
theorem dX8_why_8 : decode cX8_why 8 = .ok (.iload_n 3, 1) := by decide +kernel
theorem dX8_why_9 : decode cX8_why 9 = .ok (.invokestatic 66, 3) := by decide +kernel
theorem dX8_why_12 : decode cX8_why 12 = .ok (.ifCond .ne 5, 3) := by decide +kernel
theorem dX8_why_15 : decode cX8_why 15 = .ok (.iconst (-1), 1) := by decide +kernel
theorem dX8_why_16 : decode cX8_why 16 = .ok (.ireturn, 1) := by decide +kernel
theorem dX8_why_17 : decode cX8_why 17 = .ok (.iload_n 2, 1) := by decide +kernel
theorem dX8_why_18 : decode cX8_why 18 = .ok (.iconst 0, 1) := by decide +kernel
theorem dX8_why_19 : decode cX8_why 19 = .ok (.iconst 4, 1) := by decide +kernel
theorem dX8_why_20 : decode cX8_why 20 = .ok (.invokestatic 33, 3) := by decide +kernel
theorem dX8_why_23 : decode cX8_why 23 = .ok (.ifCond .eq 13, 3) := by decide +kernel
theorem dX8_why_26 : decode cX8_why 26 = .ok (.aload_n 0, 1) := by decide +kernel
theorem dX8_why_27 : decode cX8_why 27 = .ok (.iload_n 1, 1) := by decide +kernel
theorem dX8_why_28 : decode cX8_why 28 = .ok (.iload_n 2, 1) := by decide +kernel
theorem dX8_why_29 : decode cX8_why 29 = .ok (.iload_n 3, 1) := by decide +kernel
theorem dX8_why_30 : decode cX8_why 30 = .ok (.invokevirtual 69, 3) := by decide +kernel
theorem dX8_why_33 : decode cX8_why 33 = .ok (.goto 5, 3) := by decide +kernel
theorem dX8_why_36 : decode cX8_why 36 = .ok (.bipush (-2), 2) := by decide +kernel
theorem dX8_why_38 : decode cX8_why 38 = .ok (.ireturn, 1) := by decide +kernel
theorem dX8_unsurest_0 : decode cX8_unsurest 0 = .ok (.iload_n 1, 1) := by decide +kernel
theorem dX8_unsurest_1 : decode cX8_unsurest 1 = .ok (.iconst 0, 1) := by decide +kernel
theorem dX8_unsurest_2 : decode cX8_unsurest 2 = .ok (.iconst 1, 1) := by decide +kernel
theorem dX8_unsurest_3 : decode cX8_unsurest 3 = .ok (.invokestatic 33, 3) := by decide +kernel
theorem dX8_unsurest_6 : decode cX8_unsurest 6 = .ok (.ifCond .ne 6, 3) := by decide +kernel
theorem dX8_unsurest_9 : decode cX8_unsurest 9 = .ok (.bipush (-2), 2) := by decide +kernel
theorem dX8_unsurest_11 : decode cX8_unsurest 11 = .ok (.ireturn, 1) := by decide +kernel
theorem dX8_unsurest_12 : decode cX8_unsurest 12 = .ok (.bipush (-6), 2) := by decide +kernel
theorem dX8_unsurest_14 : decode cX8_unsurest 14 = .ok (.istore_n 2, 1) := by decide +kernel
theorem dX8_unsurest_15 : decode cX8_unsurest 15 = .ok (.iconst 0, 1) := by decide +kernel
theorem dX8_unsurest_16 : decode cX8_unsurest 16 = .ok (.istore_n 3, 1) := by decide +kernel
theorem dX8_unsurest_17 : decode cX8_unsurest 17 = .ok (.iconst 0, 1) := by decide +kernel
theorem dX8_unsurest_18 : decode cX8_unsurest 18 = .ok (.istore 4, 2) := by decide +kernel
theorem dX8_unsurest_20 : decode cX8_unsurest 20 = .ok (.iload 4, 2) := by decide +kernel
theorem dX8_unsurest_22 : decode cX8_unsurest 22 = .ok (.aload_n 0, 1) := by decide +kernel
theorem dX8_unsurest_23 : decode cX8_unsurest 23 = .ok (.getfield 7, 3) := by decide +kernel
theorem dX8_unsurest_26 : decode cX8_unsurest 26 = .ok (.iconst 5, 1) := by decide +kernel
theorem dX8_unsurest_27 : decode cX8_unsurest 27 = .ok (.iaload, 1) := by decide +kernel
theorem dX8_unsurest_28 : decode cX8_unsurest 28 = .ok (.if_icmp .ge 91, 3) := by decide +kernel
theorem dX8_unsurest_31 : decode cX8_unsurest 31 = .ok (.aload_n 0, 1) := by decide +kernel
theorem dX8_unsurest_32 : decode cX8_unsurest 32 = .ok (.getfield 7, 3) := by decide +kernel
theorem dX8_unsurest_35 : decode cX8_unsurest 35 = .ok (.iload 4, 2) := by decide +kernel
theorem dX8_unsurest_37 : decode cX8_unsurest 37 = .ok (.invokestatic 41, 3) := by decide +kernel
theorem dX8_unsurest_40 : decode cX8_unsurest 40 = .ok (.bipush 13, 2) := by decide +kernel
theorem dX8_unsurest_42 : decode cX8_unsurest 42 = .ok (.iadd, 1) := by decide +kernel
theorem dX8_unsurest_43 : decode cX8_unsurest 43 = .ok (.iaload, 1) := by decide +kernel
theorem dX8_unsurest_44 : decode cX8_unsurest 44 = .ok (.aload_n 0, 1) := by decide +kernel
theorem dX8_unsurest_45 : decode cX8_unsurest 45 = .ok (.getfield 7, 3) := by decide +kernel
theorem dX8_unsurest_48 : decode cX8_unsurest 48 = .ok (.iload 4, 2) := by decide +kernel
theorem dX8_unsurest_50 : decode cX8_unsurest 50 = .ok (.invokestatic 41, 3) := by decide +kernel
theorem dX8_unsurest_53 : decode cX8_unsurest 53 = .ok (.bipush 14, 2) := by decide +kernel
theorem dX8_unsurest_55 : decode cX8_unsurest 55 = .ok (.iadd, 1) := by decide +kernel
theorem dX8_unsurest_56 : decode cX8_unsurest 56 = .ok (.iaload, 1) := by decide +kernel
theorem dX8_unsurest_57 : decode cX8_unsurest 57 = .ok (.iadd, 1) := by decide +kernel
theorem dX8_unsurest_58 : decode cX8_unsurest 58 = .ok (.istore 5, 2) := by decide +kernel
theorem dX8_unsurest_60 : decode cX8_unsurest 60 = .ok (.aload_n 0, 1) := by decide +kernel
theorem dX8_unsurest_61 : decode cX8_unsurest 61 = .ok (.iload 4, 2) := by decide +kernel
theorem dX8_unsurest_63 : decode cX8_unsurest 63 = .ok (.invokevirtual 48, 3) := by decide +kernel
theorem dX8_unsurest_66 : decode cX8_unsurest 66 = .ok (.ifCond .ne 7, 3) := by decide +kernel
theorem dX8_unsurest_69 : decode cX8_unsurest 69 = .ok (.iconst 0, 1) := by decide +kernel
theorem dX8_unsurest_70 : decode cX8_unsurest 70 = .ok (.goto 15, 3) := by decide +kernel
theorem dX8_unsurest_73 : decode cX8_unsurest 73 = .ok (.ldc 128, 2) := by decide +kernel
theorem dX8_unsurest_75 : decode cX8_unsurest 75 = .ok (.aload_n 0, 1) := by decide +kernel
theorem dX8_unsurest_76 : decode cX8_unsurest 76 = .ok (.iload 4, 2) := by decide +kernel
theorem dX8_unsurest_78 : decode cX8_unsurest 78 = .ok (.invokevirtual 48, 3) := by decide +kernel
theorem dX8_unsurest_81 : decode cX8_unsurest 81 = .ok (.imul, 1) := by decide +kernel
theorem dX8_unsurest_82 : decode cX8_unsurest 82 = .ok (.iload 5, 2) := by decide +kernel
theorem dX8_unsurest_84 : decode cX8_unsurest 84 = .ok (.iadd, 1) := by decide +kernel
theorem dX8_unsurest_85 : decode cX8_unsurest 85 = .ok (.istore 6, 2) := by decide +kernel
theorem dX8_unsurest_87 : decode cX8_unsurest 87 = .ok (.iload 6, 2) := by decide +kernel
theorem dX8_unsurest_89 : decode cX8_unsurest 89 = .ok (.iload_n 3, 1) := by decide +kernel
theorem dX8_unsurest_90 : decode cX8_unsurest 90 = .ok (.if_icmp .le 8, 3) := by decide +kernel
theorem dX8_unsurest_93 : decode cX8_unsurest 93 = .ok (.iload 4, 2) := by decide +kernel
theorem dX8_unsurest_95 : decode cX8_unsurest 95 = .ok (.goto 4, 3) := by decide +kernel
theorem dX8_unsurest_98 : decode cX8_unsurest 98 = .ok (.iload_n 2, 1) := by decide +kernel
theorem dX8_unsurest_99 : decode cX8_unsurest 99 = .ok (.istore_n 2, 1) := by decide +kernel
theorem dX8_unsurest_100 : decode cX8_unsurest 100 = .ok (.iload 6, 2) := by decide +kernel
theorem dX8_unsurest_102 : decode cX8_unsurest 102 = .ok (.iload_n 3, 1) := by decide +kernel
theorem dX8_unsurest_103 : decode cX8_unsurest 103 = .ok (.if_icmp .le 8, 3) := by decide +kernel
theorem dX8_unsurest_106 : decode cX8_unsurest 106 = .ok (.iload 6, 2) := by decide +kernel
theorem dX8_unsurest_108 : decode cX8_unsurest 108 = .ok (.goto 4, 3) := by decide +kernel
theorem dX8_unsurest_111 : decode cX8_unsurest 111 = .ok (.iload_n 3, 1) := by decide +kernel
theorem dX8_unsurest_112 : decode cX8_unsurest 112 = .ok (.istore_n 3, 1) := by decide +kernel
theorem dX8_unsurest_113 : decode cX8_unsurest 113 = .ok (.iinc 4 1, 3) := by decide +kernel
theorem dX8_unsurest_116 : decode cX8_unsurest 116 = .ok (.goto (-96), 3) := by decide +kernel
theorem dX8_unsurest_119 : decode cX8_unsurest 119 = .ok (.iload_n 2, 1) := by decide +kernel
theorem dX8_unsurest_120 : decode cX8_unsurest 120 = .ok (.bipush (-6), 2) := by decide +kernel
theorem dX8_unsurest_122 : decode cX8_unsurest 122 = .ok (.if_icmp .eq 7, 3) := by decide +kernel
theorem dX8_unsurest_125 : decode cX8_unsurest 125 = .ok (.iload_n 1, 1) := by decide +kernel
theorem dX8_unsurest_126 : decode cX8_unsurest 126 = .ok (.ifCond .ne 7, 3) := by decide +kernel
theorem dX8_unsurest_129 : decode cX8_unsurest 129 = .ok (.iload_n 2, 1) := by decide +kernel
theorem dX8_unsurest_130 : decode cX8_unsurest 130 = .ok (.goto 8, 3) := by decide +kernel
theorem dX8_unsurest_133 : decode cX8_unsurest 133 = .ok (.aload_n 0, 1) := by decide +kernel
theorem dX8_unsurest_134 : decode cX8_unsurest 134 = .ok (.iload_n 2, 1) := by decide +kernel
theorem dX8_unsurest_135 : decode cX8_unsurest 135 = .ok (.invokevirtual 48, 3) := by decide +kernel
theorem dX8_unsurest_138 : decode cX8_unsurest 138 = .ok (.ireturn, 1) := by decide +kernel
theorem dX8_firstOrder_0 : decode cX8_firstOrder 0 = .ok (.aload_n 0, 1) := by decide +kernel
theorem dX8_firstOrder_1 : decode cX8_firstOrder 1 = .ok (.iload_n 1, 1) := by decide +kernel
theorem dX8_firstOrder_2 : decode cX8_firstOrder 2 = .ok (.invokevirtual 54, 3) := by decide +kernel
theorem dX8_firstOrder_5 : decode cX8_firstOrder 5 = .ok (.ifCond .ne 5, 3) := by decide +kernel
theorem dX8_firstOrder_8 : decode cX8_firstOrder 8 = .ok (.iconst (-1), 1) := by decide +kernel
theorem dX8_firstOrder_9 : decode cX8_firstOrder 9 = .ok (.ireturn, 1) := by decide +kernel
theorem dX8_firstOrder_10 : decode cX8_firstOrder 10 = .ok (.bipush (-6), 2) := by decide +kernel
theorem dX8_firstOrder_12 : decode cX8_firstOrder 12 = .ok (.istore_n 2, 1) := by decide +kernel
theorem dX8_firstOrder_13 : decode cX8_firstOrder 13 = .ok (.bipush 14, 2) := by decide +kernel
theorem dX8_firstOrder_15 : decode cX8_firstOrder 15 = .ok (.istore_n 3, 1) := by decide +kernel
theorem dX8_firstOrder_16 : decode cX8_firstOrder 16 = .ok (.iload_n 3, 1) := by decide +kernel
theorem dX8_firstOrder_17 : decode cX8_firstOrder 17 = .ok (.ifCond .lt 29, 3) := by decide +kernel
theorem dX8_firstOrder_20 : decode cX8_firstOrder 20 = .ok (.aload_n 0, 1) := by decide +kernel
theorem dX8_firstOrder_21 : decode cX8_firstOrder 21 = .ok (.iload_n 1, 1) := by decide +kernel
theorem dX8_firstOrder_22 : decode cX8_firstOrder 22 = .ok (.iload_n 3, 1) := by decide +kernel
theorem dX8_firstOrder_23 : decode cX8_firstOrder 23 = .ok (.iconst 3, 1) := by decide +kernel
theorem dX8_firstOrder_24 : decode cX8_firstOrder 24 = .ok (.idiv, 1) := by decide +kernel
theorem dX8_firstOrder_25 : decode cX8_firstOrder 25 = .ok (.iload_n 3, 1) := by decide +kernel
theorem dX8_firstOrder_26 : decode cX8_firstOrder 26 = .ok (.iconst 3, 1) := by decide +kernel
theorem dX8_firstOrder_27 : decode cX8_firstOrder 27 = .ok (.irem, 1) := by decide +kernel

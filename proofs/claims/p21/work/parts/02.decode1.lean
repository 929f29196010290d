theorem dX0_init_0 : decode cX0_init 0 = .ok (.aload_n 0, 1) := by decide +kernel
theorem dX0_init_1 : decode cX0_init 1 = .ok (.invokespecial 3, 3) := by decide +kernel
theorem dX0_init_4 : decode cX0_init 4 = .ok (.aload_n 0, 1) := by decide +kernel
theorem dX0_init_5 : decode cX0_init 5 = .ok (.iconst 4, 1) := by decide +kernel
theorem dX0_init_6 : decode cX0_init 6 = .ok (.newarray .int, 2) := by decide +kernel
theorem dX0_init_8 : decode cX0_init 8 = .ok (.dup, 1) := by decide +kernel
theorem dX0_init_9 : decode cX0_init 9 = .ok (.iconst 0, 1) := by decide +kernel
theorem dX0_init_10 : decode cX0_init 10 = .ok (.iconst 1, 1) := by decide +kernel
theorem dX0_init_11 : decode cX0_init 11 = .ok (.iastore, 1) := by decide +kernel
theorem dX0_init_12 : decode cX0_init 12 = .ok (.dup, 1) := by decide +kernel
theorem dX0_init_13 : decode cX0_init 13 = .ok (.iconst 1, 1) := by decide +kernel
theorem dX0_init_14 : decode cX0_init 14 = .ok (.iconst 4, 1) := by decide +kernel
theorem dX0_init_15 : decode cX0_init 15 = .ok (.iastore, 1) := by decide +kernel
theorem dX0_init_16 : decode cX0_init 16 = .ok (.dup, 1) := by decide +kernel
theorem dX0_init_17 : decode cX0_init 17 = .ok (.iconst 2, 1) := by decide +kernel
theorem dX0_init_18 : decode cX0_init 18 = .ok (.iconst 3, 1) := by decide +kernel
theorem dX0_init_19 : decode cX0_init 19 = .ok (.iastore, 1) := by decide +kernel
theorem dX0_init_20 : decode cX0_init 20 = .ok (.dup, 1) := by decide +kernel
theorem dX0_init_21 : decode cX0_init 21 = .ok (.iconst 3, 1) := by decide +kernel
theorem dX0_init_22 : decode cX0_init 22 = .ok (.iconst 5, 1) := by decide +kernel
theorem dX0_init_23 : decode cX0_init 23 = .ok (.iastore, 1) := by decide +kernel
theorem dX0_init_24 : decode cX0_init 24 = .ok (.putfield 9, 3) := by decide +kernel
theorem dX0_init_27 : decode cX0_init 27 = .ok (.aload_n 0, 1) := by decide +kernel
theorem dX0_init_28 : decode cX0_init 28 = .ok (.bipush 14, 2) := by decide +kernel
theorem dX0_init_30 : decode cX0_init 30 = .ok (.anewarray 15, 3) := by decide +kernel
theorem dX0_init_33 : decode cX0_init 33 = .ok (.putfield 17, 3) := by decide +kernel
theorem dX0_init_36 : decode cX0_init 36 = .ok (.aload_n 0, 1) := by decide +kernel
theorem dX0_init_37 : decode cX0_init 37 = .ok (.iconst 3, 1) := by decide +kernel
theorem dX0_init_38 : decode cX0_init 38 = .ok (.anewarray 21, 3) := by decide +kernel
theorem dX0_init_41 : decode cX0_init 41 = .ok (.putfield 23, 3) := by decide +kernel
theorem dX0_init_44 : decode cX0_init 44 = .ok (.iconst 0, 1) := by decide +kernel
theorem dX0_init_45 : decode cX0_init 45 = .ok (.istore_n 1, 1) := by decide +kernel
theorem dX0_init_46 : decode cX0_init 46 = .ok (.iload_n 1, 1) := by decide +kernel
theorem dX0_init_47 : decode cX0_init 47 = .ok (.bipush 14, 2) := by decide +kernel
theorem dX0_init_49 : decode cX0_init 49 = .ok (.if_icmp .ge 22, 3) := by decide +kernel
theorem dX0_init_52 : decode cX0_init 52 = .ok (.aload_n 0, 1) := by decide +kernel
theorem dX0_init_53 : decode cX0_init 53 = .ok (.getfield 17, 3) := by decide +kernel
theorem dX0_init_56 : decode cX0_init 56 = .ok (.iload_n 1, 1) := by decide +kernel
theorem dX0_init_57 : decode cX0_init 57 = .ok (.new 15, 3) := by decide +kernel
theorem dX0_init_60 : decode cX0_init 60 = .ok (.dup, 1) := by decide +kernel
theorem dX0_init_61 : decode cX0_init 61 = .ok (.invokespecial 27, 3) := by decide +kernel
theorem dX0_init_64 : decode cX0_init 64 = .ok (.aastore, 1) := by decide +kernel
theorem dX0_init_65 : decode cX0_init 65 = .ok (.iinc 1 1, 3) := by decide +kernel
theorem dX0_init_68 : decode cX0_init 68 = .ok (.goto (-22), 3) := by decide +kernel
theorem dX0_init_71 : decode cX0_init 71 = .ok (.iconst 0, 1) := by decide +kernel
theorem dX0_init_72 : decode cX0_init 72 = .ok (.istore_n 1, 1) := by decide +kernel
theorem dX0_init_73 : decode cX0_init 73 = .ok (.iload_n 1, 1) := by decide +kernel
theorem dX0_init_74 : decode cX0_init 74 = .ok (.iconst 3, 1) := by decide +kernel
theorem dX0_init_75 : decode cX0_init 75 = .ok (.if_icmp .ge 22, 3) := by decide +kernel
theorem dX0_init_78 : decode cX0_init 78 = .ok (.aload_n 0, 1) := by decide +kernel
theorem dX0_init_79 : decode cX0_init 79 = .ok (.getfield 23, 3) := by decide +kernel
theorem dX0_init_82 : decode cX0_init 82 = .ok (.iload_n 1, 1) := by decide +kernel
theorem dX0_init_83 : decode cX0_init 83 = .ok (.new 21, 3) := by decide +kernel
theorem dX0_init_86 : decode cX0_init 86 = .ok (.dup, 1) := by decide +kernel
theorem dX0_init_87 : decode cX0_init 87 = .ok (.invokespecial 28, 3) := by decide +kernel
theorem dX0_init_90 : decode cX0_init 90 = .ok (.aastore, 1) := by decide +kernel
theorem dX0_init_91 : decode cX0_init 91 = .ok (.iinc 1 1, 3) := by decide +kernel
theorem dX0_init_94 : decode cX0_init 94 = .ok (.goto (-21), 3) := by decide +kernel
theorem dX0_init_97 : decode cX0_init 97 = .ok (.return_, 1) := by decide +kernel
theorem dX0_become_0 : decode cX0_become 0 = .ok (.aload_n 1, 1) := by decide +kernel
theorem dX0_become_1 : decode cX0_become 1 = .ok (.getfield 9, 3) := by decide +kernel
theorem dX0_become_4 : decode cX0_become 4 = .ok (.iconst 0, 1) := by decide +kernel
theorem dX0_become_5 : decode cX0_become 5 = .ok (.aload_n 0, 1) := by decide +kernel
theorem dX0_become_6 : decode cX0_become 6 = .ok (.getfield 9, 3) := by decide +kernel
theorem dX0_become_9 : decode cX0_become 9 = .ok (.iconst 0, 1) := by decide +kernel
theorem dX0_become_10 : decode cX0_become 10 = .ok (.iconst 4, 1) := by decide +kernel
theorem dX0_become_11 : decode cX0_become 11 = .ok (.invokestatic 29, 3) := by decide +kernel
theorem dX0_become_14 : decode cX0_become 14 = .ok (.iconst 0, 1) := by decide +kernel
theorem dX0_become_15 : decode cX0_become 15 = .ok (.istore_n 2, 1) := by decide +kernel
theorem dX0_become_16 : decode cX0_become 16 = .ok (.iload_n 2, 1) := by decide +kernel
theorem dX0_become_17 : decode cX0_become 17 = .ok (.iconst 3, 1) := by decide +kernel
theorem dX0_become_18 : decode cX0_become 18 = .ok (.if_icmp .ge 24, 3) := by decide +kernel
theorem dX0_become_21 : decode cX0_become 21 = .ok (.aload_n 0, 1) := by decide +kernel
theorem dX0_become_22 : decode cX0_become 22 = .ok (.getfield 23, 3) := by decide +kernel
theorem dX0_become_25 : decode cX0_become 25 = .ok (.iload_n 2, 1) := by decide +kernel
theorem dX0_become_26 : decode cX0_become 26 = .ok (.aaload, 1) := by decide +kernel
theorem dX0_become_27 : decode cX0_become 27 = .ok (.aload_n 1, 1) := by decide +kernel
theorem dX0_become_28 : decode cX0_become 28 = .ok (.getfield 23, 3) := by decide +kernel
theorem dX0_become_31 : decode cX0_become 31 = .ok (.iload_n 2, 1) := by decide +kernel
theorem dX0_become_32 : decode cX0_become 32 = .ok (.aaload, 1) := by decide +kernel
theorem dX0_become_33 : decode cX0_become 33 = .ok (.invokevirtual 35, 3) := by decide +kernel
theorem dX0_become_36 : decode cX0_become 36 = .ok (.iinc 2 1, 3) := by decide +kernel
theorem dX0_become_39 : decode cX0_become 39 = .ok (.goto (-23), 3) := by decide +kernel
theorem dX0_become_42 : decode cX0_become 42 = .ok (.iconst 0, 1) := by decide +kernel
theorem dX0_become_43 : decode cX0_become 43 = .ok (.istore_n 2, 1) := by decide +kernel
theorem dX0_become_44 : decode cX0_become 44 = .ok (.iload_n 2, 1) := by decide +kernel
theorem dX0_become_45 : decode cX0_become 45 = .ok (.aload_n 1, 1) := by decide +kernel
theorem dX0_become_46 : decode cX0_become 46 = .ok (.getfield 39, 3) := by decide +kernel
theorem dX0_become_49 : decode cX0_become 49 = .ok (.if_icmp .ge 24, 3) := by decide +kernel
theorem dX0_become_52 : decode cX0_become 52 = .ok (.aload_n 0, 1) := by decide +kernel
theorem dX0_become_53 : decode cX0_become 53 = .ok (.getfield 17, 3) := by decide +kernel
theorem dX0_become_56 : decode cX0_become 56 = .ok (.iload_n 2, 1) := by decide +kernel
theorem dX0_become_57 : decode cX0_become 57 = .ok (.aaload, 1) := by decide +kernel
theorem dX0_become_58 : decode cX0_become 58 = .ok (.aload_n 1, 1) := by decide +kernel
theorem dX0_become_59 : decode cX0_become 59 = .ok (.getfield 17, 3) := by decide +kernel
theorem dX0_become_62 : decode cX0_become 62 = .ok (.iload_n 2, 1) := by decide +kernel
theorem dX0_become_63 : decode cX0_become 63 = .ok (.aaload, 1) := by decide +kernel
theorem dX0_become_64 : decode cX0_become 64 = .ok (.invokevirtual 43, 3) := by decide +kernel
theorem dX0_become_67 : decode cX0_become 67 = .ok (.iinc 2 1, 3) := by decide +kernel
theorem dX0_become_70 : decode cX0_become 70 = .ok (.goto (-26), 3) := by decide +kernel
theorem dX0_become_73 : decode cX0_become 73 = .ok (.aload_n 0, 1) := by decide +kernel
theorem dX0_become_74 : decode cX0_become 74 = .ok (.aload_n 1, 1) := by decide +kernel
theorem dX0_become_75 : decode cX0_become 75 = .ok (.getfield 39, 3) := by decide +kernel
theorem dX0_become_78 : decode cX0_become 78 = .ok (.putfield 39, 3) := by decide +kernel
theorem dX0_become_81 : decode cX0_become 81 = .ok (.aload_n 0, 1) := by decide +kernel
theorem dX0_become_82 : decode cX0_become 82 = .ok (.aload_n 1, 1) := by decide +kernel
theorem dX0_become_83 : decode cX0_become 83 = .ok (.getfield 46, 3) := by decide +kernel
theorem dX0_become_86 : decode cX0_become 86 = .ok (.putfield 46, 3) := by decide +kernel
theorem dX0_become_89 : decode cX0_become 89 = .ok (.aload_n 0, 1) := by decide +kernel
theorem dX0_become_90 : decode cX0_become 90 = .ok (.aload_n 1, 1) := by decide +kernel
theorem dX0_become_91 : decode cX0_become 91 = .ok (.getfield 49, 3) := by decide +kernel
theorem dX0_become_94 : decode cX0_become 94 = .ok (.putfield 49, 3) := by decide +kernel
theorem dX0_become_97 : decode cX0_become 97 = .ok (.return_, 1) := by decide +kernel
theorem dX0_hasPerson_0 : decode cX0_hasPerson 0 = .ok (.iload_n 1, 1) := by decide +kernel
theorem dX0_hasPerson_1 : decode cX0_hasPerson 1 = .ok (.ifCond .lt 15, 3) := by decide +kernel
theorem dX0_hasPerson_4 : decode cX0_hasPerson 4 = .ok (.iload_n 1, 1) := by decide +kernel
theorem dX0_hasPerson_5 : decode cX0_hasPerson 5 = .ok (.aload_n 0, 1) := by decide +kernel
theorem dX0_hasPerson_6 : decode cX0_hasPerson 6 = .ok (.getfield 39, 3) := by decide +kernel
theorem dX0_hasPerson_9 : decode cX0_hasPerson 9 = .ok (.if_icmp .ge 7, 3) := by decide +kernel
theorem dX0_hasPerson_12 : decode cX0_hasPerson 12 = .ok (.iconst 1, 1) := by decide +kernel
theorem dX0_hasPerson_13 : decode cX0_hasPerson 13 = .ok (.goto 4, 3) := by decide +kernel
theorem dX0_hasPerson_16 : decode cX0_hasPerson 16 = .ok (.iconst 0, 1) := by decide +kernel
theorem dX0_hasPerson_17 : decode cX0_hasPerson 17 = .ok (.ireturn, 1) := by decide +kernel
theorem dX0_hasDish_0 : decode cX0_hasDish 0 = .ok (.iload_n 1, 1) := by decide +kernel
theorem dX0_hasDish_1 : decode cX0_hasDish 1 = .ok (.ifCond .lt 12, 3) := by decide +kernel
theorem dX0_hasDish_4 : decode cX0_hasDish 4 = .ok (.iload_n 1, 1) := by decide +kernel
theorem dX0_hasDish_5 : decode cX0_hasDish 5 = .ok (.iconst 3, 1) := by decide +kernel
theorem dX0_hasDish_6 : decode cX0_hasDish 6 = .ok (.if_icmp .ge 7, 3) := by decide +kernel
theorem dX0_hasDish_9 : decode cX0_hasDish 9 = .ok (.iconst 1, 1) := by decide +kernel
theorem dX0_hasDish_10 : decode cX0_hasDish 10 = .ok (.goto 4, 3) := by decide +kernel
theorem dX0_hasDish_13 : decode cX0_hasDish 13 = .ok (.iconst 0, 1) := by decide +kernel
theorem dX0_hasDish_14 : decode cX0_hasDish 14 = .ok (.ireturn, 1) := by decide +kernel
theorem dX0_isAhead_0 : decode cX0_isAhead 0 = .ok (.iload_n 1, 1) := by decide +kernel
theorem dX0_isAhead_1 : decode cX0_isAhead 1 = .ok (.ifCond .lt 12, 3) := by decide +kernel
theorem dX0_isAhead_4 : decode cX0_isAhead 4 = .ok (.iload_n 1, 1) := by decide +kernel
theorem dX0_isAhead_5 : decode cX0_isAhead 5 = .ok (.iconst 5, 1) := by decide +kernel
theorem dX0_isAhead_6 : decode cX0_isAhead 6 = .ok (.if_icmp .ge 7, 3) := by decide +kernel
theorem dX0_isAhead_9 : decode cX0_isAhead 9 = .ok (.iconst 1, 1) := by decide +kernel
theorem dX0_isAhead_10 : decode cX0_isAhead 10 = .ok (.goto 4, 3) := by decide +kernel
theorem dX0_isAhead_13 : decode cX0_isAhead 13 = .ok (.iconst 0, 1) := by decide +kernel
theorem dX0_isAhead_14 : decode cX0_isAhead 14 = .ok (.ireturn, 1) := by decide +kernel
theorem dX0_priceOf_0 : decode cX0_priceOf 0 = .ok (.aload_n 0, 1) := by decide +kernel
theorem dX0_priceOf_1 : decode cX0_priceOf 1 = .ok (.getfield 23, 3) := by decide +kernel
theorem dX0_priceOf_4 : decode cX0_priceOf 4 = .ok (.iload_n 1, 1) := by decide +kernel
theorem dX0_priceOf_5 : decode cX0_priceOf 5 = .ok (.aaload, 1) := by decide +kernel
theorem dX0_priceOf_6 : decode cX0_priceOf 6 = .ok (.getfield 53, 3) := by decide +kernel
theorem dX0_priceOf_9 : decode cX0_priceOf 9 = .ok (.aload_n 0, 1) := by decide +kernel
theorem dX0_priceOf_10 : decode cX0_priceOf 10 = .ok (.getfield 46, 3) := by decide +kernel
theorem dX0_priceOf_13 : decode cX0_priceOf 13 = .ok (.iload_n 2, 1) := by decide +kernel
theorem dX0_priceOf_14 : decode cX0_priceOf 14 = .ok (.iadd, 1) := by decide +kernel
theorem dX0_priceOf_15 : decode cX0_priceOf 15 = .ok (.iconst 5, 1) := by decide +kernel
theorem dX0_priceOf_16 : decode cX0_priceOf 16 = .ok (.irem, 1) := by decide +kernel
theorem dX0_priceOf_17 : decode cX0_priceOf 17 = .ok (.iaload, 1) := by decide +kernel
theorem dX0_priceOf_18 : decode cX0_priceOf 18 = .ok (.ireturn, 1) := by decide +kernel
theorem dX0_changeSetting_0 : decode cX0_changeSetting 0 = .ok (.iload_n 1, 1) := by decide +kernel
theorem dX0_changeSetting_1 : decode cX0_changeSetting 1 = .ok (.ifCond .lt 8, 3) := by decide +kernel
theorem dX0_changeSetting_4 : decode cX0_changeSetting 4 = .ok (.iload_n 1, 1) := by decide +kernel
theorem dX0_changeSetting_5 : decode cX0_changeSetting 5 = .ok (.iconst 4, 1) := by decide +kernel
theorem dX0_changeSetting_6 : decode cX0_changeSetting 6 = .ok (.if_icmp .lt 6, 3) := by decide +kernel
theorem dX0_changeSetting_9 : decode cX0_changeSetting 9 = .ok (.bipush (-2), 2) := by decide +kernel
theorem dX0_changeSetting_11 : decode cX0_changeSetting 11 = .ok (.ireturn, 1) := by decide +kernel
theorem dX0_changeSetting_12 : decode cX0_changeSetting 12 = .ok (.iload_n 2, 1) := by decide +kernel
theorem dX0_changeSetting_13 : decode cX0_changeSetting 13 = .ok (.getstatic 56, 3) := by decide +kernel
theorem dX0_changeSetting_16 : decode cX0_changeSetting 16 = .ok (.iload_n 1, 1) := by decide +kernel
theorem dX0_changeSetting_17 : decode cX0_changeSetting 17 = .ok (.iaload, 1) := by decide +kernel
theorem dX0_changeSetting_18 : decode cX0_changeSetting 18 = .ok (.if_icmp .lt 12, 3) := by decide +kernel
theorem dX0_changeSetting_21 : decode cX0_changeSetting 21 = .ok (.iload_n 2, 1) := by decide +kernel
theorem dX0_changeSetting_22 : decode cX0_changeSetting 22 = .ok (.getstatic 59, 3) := by decide +kernel
theorem dX0_changeSetting_25 : decode cX0_changeSetting 25 = .ok (.iload_n 1, 1) := by decide +kernel
theorem dX0_changeSetting_26 : decode cX0_changeSetting 26 = .ok (.iaload, 1) := by decide +kernel
theorem dX0_changeSetting_27 : decode cX0_changeSetting 27 = .ok (.if_icmp .le 6, 3) := by decide +kernel
theorem dX0_changeSetting_30 : decode cX0_changeSetting 30 = .ok (.bipush (-2), 2) := by decide +kernel
theorem dX0_changeSetting_32 : decode cX0_changeSetting 32 = .ok (.ireturn, 1) := by decide +kernel
theorem dX0_changeSetting_33 : decode cX0_changeSetting 33 = .ok (.aload_n 0, 1) := by decide +kernel
theorem dX0_changeSetting_34 : decode cX0_changeSetting 34 = .ok (.getfield 9, 3) := by decide +kernel
theorem dX0_changeSetting_37 : decode cX0_changeSetting 37 = .ok (.iload_n 1, 1) := by decide +kernel
theorem dX0_changeSetting_38 : decode cX0_changeSetting 38 = .ok (.iaload, 1) := by decide +kernel
theorem dX0_changeSetting_39 : decode cX0_changeSetting 39 = .ok (.istore_n 3, 1) := by decide +kernel
theorem dX0_changeSetting_40 : decode cX0_changeSetting 40 = .ok (.aload_n 0, 1) := by decide +kernel
theorem dX0_changeSetting_41 : decode cX0_changeSetting 41 = .ok (.getfield 9, 3) := by decide +kernel
theorem dX0_changeSetting_44 : decode cX0_changeSetting 44 = .ok (.iload_n 1, 1) := by decide +kernel
theorem dX0_changeSetting_45 : decode cX0_changeSetting 45 = .ok (.iload_n 2, 1) := by decide +kernel
theorem dX0_changeSetting_46 : decode cX0_changeSetting 46 = .ok (.iastore, 1) := by decide +kernel
theorem dX0_changeSetting_47 : decode cX0_changeSetting 47 = .ok (.iload_n 3, 1) := by decide +kernel
theorem dX0_changeSetting_48 : decode cX0_changeSetting 48 = .ok (.ireturn, 1) := by decide +kernel
theorem dX0_changePrice_0 : decode cX0_changePrice 0 = .ok (.iload_n 1, 1) := by decide +kernel
theorem dX0_changePrice_1 : decode cX0_changePrice 1 = .ok (.ifCond .lt 16, 3) := by decide +kernel
theorem dX0_changePrice_4 : decode cX0_changePrice 4 = .ok (.iload_n 1, 1) := by decide +kernel
theorem dX0_changePrice_5 : decode cX0_changePrice 5 = .ok (.iconst 5, 1) := by decide +kernel
theorem dX0_changePrice_6 : decode cX0_changePrice 6 = .ok (.if_icmp .ge 11, 3) := by decide +kernel
theorem dX0_changePrice_9 : decode cX0_changePrice 9 = .ok (.aload_n 0, 1) := by decide +kernel
theorem dX0_changePrice_10 : decode cX0_changePrice 10 = .ok (.iload_n 2, 1) := by decide +kernel
theorem dX0_changePrice_11 : decode cX0_changePrice 11 = .ok (.invokevirtual 62, 3) := by decide +kernel
theorem dX0_changePrice_14 : decode cX0_changePrice 14 = .ok (.ifCond .ne 5, 3) := by decide +kernel
theorem dX0_changePrice_17 : decode cX0_changePrice 17 = .ok (.iconst (-1), 1) := by decide +kernel
theorem dX0_changePrice_18 : decode cX0_changePrice 18 = .ok (.ireturn, 1) := by decide +kernel
theorem dX0_changePrice_19 : decode cX0_changePrice 19 = .ok (.iload_n 3, 1) := by decide +kernel
theorem dX0_changePrice_20 : decode cX0_changePrice 20 = .ok (.iconst 1, 1) := by decide +kernel
theorem dX0_changePrice_21 : decode cX0_changePrice 21 = .ok (.if_icmp .lt 8, 3) := by decide +kernel
theorem dX0_changePrice_24 : decode cX0_changePrice 24 = .ok (.iload_n 3, 1) := by decide +kernel
theorem dX0_changePrice_25 : decode cX0_changePrice 25 = .ok (.iconst 3, 1) := by decide +kernel
theorem dX0_changePrice_26 : decode cX0_changePrice 26 = .ok (.if_icmp .le 6, 3) := by decide +kernel
theorem dX0_changePrice_29 : decode cX0_changePrice 29 = .ok (.bipush (-2), 2) := by decide +kernel
theorem dX0_changePrice_31 : decode cX0_changePrice 31 = .ok (.ireturn, 1) := by decide +kernel
theorem dX0_changePrice_32 : decode cX0_changePrice 32 = .ok (.aload_n 0, 1) := by decide +kernel
theorem dX0_changePrice_33 : decode cX0_changePrice 33 = .ok (.getfield 23, 3) := by decide +kernel
theorem dX0_changePrice_36 : decode cX0_changePrice 36 = .ok (.iload_n 2, 1) := by decide +kernel
theorem dX0_changePrice_37 : decode cX0_changePrice 37 = .ok (.aaload, 1) := by decide +kernel
theorem dX0_changePrice_38 : decode cX0_changePrice 38 = .ok (.getfield 53, 3) := by decide +kernel
theorem dX0_changePrice_41 : decode cX0_changePrice 41 = .ok (.iload_n 1, 1) := by decide +kernel
theorem dX0_changePrice_42 : decode cX0_changePrice 42 = .ok (.iaload, 1) := by decide +kernel
theorem dX0_changePrice_43 : decode cX0_changePrice 43 = .ok (.istore 4, 2) := by decide +kernel
theorem dX0_changePrice_45 : decode cX0_changePrice 45 = .ok (.aload_n 0, 1) := by decide +kernel
theorem dX0_changePrice_46 : decode cX0_changePrice 46 = .ok (.getfield 23, 3) := by decide +kernel
theorem dX0_changePrice_49 : decode cX0_changePrice 49 = .ok (.iload_n 2, 1) := by decide +kernel
theorem dX0_changePrice_50 : decode cX0_changePrice 50 = .ok (.aaload, 1) := by decide +kernel
theorem dX0_changePrice_51 : decode cX0_changePrice 51 = .ok (.getfield 53, 3) := by decide +kernel
theorem dX0_changePrice_54 : decode cX0_changePrice 54 = .ok (.iload_n 1, 1) := by decide +kernel
theorem dX0_changePrice_55 : decode cX0_changePrice 55 = .ok (.iload_n 3, 1) := by decide +kernel
theorem dX0_changePrice_56 : decode cX0_changePrice 56 = .ok (.iastore, 1) := by decide +kernel
theorem dX0_changePrice_57 : decode cX0_changePrice 57 = .ok (.iload 4, 2) := by decide +kernel
theorem dX0_changePrice_59 : decode cX0_changePrice 59 = .ok (.ireturn, 1) := by decide +kernel
theorem dX0_addPerson_0 : decode cX0_addPerson 0 = .ok (.aload_n 0, 1) := by decide +kernel
theorem dX0_addPerson_1 : decode cX0_addPerson 1 = .ok (.getfield 39, 3) := by decide +kernel
theorem dX0_addPerson_4 : decode cX0_addPerson 4 = .ok (.bipush 14, 2) := by decide +kernel
theorem dX0_addPerson_6 : decode cX0_addPerson 6 = .ok (.if_icmp .lt 6, 3) := by decide +kernel
theorem dX0_addPerson_9 : decode cX0_addPerson 9 = .ok (.bipush (-4), 2) := by decide +kernel
theorem dX0_addPerson_11 : decode cX0_addPerson 11 = .ok (.ireturn, 1) := by decide +kernel
theorem dX0_addPerson_12 : decode cX0_addPerson 12 = .ok (.aload_n 0, 1) := by decide +kernel
theorem dX0_addPerson_13 : decode cX0_addPerson 13 = .ok (.getfield 17, 3) := by decide +kernel
theorem dX0_addPerson_16 : decode cX0_addPerson 16 = .ok (.aload_n 0, 1) := by decide +kernel
theorem dX0_addPerson_17 : decode cX0_addPerson 17 = .ok (.getfield 39, 3) := by decide +kernel
theorem dX0_addPerson_20 : decode cX0_addPerson 20 = .ok (.aaload, 1) := by decide +kernel
theorem dX0_addPerson_21 : decode cX0_addPerson 21 = .ok (.invokevirtual 66, 3) := by decide +kernel
theorem dX0_addPerson_24 : decode cX0_addPerson 24 = .ok (.aload_n 0, 1) := by decide +kernel
theorem dX0_addPerson_25 : decode cX0_addPerson 25 = .ok (.dup, 1) := by decide +kernel
theorem dX0_addPerson_26 : decode cX0_addPerson 26 = .ok (.getfield 39, 3) := by decide +kernel
theorem dX0_addPerson_29 : decode cX0_addPerson 29 = .ok (.iconst 1, 1) := by decide +kernel
theorem dX0_addPerson_30 : decode cX0_addPerson 30 = .ok (.iadd, 1) := by decide +kernel
theorem dX0_addPerson_31 : decode cX0_addPerson 31 = .ok (.putfield 39, 3) := by decide +kernel
theorem dX0_addPerson_34 : decode cX0_addPerson 34 = .ok (.aload_n 0, 1) := by decide +kernel
theorem dX0_addPerson_35 : decode cX0_addPerson 35 = .ok (.getfield 39, 3) := by decide +kernel
theorem dX0_addPerson_38 : decode cX0_addPerson 38 = .ok (.iconst 1, 1) := by decide +kernel
theorem dX0_addPerson_39 : decode cX0_addPerson 39 = .ok (.isub, 1) := by decide +kernel
theorem dX0_addPerson_40 : decode cX0_addPerson 40 = .ok (.ireturn, 1) := by decide +kernel
theorem dX0_giveVouchers_0 : decode cX0_giveVouchers 0 = .ok (.aload_n 0, 1) := by decide +kernel
theorem dX0_giveVouchers_1 : decode cX0_giveVouchers 1 = .ok (.iload_n 1, 1) := by decide +kernel
theorem dX0_giveVouchers_2 : decode cX0_giveVouchers 2 = .ok (.invokevirtual 69, 3) := by decide +kernel
theorem dX0_giveVouchers_5 : decode cX0_giveVouchers 5 = .ok (.ifCond .ne 5, 3) := by decide +kernel
theorem dX0_giveVouchers_8 : decode cX0_giveVouchers 8 = .ok (.iconst (-1), 1) := by decide +kernel
theorem dX0_giveVouchers_9 : decode cX0_giveVouchers 9 = .ok (.ireturn, 1) := by decide +kernel
theorem dX0_giveVouchers_10 : decode cX0_giveVouchers 10 = .ok (.iload_n 2, 1) := by decide +kernel
theorem dX0_giveVouchers_11 : decode cX0_giveVouchers 11 = .ok (.iconst 1, 1) := by decide +kernel
theorem dX0_giveVouchers_12 : decode cX0_giveVouchers 12 = .ok (.if_icmp .lt 9, 3) := by decide +kernel
theorem dX0_giveVouchers_15 : decode cX0_giveVouchers 15 = .ok (.iload_n 2, 1) := by decide +kernel
theorem dX0_giveVouchers_16 : decode cX0_giveVouchers 16 = .ok (.bipush 30, 2) := by decide +kernel
theorem dX0_giveVouchers_18 : decode cX0_giveVouchers 18 = .ok (.if_icmp .le 6, 3) := by decide +kernel
theorem dX0_giveVouchers_21 : decode cX0_giveVouchers 21 = .ok (.bipush (-2), 2) := by decide +kernel
theorem dX0_giveVouchers_23 : decode cX0_giveVouchers 23 = .ok (.ireturn, 1) := by decide +kernel
theorem dX0_giveVouchers_24 : decode cX0_giveVouchers 24 = .ok (.aload_n 0, 1) := by decide +kernel
theorem dX0_giveVouchers_25 : decode cX0_giveVouchers 25 = .ok (.getfield 17, 3) := by decide +kernel
theorem dX0_giveVouchers_28 : decode cX0_giveVouchers 28 = .ok (.iload_n 1, 1) := by decide +kernel
theorem dX0_giveVouchers_29 : decode cX0_giveVouchers 29 = .ok (.aaload, 1) := by decide +kernel
theorem dX0_giveVouchers_30 : decode cX0_giveVouchers 30 = .ok (.iload_n 2, 1) := by decide +kernel
theorem dX0_giveVouchers_31 : decode cX0_giveVouchers 31 = .ok (.invokevirtual 72, 3) := by decide +kernel
theorem dX0_giveVouchers_34 : decode cX0_giveVouchers 34 = .ok (.ireturn, 1) := by decide +kernel
theorem dX0_takeOrder_0 : decode cX0_takeOrder 0 = .ok (.aload_n 0, 1) := by decide +kernel
theorem dX0_takeOrder_1 : decode cX0_takeOrder 1 = .ok (.iload_n 1, 1) := by decide +kernel
theorem dX0_takeOrder_2 : decode cX0_takeOrder 2 = .ok (.iload_n 2, 1) := by decide +kernel
theorem dX0_takeOrder_3 : decode cX0_takeOrder 3 = .ok (.iload_n 3, 1) := by decide +kernel
theorem dX0_takeOrder_4 : decode cX0_takeOrder 4 = .ok (.invokevirtual 76, 3) := by decide +kernel
theorem dX0_takeOrder_7 : decode cX0_takeOrder 7 = .ok (.istore 4, 2) := by decide +kernel
theorem dX0_takeOrder_9 : decode cX0_takeOrder 9 = .ok (.iload 4, 2) := by decide +kernel
theorem dX0_takeOrder_11 : decode cX0_takeOrder 11 = .ok (.ifCond .ge 6, 3) := by decide +kernel
theorem dX0_takeOrder_14 : decode cX0_takeOrder 14 = .ok (.iload 4, 2) := by decide +kernel
theorem dX0_takeOrder_16 : decode cX0_takeOrder 16 = .ok (.ireturn, 1) := by decide +kernel
theorem dX0_takeOrder_17 : decode cX0_takeOrder 17 = .ok (.iload 4, 2) := by decide +kernel
theorem dX0_takeOrder_19 : decode cX0_takeOrder 19 = .ok (.ifCond .le 6, 3) := by decide +kernel
theorem dX0_takeOrder_22 : decode cX0_takeOrder 22 = .ok (.bipush (-5), 2) := by decide +kernel
theorem dX0_takeOrder_24 : decode cX0_takeOrder 24 = .ok (.ireturn, 1) := by decide +kernel
theorem dX0_takeOrder_25 : decode cX0_takeOrder 25 = .ok (.aload_n 0, 1) := by decide +kernel
theorem dX0_takeOrder_26 : decode cX0_takeOrder 26 = .ok (.getfield 17, 3) := by decide +kernel
theorem dX0_takeOrder_29 : decode cX0_takeOrder 29 = .ok (.iload_n 1, 1) := by decide +kernel
theorem dX0_takeOrder_30 : decode cX0_takeOrder 30 = .ok (.aaload, 1) := by decide +kernel
theorem dX0_takeOrder_31 : decode cX0_takeOrder 31 = .ok (.iload_n 2, 1) := by decide +kernel
theorem dX0_takeOrder_32 : decode cX0_takeOrder 32 = .ok (.iload_n 3, 1) := by decide +kernel
theorem dX0_takeOrder_33 : decode cX0_takeOrder 33 = .ok (.aload_n 0, 1) := by decide +kernel
theorem dX0_takeOrder_34 : decode cX0_takeOrder 34 = .ok (.iload_n 3, 1) := by decide +kernel
theorem dX0_takeOrder_35 : decode cX0_takeOrder 35 = .ok (.iload_n 2, 1) := by decide +kernel
theorem dX0_takeOrder_36 : decode cX0_takeOrder 36 = .ok (.invokevirtual 80, 3) := by decide +kernel
theorem dX0_takeOrder_39 : decode cX0_takeOrder 39 = .ok (.invokevirtual 84, 3) := by decide +kernel
theorem dX0_takeOrder_42 : decode cX0_takeOrder 42 = .ok (.ireturn, 1) := by decide +kernel
theorem dX0_cancelOrder_0 : decode cX0_cancelOrder 0 = .ok (.aload_n 0, 1) := by decide +kernel
theorem dX0_cancelOrder_1 : decode cX0_cancelOrder 1 = .ok (.iload_n 1, 1) := by decide +kernel
theorem dX0_cancelOrder_2 : decode cX0_cancelOrder 2 = .ok (.invokevirtual 69, 3) := by decide +kernel
theorem dX0_cancelOrder_5 : decode cX0_cancelOrder 5 = .ok (.ifCond .ne 5, 3) := by decide +kernel
theorem dX0_cancelOrder_8 : decode cX0_cancelOrder 8 = .ok (.iconst (-1), 1) := by decide +kernel
theorem dX0_cancelOrder_9 : decode cX0_cancelOrder 9 = .ok (.ireturn, 1) := by decide +kernel
theorem dX0_cancelOrder_10 : decode cX0_cancelOrder 10 = .ok (.iload_n 2, 1) := by decide +kernel
theorem dX0_cancelOrder_11 : decode cX0_cancelOrder 11 = .ok (.iconst 1, 1) := by decide +kernel
theorem dX0_cancelOrder_12 : decode cX0_cancelOrder 12 = .ok (.if_icmp .lt 11, 3) := by decide +kernel
theorem dX0_cancelOrder_15 : decode cX0_cancelOrder 15 = .ok (.aload_n 0, 1) := by decide +kernel
theorem dX0_cancelOrder_16 : decode cX0_cancelOrder 16 = .ok (.iload_n 2, 1) := by decide +kernel
theorem dX0_cancelOrder_17 : decode cX0_cancelOrder 17 = .ok (.invokevirtual 87, 3) := by decide +kernel
theorem dX0_cancelOrder_20 : decode cX0_cancelOrder 20 = .ok (.ifCond .ne 6, 3) := by decide +kernel
theorem dX0_cancelOrder_23 : decode cX0_cancelOrder 23 = .ok (.bipush (-2), 2) := by decide +kernel
theorem dX0_cancelOrder_25 : decode cX0_cancelOrder 25 = .ok (.ireturn, 1) := by decide +kernel
theorem dX0_cancelOrder_26 : decode cX0_cancelOrder 26 = .ok (.aload_n 0, 1) := by decide +kernel
theorem dX0_cancelOrder_27 : decode cX0_cancelOrder 27 = .ok (.getfield 17, 3) := by decide +kernel
theorem dX0_cancelOrder_30 : decode cX0_cancelOrder 30 = .ok (.iload_n 1, 1) := by decide +kernel
theorem dX0_cancelOrder_31 : decode cX0_cancelOrder 31 = .ok (.aaload, 1) := by decide +kernel
theorem dX0_cancelOrder_32 : decode cX0_cancelOrder 32 = .ok (.iload_n 2, 1) := by decide +kernel
theorem dX0_cancelOrder_33 : decode cX0_cancelOrder 33 = .ok (.invokevirtual 90, 3) := by decide +kernel
theorem dX0_cancelOrder_36 : decode cX0_cancelOrder 36 = .ok (.ifCond .ne 6, 3) := by decide +kernel
theorem dX0_cancelOrder_39 : decode cX0_cancelOrder 39 = .ok (.bipush (-5), 2) := by decide +kernel
theorem dX0_cancelOrder_41 : decode cX0_cancelOrder 41 = .ok (.ireturn, 1) := by decide +kernel
theorem dX0_cancelOrder_42 : decode cX0_cancelOrder 42 = .ok (.aload_n 0, 1) := by decide +kernel
theorem dX0_cancelOrder_43 : decode cX0_cancelOrder 43 = .ok (.getfield 17, 3) := by decide +kernel
theorem dX0_cancelOrder_46 : decode cX0_cancelOrder 46 = .ok (.iload_n 1, 1) := by decide +kernel
theorem dX0_cancelOrder_47 : decode cX0_cancelOrder 47 = .ok (.aaload, 1) := by decide +kernel
theorem dX0_cancelOrder_48 : decode cX0_cancelOrder 48 = .ok (.getfield 93, 3) := by decide +kernel
theorem dX0_cancelOrder_51 : decode cX0_cancelOrder 51 = .ok (.iload_n 2, 1) := by decide +kernel
theorem dX0_cancelOrder_52 : decode cX0_cancelOrder 52 = .ok (.bipush (-6), 2) := by decide +kernel
theorem dX0_cancelOrder_54 : decode cX0_cancelOrder 54 = .ok (.iastore, 1) := by decide +kernel
theorem dX0_cancelOrder_55 : decode cX0_cancelOrder 55 = .ok (.aload_n 0, 1) := by decide +kernel
theorem dX0_cancelOrder_56 : decode cX0_cancelOrder 56 = .ok (.getfield 17, 3) := by decide +kernel
theorem dX0_cancelOrder_59 : decode cX0_cancelOrder 59 = .ok (.iload_n 1, 1) := by decide +kernel
theorem dX0_cancelOrder_60 : decode cX0_cancelOrder 60 = .ok (.aaload, 1) := by decide +kernel
theorem dX0_cancelOrder_61 : decode cX0_cancelOrder 61 = .ok (.aload_n 0, 1) := by decide +kernel
theorem dX0_cancelOrder_62 : decode cX0_cancelOrder 62 = .ok (.getfield 17, 3) := by decide +kernel
theorem dX0_cancelOrder_65 : decode cX0_cancelOrder 65 = .ok (.iload_n 1, 1) := by decide +kernel
theorem dX0_cancelOrder_66 : decode cX0_cancelOrder 66 = .ok (.aaload, 1) := by decide +kernel
theorem dX0_cancelOrder_67 : decode cX0_cancelOrder 67 = .ok (.getfield 95, 3) := by decide +kernel
theorem dX0_cancelOrder_70 : decode cX0_cancelOrder 70 = .ok (.iload_n 2, 1) := by decide +kernel
theorem dX0_cancelOrder_71 : decode cX0_cancelOrder 71 = .ok (.iaload, 1) := by decide +kernel
theorem dX0_cancelOrder_72 : decode cX0_cancelOrder 72 = .ok (.invokevirtual 72, 3) := by decide +kernel
theorem dX0_cancelOrder_75 : decode cX0_cancelOrder 75 = .ok (.ireturn, 1) := by decide +kernel
theorem dX0_cookToday_0 : decode cX0_cookToday 0 = .ok (.aload_n 0, 1) := by decide +kernel
theorem dX0_cookToday_1 : decode cX0_cookToday 1 = .ok (.getfield 49, 3) := by decide +kernel
theorem dX0_cookToday_4 : decode cX0_cookToday 4 = .ok (.ifCond .eq 6, 3) := by decide +kernel
theorem dX0_cookToday_7 : decode cX0_cookToday 7 = .ok (.bipush (-5), 2) := by decide +kernel
theorem dX0_cookToday_9 : decode cX0_cookToday 9 = .ok (.ireturn, 1) := by decide +kernel
theorem dX0_cookToday_10 : decode cX0_cookToday 10 = .ok (.iconst 0, 1) := by decide +kernel
theorem dX0_cookToday_11 : decode cX0_cookToday 11 = .ok (.istore_n 1, 1) := by decide +kernel
theorem dX0_cookToday_12 : decode cX0_cookToday 12 = .ok (.iconst 0, 1) := by decide +kernel
theorem dX0_cookToday_13 : decode cX0_cookToday 13 = .ok (.istore_n 2, 1) := by decide +kernel
theorem dX0_cookToday_14 : decode cX0_cookToday 14 = .ok (.iload_n 2, 1) := by decide +kernel
theorem dX0_cookToday_15 : decode cX0_cookToday 15 = .ok (.iconst 3, 1) := by decide +kernel
theorem dX0_cookToday_16 : decode cX0_cookToday 16 = .ok (.if_icmp .ge 29, 3) := by decide +kernel
theorem dX0_cookToday_19 : decode cX0_cookToday 19 = .ok (.aload_n 0, 1) := by decide +kernel
theorem dX0_cookToday_20 : decode cX0_cookToday 20 = .ok (.iload_n 2, 1) := by decide +kernel
theorem dX0_cookToday_21 : decode cX0_cookToday 21 = .ok (.invokevirtual 98, 3) := by decide +kernel
theorem dX0_cookToday_24 : decode cX0_cookToday 24 = .ok (.istore_n 3, 1) := by decide +kernel
theorem dX0_cookToday_25 : decode cX0_cookToday 25 = .ok (.aload_n 0, 1) := by decide +kernel
theorem dX0_cookToday_26 : decode cX0_cookToday 26 = .ok (.getfield 23, 3) := by decide +kernel
theorem dX0_cookToday_29 : decode cX0_cookToday 29 = .ok (.iload_n 2, 1) := by decide +kernel
theorem dX0_cookToday_30 : decode cX0_cookToday 30 = .ok (.aaload, 1) := by decide +kernel
theorem dX0_cookToday_31 : decode cX0_cookToday 31 = .ok (.iload_n 3, 1) := by decide +kernel
theorem dX0_cookToday_32 : decode cX0_cookToday 32 = .ok (.invokevirtual 101, 3) := by decide +kernel
theorem dX0_cookToday_35 : decode cX0_cookToday 35 = .ok (.iload_n 1, 1) := by decide +kernel
theorem dX0_cookToday_36 : decode cX0_cookToday 36 = .ok (.iload_n 3, 1) := by decide +kernel
theorem dX0_cookToday_37 : decode cX0_cookToday 37 = .ok (.iadd, 1) := by decide +kernel
theorem dX0_cookToday_38 : decode cX0_cookToday 38 = .ok (.istore_n 1, 1) := by decide +kernel
theorem dX0_cookToday_39 : decode cX0_cookToday 39 = .ok (.iinc 2 1, 3) := by decide +kernel
theorem dX0_cookToday_42 : decode cX0_cookToday 42 = .ok (.goto (-28), 3) := by decide +kernel
theorem dX0_cookToday_45 : decode cX0_cookToday 45 = .ok (.aload_n 0, 1) := by decide +kernel
theorem dX0_cookToday_46 : decode cX0_cookToday 46 = .ok (.iconst 1, 1) := by decide +kernel
theorem dX0_cookToday_47 : decode cX0_cookToday 47 = .ok (.putfield 49, 3) := by decide +kernel
theorem dX0_cookToday_50 : decode cX0_cookToday 50 = .ok (.iload_n 1, 1) := by decide +kernel
theorem dX0_cookToday_51 : decode cX0_cookToday 51 = .ok (.ireturn, 1) := by decide +kernel
theorem dX0_platesToCook_0 : decode cX0_platesToCook 0 = .ok (.iconst 0, 1) := by decide +kernel
theorem dX0_platesToCook_1 : decode cX0_platesToCook 1 = .ok (.istore_n 2, 1) := by decide +kernel
theorem dX0_platesToCook_2 : decode cX0_platesToCook 2 = .ok (.iconst 0, 1) := by decide +kernel
theorem dX0_platesToCook_3 : decode cX0_platesToCook 3 = .ok (.istore_n 3, 1) := by decide +kernel
theorem dX0_platesToCook_4 : decode cX0_platesToCook 4 = .ok (.iload_n 3, 1) := by decide +kernel
theorem dX0_platesToCook_5 : decode cX0_platesToCook 5 = .ok (.aload_n 0, 1) := by decide +kernel
theorem dX0_platesToCook_6 : decode cX0_platesToCook 6 = .ok (.getfield 39, 3) := by decide +kernel
theorem dX0_platesToCook_9 : decode cX0_platesToCook 9 = .ok (.if_icmp .ge 39, 3) := by decide +kernel
theorem dX0_platesToCook_12 : decode cX0_platesToCook 12 = .ok (.aload_n 0, 1) := by decide +kernel
theorem dX0_platesToCook_13 : decode cX0_platesToCook 13 = .ok (.getfield 17, 3) := by decide +kernel
theorem dX0_platesToCook_16 : decode cX0_platesToCook 16 = .ok (.iload_n 3, 1) := by decide +kernel
theorem dX0_platesToCook_17 : decode cX0_platesToCook 17 = .ok (.aaload, 1) := by decide +kernel
theorem dX0_platesToCook_18 : decode cX0_platesToCook 18 = .ok (.getfield 93, 3) := by decide +kernel
theorem dX0_platesToCook_21 : decode cX0_platesToCook 21 = .ok (.iconst 0, 1) := by decide +kernel
theorem dX0_platesToCook_22 : decode cX0_platesToCook 22 = .ok (.iaload, 1) := by decide +kernel
theorem dX0_platesToCook_23 : decode cX0_platesToCook 23 = .ok (.iload_n 1, 1) := by decide +kernel
theorem dX0_platesToCook_24 : decode cX0_platesToCook 24 = .ok (.if_icmp .ne 18, 3) := by decide +kernel
theorem dX0_platesToCook_27 : decode cX0_platesToCook 27 = .ok (.iload_n 2, 1) := by decide +kernel
theorem dX0_platesToCook_28 : decode cX0_platesToCook 28 = .ok (.bipush 100, 2) := by decide +kernel
theorem dX0_platesToCook_30 : decode cX0_platesToCook 30 = .ok (.aload_n 0, 1) := by decide +kernel
theorem dX0_platesToCook_31 : decode cX0_platesToCook 31 = .ok (.getfield 17, 3) := by decide +kernel
theorem dX0_platesToCook_34 : decode cX0_platesToCook 34 = .ok (.iload_n 3, 1) := by decide +kernel
theorem dX0_platesToCook_35 : decode cX0_platesToCook 35 = .ok (.aaload, 1) := by decide +kernel
theorem dX0_platesToCook_36 : decode cX0_platesToCook 36 = .ok (.invokevirtual 105, 3) := by decide +kernel
theorem dX0_platesToCook_39 : decode cX0_platesToCook 39 = .ok (.isub, 1) := by decide +kernel
theorem dX0_platesToCook_40 : decode cX0_platesToCook 40 = .ok (.iadd, 1) := by decide +kernel
theorem dX0_platesToCook_41 : decode cX0_platesToCook 41 = .ok (.istore_n 2, 1) := by decide +kernel
theorem dX0_platesToCook_42 : decode cX0_platesToCook 42 = .ok (.iinc 3 1, 3) := by decide +kernel
theorem dX0_platesToCook_45 : decode cX0_platesToCook 45 = .ok (.goto (-41), 3) := by decide +kernel
theorem dX0_platesToCook_48 : decode cX0_platesToCook 48 = .ok (.iload_n 2, 1) := by decide +kernel
theorem dX0_platesToCook_49 : decode cX0_platesToCook 49 = .ok (.bipush 99, 2) := by decide +kernel
theorem dX0_platesToCook_51 : decode cX0_platesToCook 51 = .ok (.iadd, 1) := by decide +kernel
theorem dX0_platesToCook_52 : decode cX0_platesToCook 52 = .ok (.bipush 100, 2) := by decide +kernel
theorem dX0_platesToCook_54 : decode cX0_platesToCook 54 = .ok (.idiv, 1) := by decide +kernel
theorem dX0_platesToCook_55 : decode cX0_platesToCook 55 = .ok (.istore_n 3, 1) := by decide +kernel
theorem dX0_platesToCook_56 : decode cX0_platesToCook 56 = .ok (.iconst 0, 1) := by decide +kernel
theorem dX0_platesToCook_57 : decode cX0_platesToCook 57 = .ok (.iload_n 3, 1) := by decide +kernel
theorem dX0_platesToCook_58 : decode cX0_platesToCook 58 = .ok (.aload_n 0, 1) := by decide +kernel
theorem dX0_platesToCook_59 : decode cX0_platesToCook 59 = .ok (.getfield 9, 3) := by decide +kernel
theorem dX0_platesToCook_62 : decode cX0_platesToCook 62 = .ok (.iconst 0, 1) := by decide +kernel
theorem dX0_platesToCook_63 : decode cX0_platesToCook 63 = .ok (.iaload, 1) := by decide +kernel
theorem dX0_platesToCook_64 : decode cX0_platesToCook 64 = .ok (.iadd, 1) := by decide +kernel
theorem dX0_platesToCook_65 : decode cX0_platesToCook 65 = .ok (.aload_n 0, 1) := by decide +kernel
theorem dX0_platesToCook_66 : decode cX0_platesToCook 66 = .ok (.getfield 23, 3) := by decide +kernel
theorem dX0_platesToCook_69 : decode cX0_platesToCook 69 = .ok (.iload_n 1, 1) := by decide +kernel
theorem dX0_platesToCook_70 : decode cX0_platesToCook 70 = .ok (.aaload, 1) := by decide +kernel
theorem dX0_platesToCook_71 : decode cX0_platesToCook 71 = .ok (.getfield 109, 3) := by decide +kernel
theorem dX0_platesToCook_74 : decode cX0_platesToCook 74 = .ok (.isub, 1) := by decide +kernel
theorem dX0_platesToCook_75 : decode cX0_platesToCook 75 = .ok (.invokestatic 112, 3) := by decide +kernel
theorem dX0_platesToCook_78 : decode cX0_platesToCook 78 = .ok (.ireturn, 1) := by decide +kernel
theorem dX0_serve_0 : decode cX0_serve 0 = .ok (.aload_n 0, 1) := by decide +kernel
theorem dX0_serve_1 : decode cX0_serve 1 = .ok (.iload_n 1, 1) := by decide +kernel
theorem dX0_serve_2 : decode cX0_serve 2 = .ok (.invokevirtual 69, 3) := by decide +kernel
theorem dX0_serve_5 : decode cX0_serve 5 = .ok (.ifCond .ne 5, 3) := by decide +kernel
theorem dX0_serve_8 : decode cX0_serve 8 = .ok (.iconst (-1), 1) := by decide +kernel
theorem dX0_serve_9 : decode cX0_serve 9 = .ok (.ireturn, 1) := by decide +kernel
theorem dX0_serve_10 : decode cX0_serve 10 = .ok (.aload_n 0, 1) := by decide +kernel
theorem dX0_serve_11 : decode cX0_serve 11 = .ok (.getfield 17, 3) := by decide +kernel
theorem dX0_serve_14 : decode cX0_serve 14 = .ok (.iload_n 1, 1) := by decide +kernel
theorem dX0_serve_15 : decode cX0_serve 15 = .ok (.aaload, 1) := by decide +kernel
theorem dX0_serve_16 : decode cX0_serve 16 = .ok (.astore_n 2, 1) := by decide +kernel
theorem dX0_serve_17 : decode cX0_serve 17 = .ok (.aload_n 0, 1) := by decide +kernel
theorem dX0_serve_18 : decode cX0_serve 18 = .ok (.getfield 49, 3) := by decide +kernel
theorem dX0_serve_21 : decode cX0_serve 21 = .ok (.ifCond .eq 18, 3) := by decide +kernel
theorem dX0_serve_24 : decode cX0_serve 24 = .ok (.aload_n 2, 1) := by decide +kernel
theorem dX0_serve_25 : decode cX0_serve 25 = .ok (.iconst 0, 1) := by decide +kernel
theorem dX0_serve_26 : decode cX0_serve 26 = .ok (.invokevirtual 90, 3) := by decide +kernel
theorem dX0_serve_29 : decode cX0_serve 29 = .ok (.ifCond .eq 10, 3) := by decide +kernel
theorem dX0_serve_32 : decode cX0_serve 32 = .ok (.aload_n 2, 1) := by decide +kernel
theorem dX0_serve_33 : decode cX0_serve 33 = .ok (.getfield 117, 3) := by decide +kernel
theorem dX0_serve_36 : decode cX0_serve 36 = .ok (.ifCond .eq 6, 3) := by decide +kernel
theorem dX0_serve_39 : decode cX0_serve 39 = .ok (.bipush (-5), 2) := by decide +kernel
theorem dX0_serve_41 : decode cX0_serve 41 = .ok (.ireturn, 1) := by decide +kernel
theorem dX0_serve_42 : decode cX0_serve 42 = .ok (.aload_n 2, 1) := by decide +kernel
theorem dX0_serve_43 : decode cX0_serve 43 = .ok (.invokevirtual 120, 3) := by decide +kernel
theorem dX0_serve_46 : decode cX0_serve 46 = .ok (.aload_n 2, 1) := by decide +kernel
theorem dX0_serve_47 : decode cX0_serve 47 = .ok (.getfield 93, 3) := by decide +kernel
theorem dX0_serve_50 : decode cX0_serve 50 = .ok (.iconst 0, 1) := by decide +kernel
theorem dX0_serve_51 : decode cX0_serve 51 = .ok (.iaload, 1) := by decide +kernel
theorem dX0_serve_52 : decode cX0_serve 52 = .ok (.istore_n 3, 1) := by decide +kernel
theorem dX0_serve_53 : decode cX0_serve 53 = .ok (.aload_n 0, 1) := by decide +kernel
theorem dX0_serve_54 : decode cX0_serve 54 = .ok (.iload_n 3, 1) := by decide +kernel
theorem dX0_serve_55 : decode cX0_serve 55 = .ok (.invokevirtual 62, 3) := by decide +kernel
theorem dX0_serve_58 : decode cX0_serve 58 = .ok (.ifCond .eq 15, 3) := by decide +kernel
theorem dX0_serve_61 : decode cX0_serve 61 = .ok (.aload_n 0, 1) := by decide +kernel
theorem dX0_serve_62 : decode cX0_serve 62 = .ok (.getfield 23, 3) := by decide +kernel
theorem dX0_serve_65 : decode cX0_serve 65 = .ok (.iload_n 3, 1) := by decide +kernel
theorem dX0_serve_66 : decode cX0_serve 66 = .ok (.aaload, 1) := by decide +kernel
theorem dX0_serve_67 : decode cX0_serve 67 = .ok (.invokevirtual 123, 3) := by decide +kernel
theorem dX0_serve_70 : decode cX0_serve 70 = .ok (.ifCond .ne 16, 3) := by decide +kernel
theorem dX0_serve_73 : decode cX0_serve 73 = .ok (.aload_n 2, 1) := by decide +kernel
theorem dX0_serve_74 : decode cX0_serve 74 = .ok (.aload_n 2, 1) := by decide +kernel
theorem dX0_serve_75 : decode cX0_serve 75 = .ok (.getfield 95, 3) := by decide +kernel
theorem dX0_serve_78 : decode cX0_serve 78 = .ok (.iconst 0, 1) := by decide +kernel
theorem dX0_serve_79 : decode cX0_serve 79 = .ok (.iaload, 1) := by decide +kernel
theorem dX0_serve_80 : decode cX0_serve 80 = .ok (.invokevirtual 72, 3) := by decide +kernel
theorem dX0_serve_83 : decode cX0_serve 83 = .ok (.pop, 1) := by decide +kernel
theorem dX0_serve_84 : decode cX0_serve 84 = .ok (.iconst 3, 1) := by decide +kernel
theorem dX0_serve_85 : decode cX0_serve 85 = .ok (.ireturn, 1) := by decide +kernel
theorem dX0_serve_86 : decode cX0_serve 86 = .ok (.aload_n 0, 1) := by decide +kernel
theorem dX0_serve_87 : decode cX0_serve 87 = .ok (.getfield 23, 3) := by decide +kernel
theorem dX0_serve_90 : decode cX0_serve 90 = .ok (.iload_n 3, 1) := by decide +kernel
theorem dX0_serve_91 : decode cX0_serve 91 = .ok (.aaload, 1) := by decide +kernel
theorem dX0_serve_92 : decode cX0_serve 92 = .ok (.invokevirtual 126, 3) := by decide +kernel
theorem dX0_serve_95 : decode cX0_serve 95 = .ok (.aload_n 2, 1) := by decide +kernel
theorem dX0_serve_96 : decode cX0_serve 96 = .ok (.dup, 1) := by decide +kernel
theorem dX0_serve_97 : decode cX0_serve 97 = .ok (.getfield 129, 3) := by decide +kernel
theorem dX0_serve_100 : decode cX0_serve 100 = .ok (.iconst 1, 1) := by decide +kernel
theorem dX0_serve_101 : decode cX0_serve 101 = .ok (.iadd, 1) := by decide +kernel
theorem dX0_serve_102 : decode cX0_serve 102 = .ok (.putfield 129, 3) := by decide +kernel
theorem dX0_serve_105 : decode cX0_serve 105 = .ok (.iload_n 3, 1) := by decide +kernel
theorem dX0_serve_106 : decode cX0_serve 106 = .ok (.ireturn, 1) := by decide +kernel
theorem dX0_sell_0 : decode cX0_sell 0 = .ok (.aload_n 0, 1) := by decide +kernel
theorem dX0_sell_1 : decode cX0_sell 1 = .ok (.iload_n 1, 1) := by decide +kernel
theorem dX0_sell_2 : decode cX0_sell 2 = .ok (.invokevirtual 69, 3) := by decide +kernel
theorem dX0_sell_5 : decode cX0_sell 5 = .ok (.ifCond .eq 11, 3) := by decide +kernel
theorem dX0_sell_8 : decode cX0_sell 8 = .ok (.aload_n 0, 1) := by decide +kernel
theorem dX0_sell_9 : decode cX0_sell 9 = .ok (.iload_n 2, 1) := by decide +kernel
theorem dX0_sell_10 : decode cX0_sell 10 = .ok (.invokevirtual 62, 3) := by decide +kernel
theorem dX0_sell_13 : decode cX0_sell 13 = .ok (.ifCond .ne 5, 3) := by decide +kernel
theorem dX0_sell_16 : decode cX0_sell 16 = .ok (.iconst (-1), 1) := by decide +kernel
theorem dX0_sell_17 : decode cX0_sell 17 = .ok (.ireturn, 1) := by decide +kernel
theorem dX0_sell_18 : decode cX0_sell 18 = .ok (.aload_n 0, 1) := by decide +kernel
theorem dX0_sell_19 : decode cX0_sell 19 = .ok (.getfield 17, 3) := by decide +kernel
theorem dX0_sell_22 : decode cX0_sell 22 = .ok (.iload_n 1, 1) := by decide +kernel
theorem dX0_sell_23 : decode cX0_sell 23 = .ok (.aaload, 1) := by decide +kernel
theorem dX0_sell_24 : decode cX0_sell 24 = .ok (.astore_n 3, 1) := by decide +kernel
theorem dX0_sell_25 : decode cX0_sell 25 = .ok (.aload_n 0, 1) := by decide +kernel
theorem dX0_sell_26 : decode cX0_sell 26 = .ok (.getfield 49, 3) := by decide +kernel
theorem dX0_sell_29 : decode cX0_sell 29 = .ok (.ifCond .eq 18, 3) := by decide +kernel
theorem dX0_sell_32 : decode cX0_sell 32 = .ok (.aload_n 3, 1) := by decide +kernel
theorem dX0_sell_33 : decode cX0_sell 33 = .ok (.iconst 0, 1) := by decide +kernel
theorem dX0_sell_34 : decode cX0_sell 34 = .ok (.invokevirtual 90, 3) := by decide +kernel
theorem dX0_sell_37 : decode cX0_sell 37 = .ok (.ifCond .ne 10, 3) := by decide +kernel
theorem dX0_sell_40 : decode cX0_sell 40 = .ok (.aload_n 3, 1) := by decide +kernel
theorem dX0_sell_41 : decode cX0_sell 41 = .ok (.getfield 117, 3) := by decide +kernel
theorem dX0_sell_44 : decode cX0_sell 44 = .ok (.ifCond .eq 6, 3) := by decide +kernel
theorem dX0_sell_47 : decode cX0_sell 47 = .ok (.bipush (-5), 2) := by decide +kernel
theorem dX0_sell_49 : decode cX0_sell 49 = .ok (.ireturn, 1) := by decide +kernel
theorem dX0_sell_50 : decode cX0_sell 50 = .ok (.aload_n 0, 1) := by decide +kernel
theorem dX0_sell_51 : decode cX0_sell 51 = .ok (.iload_n 2, 1) := by decide +kernel
theorem dX0_sell_52 : decode cX0_sell 52 = .ok (.iconst 0, 1) := by decide +kernel
theorem dX0_sell_53 : decode cX0_sell 53 = .ok (.invokevirtual 80, 3) := by decide +kernel
theorem dX0_sell_56 : decode cX0_sell 56 = .ok (.iconst 1, 1) := by decide +kernel
theorem dX0_sell_57 : decode cX0_sell 57 = .ok (.iadd, 1) := by decide +kernel
theorem dX0_sell_58 : decode cX0_sell 58 = .ok (.istore 4, 2) := by decide +kernel
theorem dX0_sell_60 : decode cX0_sell 60 = .ok (.aload_n 3, 1) := by decide +kernel
theorem dX0_sell_61 : decode cX0_sell 61 = .ok (.getfield 132, 3) := by decide +kernel
theorem dX0_sell_64 : decode cX0_sell 64 = .ok (.iload 4, 2) := by decide +kernel
theorem dX0_sell_66 : decode cX0_sell 66 = .ok (.if_icmp .lt 20, 3) := by decide +kernel
theorem dX0_sell_69 : decode cX0_sell 69 = .ok (.aload_n 0, 1) := by decide +kernel
theorem dX0_sell_70 : decode cX0_sell 70 = .ok (.getfield 23, 3) := by decide +kernel
theorem dX0_sell_73 : decode cX0_sell 73 = .ok (.iload_n 2, 1) := by decide +kernel
theorem dX0_sell_74 : decode cX0_sell 74 = .ok (.aaload, 1) := by decide +kernel
theorem dX0_sell_75 : decode cX0_sell 75 = .ok (.invokevirtual 123, 3) := by decide +kernel
theorem dX0_sell_78 : decode cX0_sell 78 = .ok (.aload_n 0, 1) := by decide +kernel
theorem dX0_sell_79 : decode cX0_sell 79 = .ok (.iload_n 2, 1) := by decide +kernel
theorem dX0_sell_80 : decode cX0_sell 80 = .ok (.invokevirtual 135, 3) := by decide +kernel
theorem dX0_sell_83 : decode cX0_sell 83 = .ok (.if_icmp .gt 6, 3) := by decide +kernel
theorem dX0_sell_86 : decode cX0_sell 86 = .ok (.bipush (-5), 2) := by decide +kernel
theorem dX0_sell_88 : decode cX0_sell 88 = .ok (.ireturn, 1) := by decide +kernel
theorem dX0_sell_89 : decode cX0_sell 89 = .ok (.aload_n 0, 1) := by decide +kernel
theorem dX0_sell_90 : decode cX0_sell 90 = .ok (.getfield 23, 3) := by decide +kernel
theorem dX0_sell_93 : decode cX0_sell 93 = .ok (.iload_n 2, 1) := by decide +kernel
theorem dX0_sell_94 : decode cX0_sell 94 = .ok (.aaload, 1) := by decide +kernel
theorem dX0_sell_95 : decode cX0_sell 95 = .ok (.invokevirtual 126, 3) := by decide +kernel
theorem dX0_sell_98 : decode cX0_sell 98 = .ok (.aload_n 3, 1) := by decide +kernel
theorem dX0_sell_99 : decode cX0_sell 99 = .ok (.dup, 1) := by decide +kernel
theorem dX0_sell_100 : decode cX0_sell 100 = .ok (.getfield 129, 3) := by decide +kernel
theorem dX0_sell_103 : decode cX0_sell 103 = .ok (.iconst 1, 1) := by decide +kernel
theorem dX0_sell_104 : decode cX0_sell 104 = .ok (.iadd, 1) := by decide +kernel
theorem dX0_sell_105 : decode cX0_sell 105 = .ok (.putfield 129, 3) := by decide +kernel
theorem dX0_sell_108 : decode cX0_sell 108 = .ok (.aload_n 3, 1) := by decide +kernel
theorem dX0_sell_109 : decode cX0_sell 109 = .ok (.iconst 1, 1) := by decide +kernel
theorem dX0_sell_110 : decode cX0_sell 110 = .ok (.putfield 117, 3) := by decide +kernel
theorem dX0_sell_113 : decode cX0_sell 113 = .ok (.aload_n 3, 1) := by decide +kernel
theorem dX0_sell_114 : decode cX0_sell 114 = .ok (.dup, 1) := by decide +kernel
theorem dX0_sell_115 : decode cX0_sell 115 = .ok (.getfield 132, 3) := by decide +kernel
theorem dX0_sell_118 : decode cX0_sell 118 = .ok (.iload 4, 2) := by decide +kernel
theorem dX0_sell_120 : decode cX0_sell 120 = .ok (.isub, 1) := by decide +kernel
theorem dX0_sell_121 : decode cX0_sell 121 = .ok (.putfield 132, 3) := by decide +kernel
theorem dX0_sell_124 : decode cX0_sell 124 = .ok (.aload_n 3, 1) := by decide +kernel
theorem dX0_sell_125 : decode cX0_sell 125 = .ok (.getfield 132, 3) := by decide +kernel
theorem dX0_sell_128 : decode cX0_sell 128 = .ok (.ireturn, 1) := by decide +kernel
theorem dX0_awaited_0 : decode cX0_awaited 0 = .ok (.iconst 0, 1) := by decide +kernel
theorem dX0_awaited_1 : decode cX0_awaited 1 = .ok (.istore_n 2, 1) := by decide +kernel
theorem dX0_awaited_2 : decode cX0_awaited 2 = .ok (.iconst 0, 1) := by decide +kernel
theorem dX0_awaited_3 : decode cX0_awaited 3 = .ok (.istore_n 3, 1) := by decide +kernel
theorem dX0_awaited_4 : decode cX0_awaited 4 = .ok (.iload_n 3, 1) := by decide +kernel
theorem dX0_awaited_5 : decode cX0_awaited 5 = .ok (.aload_n 0, 1) := by decide +kernel
theorem dX0_awaited_6 : decode cX0_awaited 6 = .ok (.getfield 39, 3) := by decide +kernel
theorem dX0_awaited_9 : decode cX0_awaited 9 = .ok (.if_icmp .ge 39, 3) := by decide +kernel
theorem dX0_awaited_12 : decode cX0_awaited 12 = .ok (.aload_n 0, 1) := by decide +kernel
theorem dX0_awaited_13 : decode cX0_awaited 13 = .ok (.getfield 17, 3) := by decide +kernel
theorem dX0_awaited_16 : decode cX0_awaited 16 = .ok (.iload_n 3, 1) := by decide +kernel
theorem dX0_awaited_17 : decode cX0_awaited 17 = .ok (.aaload, 1) := by decide +kernel
theorem dX0_awaited_18 : decode cX0_awaited 18 = .ok (.getfield 93, 3) := by decide +kernel
theorem dX0_awaited_21 : decode cX0_awaited 21 = .ok (.iconst 0, 1) := by decide +kernel
theorem dX0_awaited_22 : decode cX0_awaited 22 = .ok (.iaload, 1) := by decide +kernel
theorem dX0_awaited_23 : decode cX0_awaited 23 = .ok (.iload_n 1, 1) := by decide +kernel
theorem dX0_awaited_24 : decode cX0_awaited 24 = .ok (.if_icmp .ne 18, 3) := by decide +kernel
theorem dX0_awaited_27 : decode cX0_awaited 27 = .ok (.aload_n 0, 1) := by decide +kernel
theorem dX0_awaited_28 : decode cX0_awaited 28 = .ok (.getfield 17, 3) := by decide +kernel
theorem dX0_awaited_31 : decode cX0_awaited 31 = .ok (.iload_n 3, 1) := by decide +kernel
theorem dX0_awaited_32 : decode cX0_awaited 32 = .ok (.aaload, 1) := by decide +kernel
theorem dX0_awaited_33 : decode cX0_awaited 33 = .ok (.getfield 117, 3) := by decide +kernel
theorem dX0_awaited_36 : decode cX0_awaited 36 = .ok (.ifCond .ne 6, 3) := by decide +kernel
theorem dX0_awaited_39 : decode cX0_awaited 39 = .ok (.iinc 2 1, 3) := by decide +kernel
theorem dX0_awaited_42 : decode cX0_awaited 42 = .ok (.iinc 3 1, 3) := by decide +kernel
theorem dX0_awaited_45 : decode cX0_awaited 45 = .ok (.goto (-41), 3) := by decide +kernel
theorem dX0_awaited_48 : decode cX0_awaited 48 = .ok (.iload_n 2, 1) := by decide +kernel
theorem dX0_awaited_49 : decode cX0_awaited 49 = .ok (.ireturn, 1) := by decide +kernel
theorem dX0_endDay_0 : decode cX0_endDay 0 = .ok (.aload_n 0, 1) := by decide +kernel
theorem dX0_endDay_1 : decode cX0_endDay 1 = .ok (.getfield 49, 3) := by decide +kernel
theorem dX0_endDay_4 : decode cX0_endDay 4 = .ok (.ifCond .eq 13, 3) := by decide +kernel
theorem dX0_endDay_7 : decode cX0_endDay 7 = .ok (.aload_n 0, 1) := by decide +kernel
theorem dX0_endDay_8 : decode cX0_endDay 8 = .ok (.getfield 46, 3) := by decide +kernel
theorem dX0_endDay_11 : decode cX0_endDay 11 = .ok (.sipush 9999, 3) := by decide +kernel
theorem dX0_endDay_14 : decode cX0_endDay 14 = .ok (.if_icmp .lt 6, 3) := by decide +kernel
theorem dX0_endDay_17 : decode cX0_endDay 17 = .ok (.bipush (-5), 2) := by decide +kernel
theorem dX0_endDay_19 : decode cX0_endDay 19 = .ok (.ireturn, 1) := by decide +kernel
theorem dX0_endDay_20 : decode cX0_endDay 20 = .ok (.iconst 0, 1) := by decide +kernel
theorem dX0_endDay_21 : decode cX0_endDay 21 = .ok (.istore_n 1, 1) := by decide +kernel
theorem dX0_endDay_22 : decode cX0_endDay 22 = .ok (.iconst 0, 1) := by decide +kernel
theorem dX0_endDay_23 : decode cX0_endDay 23 = .ok (.istore_n 2, 1) := by decide +kernel
theorem dX0_endDay_24 : decode cX0_endDay 24 = .ok (.iload_n 2, 1) := by decide +kernel
theorem dX0_endDay_25 : decode cX0_endDay 25 = .ok (.aload_n 0, 1) := by decide +kernel
theorem dX0_endDay_26 : decode cX0_endDay 26 = .ok (.getfield 39, 3) := by decide +kernel
theorem dX0_endDay_29 : decode cX0_endDay 29 = .ok (.if_icmp .ge 70, 3) := by decide +kernel
theorem dX0_endDay_32 : decode cX0_endDay 32 = .ok (.aload_n 0, 1) := by decide +kernel
theorem dX0_endDay_33 : decode cX0_endDay 33 = .ok (.getfield 17, 3) := by decide +kernel
theorem dX0_endDay_36 : decode cX0_endDay 36 = .ok (.iload_n 2, 1) := by decide +kernel
theorem dX0_endDay_37 : decode cX0_endDay 37 = .ok (.aaload, 1) := by decide +kernel
theorem dX0_endDay_38 : decode cX0_endDay 38 = .ok (.invokevirtual 138, 3) := by decide +kernel
theorem dX0_endDay_41 : decode cX0_endDay 41 = .ok (.ifCond .eq 15, 3) := by decide +kernel
theorem dX0_endDay_44 : decode cX0_endDay 44 = .ok (.aload_n 0, 1) := by decide +kernel
theorem dX0_endDay_45 : decode cX0_endDay 45 = .ok (.getfield 17, 3) := by decide +kernel
theorem dX0_endDay_48 : decode cX0_endDay 48 = .ok (.iload_n 2, 1) := by decide +kernel
theorem dX0_endDay_49 : decode cX0_endDay 49 = .ok (.aaload, 1) := by decide +kernel
theorem dX0_endDay_50 : decode cX0_endDay 50 = .ok (.invokevirtual 142, 3) := by decide +kernel
theorem dX0_endDay_53 : decode cX0_endDay 53 = .ok (.iinc 1 1, 3) := by decide +kernel
theorem dX0_endDay_56 : decode cX0_endDay 56 = .ok (.aload_n 0, 1) := by decide +kernel
theorem dX0_endDay_57 : decode cX0_endDay 57 = .ok (.getfield 17, 3) := by decide +kernel
theorem dX0_endDay_60 : decode cX0_endDay 60 = .ok (.iload_n 2, 1) := by decide +kernel
theorem dX0_endDay_61 : decode cX0_endDay 61 = .ok (.aaload, 1) := by decide +kernel
theorem dX0_endDay_62 : decode cX0_endDay 62 = .ok (.aload_n 0, 1) := by decide +kernel
theorem dX0_endDay_63 : decode cX0_endDay 63 = .ok (.getfield 9, 3) := by decide +kernel
theorem dX0_endDay_66 : decode cX0_endDay 66 = .ok (.iconst 2, 1) := by decide +kernel
theorem dX0_endDay_67 : decode cX0_endDay 67 = .ok (.iaload, 1) := by decide +kernel
theorem dX0_endDay_68 : decode cX0_endDay 68 = .ok (.aload_n 0, 1) := by decide +kernel
theorem dX0_endDay_69 : decode cX0_endDay 69 = .ok (.getfield 46, 3) := by decide +kernel
theorem dX0_endDay_72 : decode cX0_endDay 72 = .ok (.iconst 1, 1) := by decide +kernel
theorem dX0_endDay_73 : decode cX0_endDay 73 = .ok (.iadd, 1) := by decide +kernel
theorem dX0_endDay_74 : decode cX0_endDay 74 = .ok (.aload_n 0, 1) := by decide +kernel
theorem dX0_endDay_75 : decode cX0_endDay 75 = .ok (.getfield 9, 3) := by decide +kernel
theorem dX0_endDay_78 : decode cX0_endDay 78 = .ok (.iconst 3, 1) := by decide +kernel
theorem dX0_endDay_79 : decode cX0_endDay 79 = .ok (.iaload, 1) := by decide +kernel
theorem dX0_endDay_80 : decode cX0_endDay 80 = .ok (.iadd, 1) := by decide +kernel
theorem dX0_endDay_81 : decode cX0_endDay 81 = .ok (.invokevirtual 145, 3) := by decide +kernel
theorem dX0_endDay_84 : decode cX0_endDay 84 = .ok (.aload_n 0, 1) := by decide +kernel
theorem dX0_endDay_85 : decode cX0_endDay 85 = .ok (.getfield 17, 3) := by decide +kernel
theorem dX0_endDay_88 : decode cX0_endDay 88 = .ok (.iload_n 2, 1) := by decide +kernel
theorem dX0_endDay_89 : decode cX0_endDay 89 = .ok (.aaload, 1) := by decide +kernel
theorem dX0_endDay_90 : decode cX0_endDay 90 = .ok (.invokevirtual 149, 3) := by decide +kernel
theorem dX0_endDay_93 : decode cX0_endDay 93 = .ok (.iinc 2 1, 3) := by decide +kernel
theorem dX0_endDay_96 : decode cX0_endDay 96 = .ok (.goto (-72), 3) := by decide +kernel
theorem dX0_endDay_99 : decode cX0_endDay 99 = .ok (.iconst 0, 1) := by decide +kernel
theorem dX0_endDay_100 : decode cX0_endDay 100 = .ok (.istore_n 2, 1) := by decide +kernel
theorem dX0_endDay_101 : decode cX0_endDay 101 = .ok (.iload_n 2, 1) := by decide +kernel
theorem dX0_endDay_102 : decode cX0_endDay 102 = .ok (.iconst 3, 1) := by decide +kernel
theorem dX0_endDay_103 : decode cX0_endDay 103 = .ok (.if_icmp .ge 24, 3) := by decide +kernel
theorem dX0_endDay_106 : decode cX0_endDay 106 = .ok (.aload_n 0, 1) := by decide +kernel
theorem dX0_endDay_107 : decode cX0_endDay 107 = .ok (.getfield 23, 3) := by decide +kernel
theorem dX0_endDay_110 : decode cX0_endDay 110 = .ok (.iload_n 2, 1) := by decide +kernel
theorem dX0_endDay_111 : decode cX0_endDay 111 = .ok (.aaload, 1) := by decide +kernel
theorem dX0_endDay_112 : decode cX0_endDay 112 = .ok (.aload_n 0, 1) := by decide +kernel
theorem dX0_endDay_113 : decode cX0_endDay 113 = .ok (.getfield 9, 3) := by decide +kernel
theorem dX0_endDay_116 : decode cX0_endDay 116 = .ok (.iconst 1, 1) := by decide +kernel
theorem dX0_endDay_117 : decode cX0_endDay 117 = .ok (.iaload, 1) := by decide +kernel
theorem dX0_endDay_118 : decode cX0_endDay 118 = .ok (.invokevirtual 152, 3) := by decide +kernel
theorem dX0_endDay_121 : decode cX0_endDay 121 = .ok (.iinc 2 1, 3) := by decide +kernel
theorem dX0_endDay_124 : decode cX0_endDay 124 = .ok (.goto (-23), 3) := by decide +kernel
theorem dX0_endDay_127 : decode cX0_endDay 127 = .ok (.aload_n 0, 1) := by decide +kernel
theorem dX0_endDay_128 : decode cX0_endDay 128 = .ok (.dup, 1) := by decide +kernel
theorem dX0_endDay_129 : decode cX0_endDay 129 = .ok (.getfield 46, 3) := by decide +kernel
theorem dX0_endDay_132 : decode cX0_endDay 132 = .ok (.iconst 1, 1) := by decide +kernel
theorem dX0_endDay_133 : decode cX0_endDay 133 = .ok (.iadd, 1) := by decide +kernel
theorem dX0_endDay_134 : decode cX0_endDay 134 = .ok (.putfield 46, 3) := by decide +kernel
theorem dX0_endDay_137 : decode cX0_endDay 137 = .ok (.aload_n 0, 1) := by decide +kernel
theorem dX0_endDay_138 : decode cX0_endDay 138 = .ok (.iconst 0, 1) := by decide +kernel
theorem dX0_endDay_139 : decode cX0_endDay 139 = .ok (.putfield 49, 3) := by decide +kernel
theorem dX0_endDay_142 : decode cX0_endDay 142 = .ok (.iload_n 1, 1) := by decide +kernel
theorem dX0_endDay_143 : decode cX0_endDay 143 = .ok (.ireturn, 1) := by decide +kernel
theorem dX0_aboutPerson_0 : decode cX0_aboutPerson 0 = .ok (.aload_n 0, 1) := by decide +kernel
theorem dX0_aboutPerson_1 : decode cX0_aboutPerson 1 = .ok (.iload_n 1, 1) := by decide +kernel
theorem dX0_aboutPerson_2 : decode cX0_aboutPerson 2 = .ok (.invokevirtual 69, 3) := by decide +kernel
theorem dX0_aboutPerson_5 : decode cX0_aboutPerson 5 = .ok (.ifCond .ne 5, 3) := by decide +kernel
theorem dX0_aboutPerson_8 : decode cX0_aboutPerson 8 = .ok (.iconst (-1), 1) := by decide +kernel
theorem dX0_aboutPerson_9 : decode cX0_aboutPerson 9 = .ok (.ireturn, 1) := by decide +kernel
theorem dX0_aboutPerson_10 : decode cX0_aboutPerson 10 = .ok (.aload_n 0, 1) := by decide +kernel
theorem dX0_aboutPerson_11 : decode cX0_aboutPerson 11 = .ok (.getfield 17, 3) := by decide +kernel
theorem dX0_aboutPerson_14 : decode cX0_aboutPerson 14 = .ok (.iload_n 1, 1) := by decide +kernel
theorem dX0_aboutPerson_15 : decode cX0_aboutPerson 15 = .ok (.aaload, 1) := by decide +kernel
theorem dX0_aboutPerson_16 : decode cX0_aboutPerson 16 = .ok (.iload_n 2, 1) := by decide +kernel
theorem dX0_aboutPerson_17 : decode cX0_aboutPerson 17 = .ok (.invokevirtual 155, 3) := by decide +kernel
theorem dX0_aboutPerson_20 : decode cX0_aboutPerson 20 = .ok (.ireturn, 1) := by decide +kernel
theorem dX0_aboutDish_0 : decode cX0_aboutDish 0 = .ok (.aload_n 0, 1) := by decide +kernel
theorem dX0_aboutDish_1 : decode cX0_aboutDish 1 = .ok (.iload_n 1, 1) := by decide +kernel
theorem dX0_aboutDish_2 : decode cX0_aboutDish 2 = .ok (.invokevirtual 62, 3) := by decide +kernel
theorem dX0_aboutDish_5 : decode cX0_aboutDish 5 = .ok (.ifCond .ne 5, 3) := by decide +kernel
theorem dX0_aboutDish_8 : decode cX0_aboutDish 8 = .ok (.iconst (-1), 1) := by decide +kernel
theorem dX0_aboutDish_9 : decode cX0_aboutDish 9 = .ok (.ireturn, 1) := by decide +kernel
theorem dX0_aboutDish_10 : decode cX0_aboutDish 10 = .ok (.iload_n 2, 1) := by decide +kernel
theorem dX0_aboutDish_11 : decode cX0_aboutDish 11 = .ok (.tableswitch 125 0 7 #[45, 55, 65, 71, 81, 91, 101, 108], 45) := by decide +kernel
theorem dX0_aboutDish_56 : decode cX0_aboutDish 56 = .ok (.aload_n 0, 1) := by decide +kernel
theorem dX0_aboutDish_57 : decode cX0_aboutDish 57 = .ok (.getfield 23, 3) := by decide +kernel
theorem dX0_aboutDish_60 : decode cX0_aboutDish 60 = .ok (.iload_n 1, 1) := by decide +kernel
theorem dX0_aboutDish_61 : decode cX0_aboutDish 61 = .ok (.aaload, 1) := by decide +kernel
theorem dX0_aboutDish_62 : decode cX0_aboutDish 62 = .ok (.getfield 109, 3) := by decide +kernel
theorem dX0_aboutDish_65 : decode cX0_aboutDish 65 = .ok (.ireturn, 1) := by decide +kernel
theorem dX0_aboutDish_66 : decode cX0_aboutDish 66 = .ok (.aload_n 0, 1) := by decide +kernel
theorem dX0_aboutDish_67 : decode cX0_aboutDish 67 = .ok (.getfield 23, 3) := by decide +kernel
theorem dX0_aboutDish_70 : decode cX0_aboutDish 70 = .ok (.iload_n 1, 1) := by decide +kernel
theorem dX0_aboutDish_71 : decode cX0_aboutDish 71 = .ok (.aaload, 1) := by decide +kernel
theorem dX0_aboutDish_72 : decode cX0_aboutDish 72 = .ok (.getfield 158, 3) := by decide +kernel
theorem dX0_aboutDish_75 : decode cX0_aboutDish 75 = .ok (.ireturn, 1) := by decide +kernel
theorem dX0_aboutDish_76 : decode cX0_aboutDish 76 = .ok (.aload_n 0, 1) := by decide +kernel
theorem dX0_aboutDish_77 : decode cX0_aboutDish 77 = .ok (.iload_n 1, 1) := by decide +kernel
theorem dX0_aboutDish_78 : decode cX0_aboutDish 78 = .ok (.invokevirtual 135, 3) := by decide +kernel
theorem dX0_aboutDish_81 : decode cX0_aboutDish 81 = .ok (.ireturn, 1) := by decide +kernel
theorem dX0_aboutDish_82 : decode cX0_aboutDish 82 = .ok (.aload_n 0, 1) := by decide +kernel
theorem dX0_aboutDish_83 : decode cX0_aboutDish 83 = .ok (.getfield 23, 3) := by decide +kernel
theorem dX0_aboutDish_86 : decode cX0_aboutDish 86 = .ok (.iload_n 1, 1) := by decide +kernel
theorem dX0_aboutDish_87 : decode cX0_aboutDish 87 = .ok (.aaload, 1) := by decide +kernel
theorem dX0_aboutDish_88 : decode cX0_aboutDish 88 = .ok (.getfield 161, 3) := by decide +kernel
theorem dX0_aboutDish_91 : decode cX0_aboutDish 91 = .ok (.ireturn, 1) := by decide +kernel
theorem dX0_aboutDish_92 : decode cX0_aboutDish 92 = .ok (.aload_n 0, 1) := by decide +kernel
theorem dX0_aboutDish_93 : decode cX0_aboutDish 93 = .ok (.getfield 23, 3) := by decide +kernel
theorem dX0_aboutDish_96 : decode cX0_aboutDish 96 = .ok (.iload_n 1, 1) := by decide +kernel
theorem dX0_aboutDish_97 : decode cX0_aboutDish 97 = .ok (.aaload, 1) := by decide +kernel
theorem dX0_aboutDish_98 : decode cX0_aboutDish 98 = .ok (.getfield 163, 3) := by decide +kernel
theorem dX0_aboutDish_101 : decode cX0_aboutDish 101 = .ok (.ireturn, 1) := by decide +kernel
theorem dX0_aboutDish_102 : decode cX0_aboutDish 102 = .ok (.aload_n 0, 1) := by decide +kernel
theorem dX0_aboutDish_103 : decode cX0_aboutDish 103 = .ok (.getfield 23, 3) := by decide +kernel
theorem dX0_aboutDish_106 : decode cX0_aboutDish 106 = .ok (.iload_n 1, 1) := by decide +kernel
theorem dX0_aboutDish_107 : decode cX0_aboutDish 107 = .ok (.aaload, 1) := by decide +kernel
theorem dX0_aboutDish_108 : decode cX0_aboutDish 108 = .ok (.getfield 166, 3) := by decide +kernel
theorem dX0_aboutDish_111 : decode cX0_aboutDish 111 = .ok (.ireturn, 1) := by decide +kernel
theorem dX0_aboutDish_112 : decode cX0_aboutDish 112 = .ok (.aload_n 0, 1) := by decide +kernel
theorem dX0_aboutDish_113 : decode cX0_aboutDish 113 = .ok (.iload_n 1, 1) := by decide +kernel
theorem dX0_aboutDish_114 : decode cX0_aboutDish 114 = .ok (.iconst 0, 1) := by decide +kernel
theorem dX0_aboutDish_115 : decode cX0_aboutDish 115 = .ok (.invokevirtual 80, 3) := by decide +kernel
theorem dX0_aboutDish_118 : decode cX0_aboutDish 118 = .ok (.ireturn, 1) := by decide +kernel
theorem dX0_aboutDish_119 : decode cX0_aboutDish 119 = .ok (.aload_n 0, 1) := by decide +kernel
theorem dX0_aboutDish_120 : decode cX0_aboutDish 120 = .ok (.getfield 49, 3) := by decide +kernel
theorem dX0_aboutDish_123 : decode cX0_aboutDish 123 = .ok (.ifCond .eq 7, 3) := by decide +kernel
theorem dX0_aboutDish_126 : decode cX0_aboutDish 126 = .ok (.iconst 0, 1) := by decide +kernel
theorem dX0_aboutDish_127 : decode cX0_aboutDish 127 = .ok (.goto 8, 3) := by decide +kernel
theorem dX0_aboutDish_130 : decode cX0_aboutDish 130 = .ok (.aload_n 0, 1) := by decide +kernel
theorem dX0_aboutDish_131 : decode cX0_aboutDish 131 = .ok (.iload_n 1, 1) := by decide +kernel
theorem dX0_aboutDish_132 : decode cX0_aboutDish 132 = .ok (.invokevirtual 98, 3) := by decide +kernel
theorem dX0_aboutDish_135 : decode cX0_aboutDish 135 = .ok (.ireturn, 1) := by decide +kernel
theorem dX0_aboutDish_136 : decode cX0_aboutDish 136 = .ok (.bipush (-2), 2) := by decide +kernel
theorem dX0_aboutDish_138 : decode cX0_aboutDish 138 = .ok (.ireturn, 1) := by decide +kernel
theorem dX0_peopleWithOrder_0 : decode cX0_peopleWithOrder 0 = .ok (.aload_n 0, 1) := by decide +kernel
theorem dX0_peopleWithOrder_1 : decode cX0_peopleWithOrder 1 = .ok (.iload_n 2, 1) := by decide +kernel
theorem dX0_peopleWithOrder_2 : decode cX0_peopleWithOrder 2 = .ok (.invokevirtual 62, 3) := by decide +kernel
theorem dX0_peopleWithOrder_5 : decode cX0_peopleWithOrder 5 = .ok (.ifCond .ne 5, 3) := by decide +kernel
theorem dX0_peopleWithOrder_8 : decode cX0_peopleWithOrder 8 = .ok (.iconst (-1), 1) := by decide +kernel
theorem dX0_peopleWithOrder_9 : decode cX0_peopleWithOrder 9 = .ok (.ireturn, 1) := by decide +kernel
theorem dX0_peopleWithOrder_10 : decode cX0_peopleWithOrder 10 = .ok (.aload_n 0, 1) := by decide +kernel
theorem dX0_peopleWithOrder_11 : decode cX0_peopleWithOrder 11 = .ok (.iload_n 1, 1) := by decide +kernel
theorem dX0_peopleWithOrder_12 : decode cX0_peopleWithOrder 12 = .ok (.invokevirtual 87, 3) := by decide +kernel
theorem dX0_peopleWithOrder_15 : decode cX0_peopleWithOrder 15 = .ok (.ifCond .ne 6, 3) := by decide +kernel
theorem dX0_peopleWithOrder_18 : decode cX0_peopleWithOrder 18 = .ok (.bipush (-2), 2) := by decide +kernel
theorem dX0_peopleWithOrder_20 : decode cX0_peopleWithOrder 20 = .ok (.ireturn, 1) := by decide +kernel
theorem dX0_peopleWithOrder_21 : decode cX0_peopleWithOrder 21 = .ok (.iconst 0, 1) := by decide +kernel
theorem dX0_peopleWithOrder_22 : decode cX0_peopleWithOrder 22 = .ok (.istore_n 3, 1) := by decide +kernel
theorem dX0_peopleWithOrder_23 : decode cX0_peopleWithOrder 23 = .ok (.iconst 0, 1) := by decide +kernel
theorem dX0_peopleWithOrder_24 : decode cX0_peopleWithOrder 24 = .ok (.istore 4, 2) := by decide +kernel
theorem dX0_peopleWithOrder_26 : decode cX0_peopleWithOrder 26 = .ok (.iload 4, 2) := by decide +kernel
theorem dX0_peopleWithOrder_28 : decode cX0_peopleWithOrder 28 = .ok (.aload_n 0, 1) := by decide +kernel
theorem dX0_peopleWithOrder_29 : decode cX0_peopleWithOrder 29 = .ok (.getfield 39, 3) := by decide +kernel
theorem dX0_peopleWithOrder_32 : decode cX0_peopleWithOrder 32 = .ok (.if_icmp .ge 32, 3) := by decide +kernel
theorem dX0_peopleWithOrder_35 : decode cX0_peopleWithOrder 35 = .ok (.aload_n 0, 1) := by decide +kernel
theorem dX0_peopleWithOrder_36 : decode cX0_peopleWithOrder 36 = .ok (.getfield 17, 3) := by decide +kernel
theorem dX0_peopleWithOrder_39 : decode cX0_peopleWithOrder 39 = .ok (.iload 4, 2) := by decide +kernel
theorem dX0_peopleWithOrder_41 : decode cX0_peopleWithOrder 41 = .ok (.aaload, 1) := by decide +kernel
theorem dX0_peopleWithOrder_42 : decode cX0_peopleWithOrder 42 = .ok (.getfield 93, 3) := by decide +kernel
theorem dX0_peopleWithOrder_45 : decode cX0_peopleWithOrder 45 = .ok (.iload_n 1, 1) := by decide +kernel
theorem dX0_peopleWithOrder_46 : decode cX0_peopleWithOrder 46 = .ok (.iaload, 1) := by decide +kernel
theorem dX0_peopleWithOrder_47 : decode cX0_peopleWithOrder 47 = .ok (.iload_n 2, 1) := by decide +kernel
theorem dX0_peopleWithOrder_48 : decode cX0_peopleWithOrder 48 = .ok (.if_icmp .ne 10, 3) := by decide +kernel
theorem dX0_peopleWithOrder_51 : decode cX0_peopleWithOrder 51 = .ok (.iload_n 3, 1) := by decide +kernel
theorem dX0_peopleWithOrder_52 : decode cX0_peopleWithOrder 52 = .ok (.iconst 1, 1) := by decide +kernel
theorem dX0_peopleWithOrder_53 : decode cX0_peopleWithOrder 53 = .ok (.iload 4, 2) := by decide +kernel
theorem dX0_peopleWithOrder_55 : decode cX0_peopleWithOrder 55 = .ok (.ishl, 1) := by decide +kernel
theorem dX0_peopleWithOrder_56 : decode cX0_peopleWithOrder 56 = .ok (.ior, 1) := by decide +kernel
theorem dX0_peopleWithOrder_57 : decode cX0_peopleWithOrder 57 = .ok (.istore_n 3, 1) := by decide +kernel
theorem dX0_peopleWithOrder_58 : decode cX0_peopleWithOrder 58 = .ok (.iinc 4 1, 3) := by decide +kernel
theorem dX0_peopleWithOrder_61 : decode cX0_peopleWithOrder 61 = .ok (.goto (-35), 3) := by decide +kernel
theorem dX0_peopleWithOrder_64 : decode cX0_peopleWithOrder 64 = .ok (.iload_n 3, 1) := by decide +kernel
theorem dX0_peopleWithOrder_65 : decode cX0_peopleWithOrder 65 = .ok (.ireturn, 1) := by decide +kernel
theorem dX0_number_0 : decode cX0_number 0 = .ok (.iload_n 1, 1) := by decide +kernel
theorem dX0_number_1 : decode cX0_number 1 = .ok (.tableswitch 121 0 13 #[71, 76, 81, 94, 94, 94, 94, 100, 106, 100, 111, 111, 111, 111], 71) := by decide +kernel
theorem dX0_number_72 : decode cX0_number 72 = .ok (.aload_n 0, 1) := by decide +kernel
theorem dX0_number_73 : decode cX0_number 73 = .ok (.getfield 46, 3) := by decide +kernel
theorem dX0_number_76 : decode cX0_number 76 = .ok (.ireturn, 1) := by decide +kernel
theorem dX0_number_77 : decode cX0_number 77 = .ok (.aload_n 0, 1) := by decide +kernel
theorem dX0_number_78 : decode cX0_number 78 = .ok (.getfield 39, 3) := by decide +kernel
theorem dX0_number_81 : decode cX0_number 81 = .ok (.ireturn, 1) := by decide +kernel
theorem dX0_number_82 : decode cX0_number 82 = .ok (.aload_n 0, 1) := by decide +kernel
theorem dX0_number_83 : decode cX0_number 83 = .ok (.getfield 49, 3) := by decide +kernel
theorem dX0_number_86 : decode cX0_number 86 = .ok (.ifCond .eq 7, 3) := by decide +kernel
theorem dX0_number_89 : decode cX0_number 89 = .ok (.iconst 1, 1) := by decide +kernel
theorem dX0_number_90 : decode cX0_number 90 = .ok (.goto 4, 3) := by decide +kernel
theorem dX0_number_93 : decode cX0_number 93 = .ok (.iconst 0, 1) := by decide +kernel
theorem dX0_number_94 : decode cX0_number 94 = .ok (.ireturn, 1) := by decide +kernel
theorem dX0_number_95 : decode cX0_number 95 = .ok (.aload_n 0, 1) := by decide +kernel
theorem dX0_number_96 : decode cX0_number 96 = .ok (.iload_n 1, 1) := by decide +kernel
theorem dX0_number_97 : decode cX0_number 97 = .ok (.invokevirtual 169, 3) := by decide +kernel
theorem dX0_number_100 : decode cX0_number 100 = .ok (.ireturn, 1) := by decide +kernel
theorem dX0_number_101 : decode cX0_number 101 = .ok (.aload_n 0, 1) := by decide +kernel
theorem dX0_number_102 : decode cX0_number 102 = .ok (.iload_n 1, 1) := by decide +kernel
theorem dX0_number_103 : decode cX0_number 103 = .ok (.invokevirtual 172, 3) := by decide +kernel
theorem dX0_number_106 : decode cX0_number 106 = .ok (.ireturn, 1) := by decide +kernel
theorem dX0_number_107 : decode cX0_number 107 = .ok (.aload_n 0, 1) := by decide +kernel
theorem dX0_number_108 : decode cX0_number 108 = .ok (.invokevirtual 175, 3) := by decide +kernel
theorem dX0_number_111 : decode cX0_number 111 = .ok (.ireturn, 1) := by decide +kernel
theorem dX0_number_112 : decode cX0_number 112 = .ok (.aload_n 0, 1) := by decide +kernel
theorem dX0_number_113 : decode cX0_number 113 = .ok (.getfield 9, 3) := by decide +kernel
theorem dX0_number_116 : decode cX0_number 116 = .ok (.iload_n 1, 1) := by decide +kernel
theorem dX0_number_117 : decode cX0_number 117 = .ok (.bipush 10, 2) := by decide +kernel
theorem dX0_number_119 : decode cX0_number 119 = .ok (.isub, 1) := by decide +kernel
theorem dX0_number_120 : decode cX0_number 120 = .ok (.iaload, 1) := by decide +kernel
theorem dX0_number_121 : decode cX0_number 121 = .ok (.ireturn, 1) := by decide +kernel
theorem dX0_number_122 : decode cX0_number 122 = .ok (.bipush (-2), 2) := by decide +kernel
theorem dX0_number_124 : decode cX0_number 124 = .ok (.ireturn, 1) := by decide +kernel
theorem dX0_sumOfDishes_0 : decode cX0_sumOfDishes 0 = .ok (.iconst 0, 1) := by decide +kernel
theorem dX0_sumOfDishes_1 : decode cX0_sumOfDishes 1 = .ok (.istore_n 2, 1) := by decide +kernel
theorem dX0_sumOfDishes_2 : decode cX0_sumOfDishes 2 = .ok (.iconst 0, 1) := by decide +kernel
theorem dX0_sumOfDishes_3 : decode cX0_sumOfDishes 3 = .ok (.istore_n 3, 1) := by decide +kernel
theorem dX0_sumOfDishes_4 : decode cX0_sumOfDishes 4 = .ok (.iload_n 3, 1) := by decide +kernel
theorem dX0_sumOfDishes_5 : decode cX0_sumOfDishes 5 = .ok (.iconst 3, 1) := by decide +kernel
theorem dX0_sumOfDishes_6 : decode cX0_sumOfDishes 6 = .ok (.if_icmp .ge 36, 3) := by decide +kernel
theorem dX0_sumOfDishes_9 : decode cX0_sumOfDishes 9 = .ok (.iload_n 2, 1) := by decide +kernel
theorem dX0_sumOfDishes_10 : decode cX0_sumOfDishes 10 = .ok (.iload_n 1, 1) := by decide +kernel
theorem dX0_sumOfDishes_11 : decode cX0_sumOfDishes 11 = .ok (.bipush 6, 2) := by decide +kernel
theorem dX0_sumOfDishes_13 : decode cX0_sumOfDishes 13 = .ok (.if_icmp .ne 15, 3) := by decide +kernel
theorem dX0_sumOfDishes_16 : decode cX0_sumOfDishes 16 = .ok (.aload_n 0, 1) := by decide +kernel
theorem dX0_sumOfDishes_17 : decode cX0_sumOfDishes 17 = .ok (.getfield 23, 3) := by decide +kernel
theorem dX0_sumOfDishes_20 : decode cX0_sumOfDishes 20 = .ok (.iload_n 3, 1) := by decide +kernel
theorem dX0_sumOfDishes_21 : decode cX0_sumOfDishes 21 = .ok (.aaload, 1) := by decide +kernel
theorem dX0_sumOfDishes_22 : decode cX0_sumOfDishes 22 = .ok (.invokevirtual 123, 3) := by decide +kernel
theorem dX0_sumOfDishes_25 : decode cX0_sumOfDishes 25 = .ok (.goto 9, 3) := by decide +kernel
theorem dX0_sumOfDishes_28 : decode cX0_sumOfDishes 28 = .ok (.aload_n 0, 1) := by decide +kernel
theorem dX0_sumOfDishes_29 : decode cX0_sumOfDishes 29 = .ok (.iload_n 3, 1) := by decide +kernel
theorem dX0_sumOfDishes_30 : decode cX0_sumOfDishes 30 = .ok (.iload_n 1, 1) := by decide +kernel
theorem dX0_sumOfDishes_31 : decode cX0_sumOfDishes 31 = .ok (.invokevirtual 178, 3) := by decide +kernel
theorem dX0_sumOfDishes_34 : decode cX0_sumOfDishes 34 = .ok (.iadd, 1) := by decide +kernel
theorem dX0_sumOfDishes_35 : decode cX0_sumOfDishes 35 = .ok (.istore_n 2, 1) := by decide +kernel
theorem dX0_sumOfDishes_36 : decode cX0_sumOfDishes 36 = .ok (.iinc 3 1, 3) := by decide +kernel
theorem dX0_sumOfDishes_39 : decode cX0_sumOfDishes 39 = .ok (.goto (-35), 3) := by decide +kernel
theorem dX0_sumOfDishes_42 : decode cX0_sumOfDishes 42 = .ok (.iload_n 2, 1) := by decide +kernel
theorem dX0_sumOfDishes_43 : decode cX0_sumOfDishes 43 = .ok (.ireturn, 1) := by decide +kernel
theorem dX0_sumOfPeople_0 : decode cX0_sumOfPeople 0 = .ok (.iconst 0, 1) := by decide +kernel
theorem dX0_sumOfPeople_1 : decode cX0_sumOfPeople 1 = .ok (.istore_n 2, 1) := by decide +kernel
theorem dX0_sumOfPeople_2 : decode cX0_sumOfPeople 2 = .ok (.iconst 0, 1) := by decide +kernel
theorem dX0_sumOfPeople_3 : decode cX0_sumOfPeople 3 = .ok (.istore_n 3, 1) := by decide +kernel
theorem dX0_sumOfPeople_4 : decode cX0_sumOfPeople 4 = .ok (.iload_n 3, 1) := by decide +kernel
theorem dX0_sumOfPeople_5 : decode cX0_sumOfPeople 5 = .ok (.aload_n 0, 1) := by decide +kernel
theorem dX0_sumOfPeople_6 : decode cX0_sumOfPeople 6 = .ok (.getfield 39, 3) := by decide +kernel
theorem dX0_sumOfPeople_9 : decode cX0_sumOfPeople 9 = .ok (.if_icmp .ge 39, 3) := by decide +kernel
theorem dX0_sumOfPeople_12 : decode cX0_sumOfPeople 12 = .ok (.iload_n 2, 1) := by decide +kernel
theorem dX0_sumOfPeople_13 : decode cX0_sumOfPeople 13 = .ok (.iload_n 1, 1) := by decide +kernel
theorem dX0_sumOfPeople_14 : decode cX0_sumOfPeople 14 = .ok (.bipush 7, 2) := by decide +kernel
theorem dX0_sumOfPeople_16 : decode cX0_sumOfPeople 16 = .ok (.if_icmp .ne 15, 3) := by decide +kernel
theorem dX0_sumOfPeople_19 : decode cX0_sumOfPeople 19 = .ok (.aload_n 0, 1) := by decide +kernel
theorem dX0_sumOfPeople_20 : decode cX0_sumOfPeople 20 = .ok (.getfield 17, 3) := by decide +kernel
theorem dX0_sumOfPeople_23 : decode cX0_sumOfPeople 23 = .ok (.iload_n 3, 1) := by decide +kernel
theorem dX0_sumOfPeople_24 : decode cX0_sumOfPeople 24 = .ok (.aaload, 1) := by decide +kernel
theorem dX0_sumOfPeople_25 : decode cX0_sumOfPeople 25 = .ok (.getfield 132, 3) := by decide +kernel
theorem dX0_sumOfPeople_28 : decode cX0_sumOfPeople 28 = .ok (.goto 12, 3) := by decide +kernel
theorem dX0_sumOfPeople_31 : decode cX0_sumOfPeople 31 = .ok (.aload_n 0, 1) := by decide +kernel
theorem dX0_sumOfPeople_32 : decode cX0_sumOfPeople 32 = .ok (.getfield 17, 3) := by decide +kernel
theorem dX0_sumOfPeople_35 : decode cX0_sumOfPeople 35 = .ok (.iload_n 3, 1) := by decide +kernel
theorem dX0_sumOfPeople_36 : decode cX0_sumOfPeople 36 = .ok (.aaload, 1) := by decide +kernel
theorem dX0_sumOfPeople_37 : decode cX0_sumOfPeople 37 = .ok (.getfield 181, 3) := by decide +kernel
theorem dX0_sumOfPeople_40 : decode cX0_sumOfPeople 40 = .ok (.iadd, 1) := by decide +kernel
theorem dX0_sumOfPeople_41 : decode cX0_sumOfPeople 41 = .ok (.istore_n 2, 1) := by decide +kernel
theorem dX0_sumOfPeople_42 : decode cX0_sumOfPeople 42 = .ok (.iinc 3 1, 3) := by decide +kernel
theorem dX0_sumOfPeople_45 : decode cX0_sumOfPeople 45 = .ok (.goto (-41), 3) := by decide +kernel
theorem dX0_sumOfPeople_48 : decode cX0_sumOfPeople 48 = .ok (.iload_n 2, 1) := by decide +kernel
theorem dX0_sumOfPeople_49 : decode cX0_sumOfPeople 49 = .ok (.ireturn, 1) := by decide +kernel
theorem dX0_bannedToday_0 : decode cX0_bannedToday 0 = .ok (.iconst 0, 1) := by decide +kernel
theorem dX0_bannedToday_1 : decode cX0_bannedToday 1 = .ok (.istore_n 1, 1) := by decide +kernel
theorem dX0_bannedToday_2 : decode cX0_bannedToday 2 = .ok (.iconst 0, 1) := by decide +kernel
theorem dX0_bannedToday_3 : decode cX0_bannedToday 3 = .ok (.istore_n 2, 1) := by decide +kernel
theorem dX0_bannedToday_4 : decode cX0_bannedToday 4 = .ok (.iload_n 2, 1) := by decide +kernel
theorem dX0_bannedToday_5 : decode cX0_bannedToday 5 = .ok (.aload_n 0, 1) := by decide +kernel
theorem dX0_bannedToday_6 : decode cX0_bannedToday 6 = .ok (.getfield 39, 3) := by decide +kernel
theorem dX0_bannedToday_9 : decode cX0_bannedToday 9 = .ok (.if_icmp .ge 31, 3) := by decide +kernel
theorem dX0_bannedToday_12 : decode cX0_bannedToday 12 = .ok (.aload_n 0, 1) := by decide +kernel
theorem dX0_bannedToday_13 : decode cX0_bannedToday 13 = .ok (.getfield 46, 3) := by decide +kernel
theorem dX0_bannedToday_16 : decode cX0_bannedToday 16 = .ok (.aload_n 0, 1) := by decide +kernel
theorem dX0_bannedToday_17 : decode cX0_bannedToday 17 = .ok (.getfield 17, 3) := by decide +kernel
theorem dX0_bannedToday_20 : decode cX0_bannedToday 20 = .ok (.iload_n 2, 1) := by decide +kernel
theorem dX0_bannedToday_21 : decode cX0_bannedToday 21 = .ok (.aaload, 1) := by decide +kernel
theorem dX0_bannedToday_22 : decode cX0_bannedToday 22 = .ok (.getfield 184, 3) := by decide +kernel
theorem dX0_bannedToday_25 : decode cX0_bannedToday 25 = .ok (.if_icmp .ge 9, 3) := by decide +kernel
theorem dX0_bannedToday_28 : decode cX0_bannedToday 28 = .ok (.iload_n 1, 1) := by decide +kernel
theorem dX0_bannedToday_29 : decode cX0_bannedToday 29 = .ok (.iconst 1, 1) := by decide +kernel
theorem dX0_bannedToday_30 : decode cX0_bannedToday 30 = .ok (.iload_n 2, 1) := by decide +kernel
theorem dX0_bannedToday_31 : decode cX0_bannedToday 31 = .ok (.ishl, 1) := by decide +kernel
theorem dX0_bannedToday_32 : decode cX0_bannedToday 32 = .ok (.ior, 1) := by decide +kernel
theorem dX0_bannedToday_33 : decode cX0_bannedToday 33 = .ok (.istore_n 1, 1) := by decide +kernel
theorem dX0_bannedToday_34 : decode cX0_bannedToday 34 = .ok (.iinc 2 1, 3) := by decide +kernel
theorem dX0_bannedToday_37 : decode cX0_bannedToday 37 = .ok (.goto (-33), 3) := by decide +kernel
theorem dX0_bannedToday_40 : decode cX0_bannedToday 40 = .ok (.iload_n 1, 1) := by decide +kernel
theorem dX0_bannedToday_41 : decode cX0_bannedToday 41 = .ok (.ireturn, 1) := by decide +kernel
theorem dX0_reasonAgainst_0 : decode cX0_reasonAgainst 0 = .ok (.aload_n 0, 1) := by decide +kernel
theorem dX0_reasonAgainst_1 : decode cX0_reasonAgainst 1 = .ok (.iload_n 1, 1) := by decide +kernel
theorem dX0_reasonAgainst_2 : decode cX0_reasonAgainst 2 = .ok (.invokevirtual 69, 3) := by decide +kernel
theorem dX0_reasonAgainst_5 : decode cX0_reasonAgainst 5 = .ok (.ifCond .eq 11, 3) := by decide +kernel
theorem dX0_reasonAgainst_8 : decode cX0_reasonAgainst 8 = .ok (.aload_n 0, 1) := by decide +kernel
theorem dX0_reasonAgainst_9 : decode cX0_reasonAgainst 9 = .ok (.iload_n 3, 1) := by decide +kernel
theorem dX0_reasonAgainst_10 : decode cX0_reasonAgainst 10 = .ok (.invokevirtual 62, 3) := by decide +kernel
theorem dX0_reasonAgainst_13 : decode cX0_reasonAgainst 13 = .ok (.ifCond .ne 5, 3) := by decide +kernel
theorem dX0_reasonAgainst_16 : decode cX0_reasonAgainst 16 = .ok (.iconst (-1), 1) := by decide +kernel
theorem dX0_reasonAgainst_17 : decode cX0_reasonAgainst 17 = .ok (.ireturn, 1) := by decide +kernel
theorem dX0_reasonAgainst_18 : decode cX0_reasonAgainst 18 = .ok (.aload_n 0, 1) := by decide +kernel
theorem dX0_reasonAgainst_19 : decode cX0_reasonAgainst 19 = .ok (.iload_n 2, 1) := by decide +kernel
theorem dX0_reasonAgainst_20 : decode cX0_reasonAgainst 20 = .ok (.invokevirtual 87, 3) := by decide +kernel
theorem dX0_reasonAgainst_23 : decode cX0_reasonAgainst 23 = .ok (.ifCond .ne 6, 3) := by decide +kernel
theorem dX0_reasonAgainst_26 : decode cX0_reasonAgainst 26 = .ok (.bipush (-2), 2) := by decide +kernel
theorem dX0_reasonAgainst_28 : decode cX0_reasonAgainst 28 = .ok (.ireturn, 1) := by decide +kernel
theorem dX0_reasonAgainst_29 : decode cX0_reasonAgainst 29 = .ok (.iload_n 2, 1) := by decide +kernel
theorem dX0_reasonAgainst_30 : decode cX0_reasonAgainst 30 = .ok (.ifCond .ne 12, 3) := by decide +kernel
theorem dX0_reasonAgainst_33 : decode cX0_reasonAgainst 33 = .ok (.aload_n 0, 1) := by decide +kernel
theorem dX0_reasonAgainst_34 : decode cX0_reasonAgainst 34 = .ok (.getfield 49, 3) := by decide +kernel
theorem dX0_reasonAgainst_37 : decode cX0_reasonAgainst 37 = .ok (.ifCond .eq 5, 3) := by decide +kernel
theorem dX0_reasonAgainst_40 : decode cX0_reasonAgainst 40 = .ok (.iconst 1, 1) := by decide +kernel
theorem dX0_reasonAgainst_41 : decode cX0_reasonAgainst 41 = .ok (.ireturn, 1) := by decide +kernel
theorem dX0_reasonAgainst_42 : decode cX0_reasonAgainst 42 = .ok (.aload_n 0, 1) := by decide +kernel
theorem dX0_reasonAgainst_43 : decode cX0_reasonAgainst 43 = .ok (.getfield 46, 3) := by decide +kernel
theorem dX0_reasonAgainst_46 : decode cX0_reasonAgainst 46 = .ok (.iload_n 2, 1) := by decide +kernel
theorem dX0_reasonAgainst_47 : decode cX0_reasonAgainst 47 = .ok (.iadd, 1) := by decide +kernel
theorem dX0_reasonAgainst_48 : decode cX0_reasonAgainst 48 = .ok (.aload_n 0, 1) := by decide +kernel
theorem dX0_reasonAgainst_49 : decode cX0_reasonAgainst 49 = .ok (.getfield 17, 3) := by decide +kernel
theorem dX0_reasonAgainst_52 : decode cX0_reasonAgainst 52 = .ok (.iload_n 1, 1) := by decide +kernel
theorem dX0_reasonAgainst_53 : decode cX0_reasonAgainst 53 = .ok (.aaload, 1) := by decide +kernel
theorem dX0_reasonAgainst_54 : decode cX0_reasonAgainst 54 = .ok (.getfield 184, 3) := by decide +kernel
theorem dX0_reasonAgainst_57 : decode cX0_reasonAgainst 57 = .ok (.if_icmp .ge 5, 3) := by decide +kernel
theorem dX0_reasonAgainst_60 : decode cX0_reasonAgainst 60 = .ok (.iconst 2, 1) := by decide +kernel
theorem dX0_reasonAgainst_61 : decode cX0_reasonAgainst 61 = .ok (.ireturn, 1) := by decide +kernel
theorem dX0_reasonAgainst_62 : decode cX0_reasonAgainst 62 = .ok (.aload_n 0, 1) := by decide +kernel
theorem dX0_reasonAgainst_63 : decode cX0_reasonAgainst 63 = .ok (.getfield 17, 3) := by decide +kernel
theorem dX0_reasonAgainst_66 : decode cX0_reasonAgainst 66 = .ok (.iload_n 1, 1) := by decide +kernel
theorem dX0_reasonAgainst_67 : decode cX0_reasonAgainst 67 = .ok (.aaload, 1) := by decide +kernel
theorem dX0_reasonAgainst_68 : decode cX0_reasonAgainst 68 = .ok (.iload_n 2, 1) := by decide +kernel
theorem dX0_reasonAgainst_69 : decode cX0_reasonAgainst 69 = .ok (.invokevirtual 90, 3) := by decide +kernel
theorem dX0_reasonAgainst_72 : decode cX0_reasonAgainst 72 = .ok (.ifCond .eq 5, 3) := by decide +kernel
theorem dX0_reasonAgainst_75 : decode cX0_reasonAgainst 75 = .ok (.iconst 3, 1) := by decide +kernel
theorem dX0_reasonAgainst_76 : decode cX0_reasonAgainst 76 = .ok (.ireturn, 1) := by decide +kernel
theorem dX0_reasonAgainst_77 : decode cX0_reasonAgainst 77 = .ok (.aload_n 0, 1) := by decide +kernel
theorem dX0_reasonAgainst_78 : decode cX0_reasonAgainst 78 = .ok (.getfield 17, 3) := by decide +kernel
theorem dX0_reasonAgainst_81 : decode cX0_reasonAgainst 81 = .ok (.iload_n 1, 1) := by decide +kernel
theorem dX0_reasonAgainst_82 : decode cX0_reasonAgainst 82 = .ok (.aaload, 1) := by decide +kernel
theorem dX0_reasonAgainst_83 : decode cX0_reasonAgainst 83 = .ok (.getfield 132, 3) := by decide +kernel
theorem dX0_reasonAgainst_86 : decode cX0_reasonAgainst 86 = .ok (.aload_n 0, 1) := by decide +kernel
theorem dX0_reasonAgainst_87 : decode cX0_reasonAgainst 87 = .ok (.iload_n 3, 1) := by decide +kernel
theorem dX0_reasonAgainst_88 : decode cX0_reasonAgainst 88 = .ok (.iload_n 2, 1) := by decide +kernel
theorem dX0_reasonAgainst_89 : decode cX0_reasonAgainst 89 = .ok (.invokevirtual 80, 3) := by decide +kernel
theorem dX0_reasonAgainst_92 : decode cX0_reasonAgainst 92 = .ok (.if_icmp .ge 7, 3) := by decide +kernel
theorem dX0_reasonAgainst_95 : decode cX0_reasonAgainst 95 = .ok (.iconst 4, 1) := by decide +kernel
theorem dX0_reasonAgainst_96 : decode cX0_reasonAgainst 96 = .ok (.goto 4, 3) := by decide +kernel
theorem dX0_reasonAgainst_99 : decode cX0_reasonAgainst 99 = .ok (.iconst 0, 1) := by decide +kernel
theorem dX0_reasonAgainst_100 : decode cX0_reasonAgainst 100 = .ok (.ireturn, 1) := by decide +kernel
theorem dX0_greatestDoubt_0 : decode cX0_greatestDoubt 0 = .ok (.iload_n 1, 1) := by decide +kernel
theorem dX0_greatestDoubt_1 : decode cX0_greatestDoubt 1 = .ok (.ifCond .eq 11, 3) := by decide +kernel
theorem dX0_greatestDoubt_4 : decode cX0_greatestDoubt 4 = .ok (.iload_n 1, 1) := by decide +kernel
theorem dX0_greatestDoubt_5 : decode cX0_greatestDoubt 5 = .ok (.iconst 1, 1) := by decide +kernel
theorem dX0_greatestDoubt_6 : decode cX0_greatestDoubt 6 = .ok (.if_icmp .eq 6, 3) := by decide +kernel
theorem dX0_greatestDoubt_9 : decode cX0_greatestDoubt 9 = .ok (.bipush (-2), 2) := by decide +kernel
theorem dX0_greatestDoubt_11 : decode cX0_greatestDoubt 11 = .ok (.ireturn, 1) := by decide +kernel
theorem dX0_greatestDoubt_12 : decode cX0_greatestDoubt 12 = .ok (.bipush (-6), 2) := by decide +kernel
theorem dX0_greatestDoubt_14 : decode cX0_greatestDoubt 14 = .ok (.istore_n 2, 1) := by decide +kernel
theorem dX0_greatestDoubt_15 : decode cX0_greatestDoubt 15 = .ok (.iconst 0, 1) := by decide +kernel
theorem dX0_greatestDoubt_16 : decode cX0_greatestDoubt 16 = .ok (.istore_n 3, 1) := by decide +kernel
theorem dX0_greatestDoubt_17 : decode cX0_greatestDoubt 17 = .ok (.iload_n 3, 1) := by decide +kernel
theorem dX0_greatestDoubt_18 : decode cX0_greatestDoubt 18 = .ok (.aload_n 0, 1) := by decide +kernel
theorem dX0_greatestDoubt_19 : decode cX0_greatestDoubt 19 = .ok (.getfield 39, 3) := by decide +kernel
theorem dX0_greatestDoubt_22 : decode cX0_greatestDoubt 22 = .ok (.if_icmp .ge 45, 3) := by decide +kernel
theorem dX0_greatestDoubt_25 : decode cX0_greatestDoubt 25 = .ok (.aload_n 0, 1) := by decide +kernel
theorem dX0_greatestDoubt_26 : decode cX0_greatestDoubt 26 = .ok (.getfield 17, 3) := by decide +kernel
theorem dX0_greatestDoubt_29 : decode cX0_greatestDoubt 29 = .ok (.iload_n 3, 1) := by decide +kernel
theorem dX0_greatestDoubt_30 : decode cX0_greatestDoubt 30 = .ok (.aaload, 1) := by decide +kernel
theorem dX0_greatestDoubt_31 : decode cX0_greatestDoubt 31 = .ok (.invokevirtual 105, 3) := by decide +kernel
theorem dX0_greatestDoubt_34 : decode cX0_greatestDoubt 34 = .ok (.ifCond .le 27, 3) := by decide +kernel
theorem dX0_greatestDoubt_37 : decode cX0_greatestDoubt 37 = .ok (.iload_n 2, 1) := by decide +kernel
theorem dX0_greatestDoubt_38 : decode cX0_greatestDoubt 38 = .ok (.ifCond .lt 21, 3) := by decide +kernel
theorem dX0_greatestDoubt_41 : decode cX0_greatestDoubt 41 = .ok (.aload_n 0, 1) := by decide +kernel
theorem dX0_greatestDoubt_42 : decode cX0_greatestDoubt 42 = .ok (.getfield 17, 3) := by decide +kernel
theorem dX0_greatestDoubt_45 : decode cX0_greatestDoubt 45 = .ok (.iload_n 3, 1) := by decide +kernel
theorem dX0_greatestDoubt_46 : decode cX0_greatestDoubt 46 = .ok (.aaload, 1) := by decide +kernel
theorem dX0_greatestDoubt_47 : decode cX0_greatestDoubt 47 = .ok (.aload_n 0, 1) := by decide +kernel
theorem dX0_greatestDoubt_48 : decode cX0_greatestDoubt 48 = .ok (.getfield 17, 3) := by decide +kernel
theorem dX0_greatestDoubt_51 : decode cX0_greatestDoubt 51 = .ok (.iload_n 2, 1) := by decide +kernel
theorem dX0_greatestDoubt_52 : decode cX0_greatestDoubt 52 = .ok (.aaload, 1) := by decide +kernel
theorem dX0_greatestDoubt_53 : decode cX0_greatestDoubt 53 = .ok (.invokevirtual 187, 3) := by decide +kernel
theorem dX0_greatestDoubt_56 : decode cX0_greatestDoubt 56 = .ok (.ifCond .eq 5, 3) := by decide +kernel
theorem dX0_greatestDoubt_59 : decode cX0_greatestDoubt 59 = .ok (.iload_n 3, 1) := by decide +kernel
theorem dX0_greatestDoubt_60 : decode cX0_greatestDoubt 60 = .ok (.istore_n 2, 1) := by decide +kernel
theorem dX0_greatestDoubt_61 : decode cX0_greatestDoubt 61 = .ok (.iinc 3 1, 3) := by decide +kernel
theorem dX0_greatestDoubt_64 : decode cX0_greatestDoubt 64 = .ok (.goto (-47), 3) := by decide +kernel
theorem dX0_greatestDoubt_67 : decode cX0_greatestDoubt 67 = .ok (.iload_n 2, 1) := by decide +kernel
theorem dX0_greatestDoubt_68 : decode cX0_greatestDoubt 68 = .ok (.ifCond .ge 6, 3) := by decide +kernel
theorem dX0_greatestDoubt_71 : decode cX0_greatestDoubt 71 = .ok (.bipush (-6), 2) := by decide +kernel
theorem dX0_greatestDoubt_73 : decode cX0_greatestDoubt 73 = .ok (.ireturn, 1) := by decide +kernel
theorem dX0_greatestDoubt_74 : decode cX0_greatestDoubt 74 = .ok (.iload_n 1, 1) := by decide +kernel
theorem dX0_greatestDoubt_75 : decode cX0_greatestDoubt 75 = .ok (.ifCond .ne 7, 3) := by decide +kernel
theorem dX0_greatestDoubt_78 : decode cX0_greatestDoubt 78 = .ok (.iload_n 2, 1) := by decide +kernel
theorem dX0_greatestDoubt_79 : decode cX0_greatestDoubt 79 = .ok (.goto 12, 3) := by decide +kernel
theorem dX0_greatestDoubt_82 : decode cX0_greatestDoubt 82 = .ok (.aload_n 0, 1) := by decide +kernel
theorem dX0_greatestDoubt_83 : decode cX0_greatestDoubt 83 = .ok (.getfield 17, 3) := by decide +kernel
theorem dX0_greatestDoubt_86 : decode cX0_greatestDoubt 86 = .ok (.iload_n 2, 1) := by decide +kernel
theorem dX0_greatestDoubt_87 : decode cX0_greatestDoubt 87 = .ok (.aaload, 1) := by decide +kernel
theorem dX0_greatestDoubt_88 : decode cX0_greatestDoubt 88 = .ok (.invokevirtual 105, 3) := by decide +kernel
theorem dX0_greatestDoubt_91 : decode cX0_greatestDoubt 91 = .ok (.ireturn, 1) := by decide +kernel
theorem dX0_firstPossible_0 : decode cX0_firstPossible 0 = .ok (.aload_n 0, 1) := by decide +kernel
theorem dX0_firstPossible_1 : decode cX0_firstPossible 1 = .ok (.iload_n 1, 1) := by decide +kernel
theorem dX0_firstPossible_2 : decode cX0_firstPossible 2 = .ok (.invokevirtual 69, 3) := by decide +kernel
theorem dX0_firstPossible_5 : decode cX0_firstPossible 5 = .ok (.ifCond .ne 5, 3) := by decide +kernel
theorem dX0_firstPossible_8 : decode cX0_firstPossible 8 = .ok (.iconst (-1), 1) := by decide +kernel
theorem dX0_firstPossible_9 : decode cX0_firstPossible 9 = .ok (.ireturn, 1) := by decide +kernel
theorem dX0_firstPossible_10 : decode cX0_firstPossible 10 = .ok (.iconst 0, 1) := by decide +kernel
theorem dX0_firstPossible_11 : decode cX0_firstPossible 11 = .ok (.istore_n 2, 1) := by decide +kernel
theorem dX0_firstPossible_12 : decode cX0_firstPossible 12 = .ok (.iload_n 2, 1) := by decide +kernel
theorem dX0_firstPossible_13 : decode cX0_firstPossible 13 = .ok (.iconst 5, 1) := by decide +kernel
theorem dX0_firstPossible_14 : decode cX0_firstPossible 14 = .ok (.if_icmp .ge 38, 3) := by decide +kernel
theorem dX0_firstPossible_17 : decode cX0_firstPossible 17 = .ok (.iconst 0, 1) := by decide +kernel
theorem dX0_firstPossible_18 : decode cX0_firstPossible 18 = .ok (.istore_n 3, 1) := by decide +kernel
theorem dX0_firstPossible_19 : decode cX0_firstPossible 19 = .ok (.iload_n 3, 1) := by decide +kernel
theorem dX0_firstPossible_20 : decode cX0_firstPossible 20 = .ok (.iconst 3, 1) := by decide +kernel
theorem dX0_firstPossible_21 : decode cX0_firstPossible 21 = .ok (.if_icmp .ge 25, 3) := by decide +kernel
theorem dX0_firstPossible_24 : decode cX0_firstPossible 24 = .ok (.aload_n 0, 1) := by decide +kernel
theorem dX0_firstPossible_25 : decode cX0_firstPossible 25 = .ok (.iload_n 1, 1) := by decide +kernel
theorem dX0_firstPossible_26 : decode cX0_firstPossible 26 = .ok (.iload_n 2, 1) := by decide +kernel
theorem dX0_firstPossible_27 : decode cX0_firstPossible 27 = .ok (.iload_n 3, 1) := by decide +kernel
theorem dX0_firstPossible_28 : decode cX0_firstPossible 28 = .ok (.invokevirtual 76, 3) := by decide +kernel
theorem dX0_firstPossible_31 : decode cX0_firstPossible 31 = .ok (.ifCond .ne 9, 3) := by decide +kernel
theorem dX0_firstPossible_34 : decode cX0_firstPossible 34 = .ok (.iconst 3, 1) := by decide +kernel
theorem dX0_firstPossible_35 : decode cX0_firstPossible 35 = .ok (.iload_n 2, 1) := by decide +kernel
theorem dX0_firstPossible_36 : decode cX0_firstPossible 36 = .ok (.imul, 1) := by decide +kernel
theorem dX0_firstPossible_37 : decode cX0_firstPossible 37 = .ok (.iload_n 3, 1) := by decide +kernel
theorem dX0_firstPossible_38 : decode cX0_firstPossible 38 = .ok (.iadd, 1) := by decide +kernel
theorem dX0_firstPossible_39 : decode cX0_firstPossible 39 = .ok (.ireturn, 1) := by decide +kernel
theorem dX0_firstPossible_40 : decode cX0_firstPossible 40 = .ok (.iinc 3 1, 3) := by decide +kernel
theorem dX0_firstPossible_43 : decode cX0_firstPossible 43 = .ok (.goto (-24), 3) := by decide +kernel
theorem dX0_firstPossible_46 : decode cX0_firstPossible 46 = .ok (.iinc 2 1, 3) := by decide +kernel
theorem dX0_firstPossible_49 : decode cX0_firstPossible 49 = .ok (.goto (-37), 3) := by decide +kernel
theorem dX0_firstPossible_52 : decode cX0_firstPossible 52 = .ok (.bipush (-6), 2) := by decide +kernel
theorem dX0_firstPossible_54 : decode cX0_firstPossible 54 = .ok (.ireturn, 1) := by decide +kernel
theorem dX0_mostThrown_0 : decode cX0_mostThrown 0 = .ok (.bipush (-6), 2) := by decide +kernel
theorem dX0_mostThrown_2 : decode cX0_mostThrown 2 = .ok (.istore_n 1, 1) := by decide +kernel
theorem dX0_mostThrown_3 : decode cX0_mostThrown 3 = .ok (.iconst 0, 1) := by decide +kernel
theorem dX0_mostThrown_4 : decode cX0_mostThrown 4 = .ok (.istore_n 2, 1) := by decide +kernel
theorem dX0_mostThrown_5 : decode cX0_mostThrown 5 = .ok (.iload_n 2, 1) := by decide +kernel
theorem dX0_mostThrown_6 : decode cX0_mostThrown 6 = .ok (.iconst 3, 1) := by decide +kernel
theorem dX0_mostThrown_7 : decode cX0_mostThrown 7 = .ok (.if_icmp .ge 48, 3) := by decide +kernel
theorem dX0_mostThrown_10 : decode cX0_mostThrown 10 = .ok (.aload_n 0, 1) := by decide +kernel
theorem dX0_mostThrown_11 : decode cX0_mostThrown 11 = .ok (.getfield 23, 3) := by decide +kernel
theorem dX0_mostThrown_14 : decode cX0_mostThrown 14 = .ok (.iload_n 2, 1) := by decide +kernel
theorem dX0_mostThrown_15 : decode cX0_mostThrown 15 = .ok (.aaload, 1) := by decide +kernel
theorem dX0_mostThrown_16 : decode cX0_mostThrown 16 = .ok (.getfield 166, 3) := by decide +kernel
theorem dX0_mostThrown_19 : decode cX0_mostThrown 19 = .ok (.ifCond .le 30, 3) := by decide +kernel
theorem dX0_mostThrown_22 : decode cX0_mostThrown 22 = .ok (.iload_n 1, 1) := by decide +kernel
theorem dX0_mostThrown_23 : decode cX0_mostThrown 23 = .ok (.ifCond .lt 24, 3) := by decide +kernel
theorem dX0_mostThrown_26 : decode cX0_mostThrown 26 = .ok (.aload_n 0, 1) := by decide +kernel
theorem dX0_mostThrown_27 : decode cX0_mostThrown 27 = .ok (.getfield 23, 3) := by decide +kernel
theorem dX0_mostThrown_30 : decode cX0_mostThrown 30 = .ok (.iload_n 2, 1) := by decide +kernel
theorem dX0_mostThrown_31 : decode cX0_mostThrown 31 = .ok (.aaload, 1) := by decide +kernel
theorem dX0_mostThrown_32 : decode cX0_mostThrown 32 = .ok (.invokevirtual 191, 3) := by decide +kernel
theorem dX0_mostThrown_35 : decode cX0_mostThrown 35 = .ok (.aload_n 0, 1) := by decide +kernel
theorem dX0_mostThrown_36 : decode cX0_mostThrown 36 = .ok (.getfield 23, 3) := by decide +kernel
theorem dX0_mostThrown_39 : decode cX0_mostThrown 39 = .ok (.iload_n 1, 1) := by decide +kernel
theorem dX0_mostThrown_40 : decode cX0_mostThrown 40 = .ok (.aaload, 1) := by decide +kernel
theorem dX0_mostThrown_41 : decode cX0_mostThrown 41 = .ok (.invokevirtual 191, 3) := by decide +kernel
theorem dX0_mostThrown_44 : decode cX0_mostThrown 44 = .ok (.if_icmp .le 5, 3) := by decide +kernel
theorem dX0_mostThrown_47 : decode cX0_mostThrown 47 = .ok (.iload_n 2, 1) := by decide +kernel
theorem dX0_mostThrown_48 : decode cX0_mostThrown 48 = .ok (.istore_n 1, 1) := by decide +kernel
theorem dX0_mostThrown_49 : decode cX0_mostThrown 49 = .ok (.iinc 2 1, 3) := by decide +kernel
theorem dX0_mostThrown_52 : decode cX0_mostThrown 52 = .ok (.goto (-47), 3) := by decide +kernel
theorem dX0_mostThrown_55 : decode cX0_mostThrown 55 = .ok (.iload_n 1, 1) := by decide +kernel
theorem dX0_mostThrown_56 : decode cX0_mostThrown 56 = .ok (.ireturn, 1) := by decide +kernel
theorem dX1_init_0 : decode cX1_init 0 = .ok (.aload_n 0, 1) := by decide +kernel
theorem dX1_init_1 : decode cX1_init 1 = .ok (.invokespecial 3, 3) := by decide +kernel
theorem dX1_init_4 : decode cX1_init 4 = .ok (.aload_n 0, 1) := by decide +kernel
theorem dX1_init_5 : decode cX1_init 5 = .ok (.iconst 5, 1) := by decide +kernel
theorem dX1_init_6 : decode cX1_init 6 = .ok (.newarray .int, 2) := by decide +kernel
theorem dX1_init_8 : decode cX1_init 8 = .ok (.dup, 1) := by decide +kernel
theorem dX1_init_9 : decode cX1_init 9 = .ok (.iconst 0, 1) := by decide +kernel
theorem dX1_init_10 : decode cX1_init 10 = .ok (.iconst 1, 1) := by decide +kernel
theorem dX1_init_11 : decode cX1_init 11 = .ok (.iastore, 1) := by decide +kernel
theorem dX1_init_12 : decode cX1_init 12 = .ok (.dup, 1) := by decide +kernel
theorem dX1_init_13 : decode cX1_init 13 = .ok (.iconst 1, 1) := by decide +kernel
theorem dX1_init_14 : decode cX1_init 14 = .ok (.iconst 1, 1) := by decide +kernel
theorem dX1_init_15 : decode cX1_init 15 = .ok (.iastore, 1) := by decide +kernel
theorem dX1_init_16 : decode cX1_init 16 = .ok (.dup, 1) := by decide +kernel
theorem dX1_init_17 : decode cX1_init 17 = .ok (.iconst 2, 1) := by decide +kernel
theorem dX1_init_18 : decode cX1_init 18 = .ok (.iconst 1, 1) := by decide +kernel
theorem dX1_init_19 : decode cX1_init 19 = .ok (.iastore, 1) := by decide +kernel
theorem dX1_init_20 : decode cX1_init 20 = .ok (.dup, 1) := by decide +kernel
theorem dX1_init_21 : decode cX1_init 21 = .ok (.iconst 3, 1) := by decide +kernel
theorem dX1_init_22 : decode cX1_init 22 = .ok (.iconst 1, 1) := by decide +kernel
theorem dX1_init_23 : decode cX1_init 23 = .ok (.iastore, 1) := by decide +kernel
theorem dX1_init_24 : decode cX1_init 24 = .ok (.dup, 1) := by decide +kernel
theorem dX1_init_25 : decode cX1_init 25 = .ok (.iconst 4, 1) := by decide +kernel
theorem dX1_init_26 : decode cX1_init 26 = .ok (.iconst 1, 1) := by decide +kernel
theorem dX1_init_27 : decode cX1_init 27 = .ok (.iastore, 1) := by decide +kernel
theorem dX1_init_28 : decode cX1_init 28 = .ok (.putfield 9, 3) := by decide +kernel
theorem dX1_init_31 : decode cX1_init 31 = .ok (.return_, 1) := by decide +kernel
theorem dX1_become_0 : decode cX1_become 0 = .ok (.aload_n 1, 1) := by decide +kernel
theorem dX1_become_1 : decode cX1_become 1 = .ok (.getfield 9, 3) := by decide +kernel
theorem dX1_become_4 : decode cX1_become 4 = .ok (.iconst 0, 1) := by decide +kernel
theorem dX1_become_5 : decode cX1_become 5 = .ok (.aload_n 0, 1) := by decide +kernel
theorem dX1_become_6 : decode cX1_become 6 = .ok (.getfield 9, 3) := by decide +kernel
theorem dX1_become_9 : decode cX1_become 9 = .ok (.iconst 0, 1) := by decide +kernel
theorem dX1_become_10 : decode cX1_become 10 = .ok (.iconst 5, 1) := by decide +kernel
theorem dX1_become_11 : decode cX1_become 11 = .ok (.invokestatic 15, 3) := by decide +kernel
theorem dX1_become_14 : decode cX1_become 14 = .ok (.aload_n 0, 1) := by decide +kernel
theorem dX1_become_15 : decode cX1_become 15 = .ok (.aload_n 1, 1) := by decide +kernel
theorem dX1_become_16 : decode cX1_become 16 = .ok (.getfield 21, 3) := by decide +kernel
theorem dX1_become_19 : decode cX1_become 19 = .ok (.putfield 21, 3) := by decide +kernel
theorem dX1_become_22 : decode cX1_become 22 = .ok (.aload_n 0, 1) := by decide +kernel
theorem dX1_become_23 : decode cX1_become 23 = .ok (.aload_n 1, 1) := by decide +kernel
theorem dX1_become_24 : decode cX1_become 24 = .ok (.getfield 25, 3) := by decide +kernel
theorem dX1_become_27 : decode cX1_become 27 = .ok (.putfield 25, 3) := by decide +kernel
theorem dX1_become_30 : decode cX1_become 30 = .ok (.aload_n 0, 1) := by decide +kernel
theorem dX1_become_31 : decode cX1_become 31 = .ok (.aload_n 1, 1) := by decide +kernel
theorem dX1_become_32 : decode cX1_become 32 = .ok (.getfield 28, 3) := by decide +kernel
theorem dX1_become_35 : decode cX1_become 35 = .ok (.putfield 28, 3) := by decide +kernel
theorem dX1_become_38 : decode cX1_become 38 = .ok (.aload_n 0, 1) := by decide +kernel
theorem dX1_become_39 : decode cX1_become 39 = .ok (.aload_n 1, 1) := by decide +kernel
theorem dX1_become_40 : decode cX1_become 40 = .ok (.getfield 31, 3) := by decide +kernel
theorem dX1_become_43 : decode cX1_become 43 = .ok (.putfield 31, 3) := by decide +kernel
theorem dX1_become_46 : decode cX1_become 46 = .ok (.aload_n 0, 1) := by decide +kernel
theorem dX1_become_47 : decode cX1_become 47 = .ok (.aload_n 1, 1) := by decide +kernel
theorem dX1_become_48 : decode cX1_become 48 = .ok (.getfield 34, 3) := by decide +kernel
theorem dX1_become_51 : decode cX1_become 51 = .ok (.putfield 34, 3) := by decide +kernel
theorem dX1_become_54 : decode cX1_become 54 = .ok (.return_, 1) := by decide +kernel
theorem dX1_left_0 : decode cX1_left 0 = .ok (.aload_n 0, 1) := by decide +kernel
theorem dX1_left_1 : decode cX1_left 1 = .ok (.getfield 21, 3) := by decide +kernel
theorem dX1_left_4 : decode cX1_left 4 = .ok (.aload_n 0, 1) := by decide +kernel
theorem dX1_left_5 : decode cX1_left 5 = .ok (.getfield 25, 3) := by decide +kernel
theorem dX1_left_8 : decode cX1_left 8 = .ok (.iadd, 1) := by decide +kernel
theorem dX1_left_9 : decode cX1_left 9 = .ok (.ireturn, 1) := by decide +kernel
theorem dX1_fill_0 : decode cX1_fill 0 = .ok (.aload_n 0, 1) := by decide +kernel
theorem dX1_fill_1 : decode cX1_fill 1 = .ok (.iload_n 1, 1) := by decide +kernel
theorem dX1_fill_2 : decode cX1_fill 2 = .ok (.putfield 25, 3) := by decide +kernel
theorem dX1_fill_5 : decode cX1_fill 5 = .ok (.aload_n 0, 1) := by decide +kernel
theorem dX1_fill_6 : decode cX1_fill 6 = .ok (.dup, 1) := by decide +kernel
theorem dX1_fill_7 : decode cX1_fill 7 = .ok (.getfield 28, 3) := by decide +kernel
theorem dX1_fill_10 : decode cX1_fill 10 = .ok (.iload_n 1, 1) := by decide +kernel
theorem dX1_fill_11 : decode cX1_fill 11 = .ok (.iadd, 1) := by decide +kernel
theorem dX1_fill_12 : decode cX1_fill 12 = .ok (.putfield 28, 3) := by decide +kernel
theorem dX1_fill_15 : decode cX1_fill 15 = .ok (.return_, 1) := by decide +kernel
theorem dX1_give_0 : decode cX1_give 0 = .ok (.aload_n 0, 1) := by decide +kernel
theorem dX1_give_1 : decode cX1_give 1 = .ok (.getfield 21, 3) := by decide +kernel
theorem dX1_give_4 : decode cX1_give 4 = .ok (.ifCond .le 16, 3) := by decide +kernel
theorem dX1_give_7 : decode cX1_give 7 = .ok (.aload_n 0, 1) := by decide +kernel
theorem dX1_give_8 : decode cX1_give 8 = .ok (.dup, 1) := by decide +kernel
theorem dX1_give_9 : decode cX1_give 9 = .ok (.getfield 21, 3) := by decide +kernel
theorem dX1_give_12 : decode cX1_give 12 = .ok (.iconst 1, 1) := by decide +kernel
theorem dX1_give_13 : decode cX1_give 13 = .ok (.isub, 1) := by decide +kernel
theorem dX1_give_14 : decode cX1_give 14 = .ok (.putfield 21, 3) := by decide +kernel
theorem dX1_give_17 : decode cX1_give 17 = .ok (.goto 13, 3) := by decide +kernel
theorem dX1_give_20 : decode cX1_give 20 = .ok (.aload_n 0, 1) := by decide +kernel
theorem dX1_give_21 : decode cX1_give 21 = .ok (.dup, 1) := by decide +kernel
theorem dX1_give_22 : decode cX1_give 22 = .ok (.getfield 25, 3) := by decide +kernel
theorem dX1_give_25 : decode cX1_give 25 = .ok (.iconst 1, 1) := by decide +kernel
theorem dX1_give_26 : decode cX1_give 26 = .ok (.isub, 1) := by decide +kernel
theorem dX1_give_27 : decode cX1_give 27 = .ok (.putfield 25, 3) := by decide +kernel
theorem dX1_give_30 : decode cX1_give 30 = .ok (.aload_n 0, 1) := by decide +kernel
theorem dX1_give_31 : decode cX1_give 31 = .ok (.dup, 1) := by decide +kernel
theorem dX1_give_32 : decode cX1_give 32 = .ok (.getfield 31, 3) := by decide +kernel
theorem dX1_give_35 : decode cX1_give 35 = .ok (.iconst 1, 1) := by decide +kernel
theorem dX1_give_36 : decode cX1_give 36 = .ok (.iadd, 1) := by decide +kernel
theorem dX1_give_37 : decode cX1_give 37 = .ok (.putfield 31, 3) := by decide +kernel
theorem dX1_give_40 : decode cX1_give 40 = .ok (.return_, 1) := by decide +kernel
theorem dX1_clearUp_0 : decode cX1_clearUp 0 = .ok (.aload_n 0, 1) := by decide +kernel
theorem dX1_clearUp_1 : decode cX1_clearUp 1 = .ok (.getfield 25, 3) := by decide +kernel
theorem dX1_clearUp_4 : decode cX1_clearUp 4 = .ok (.iload_n 1, 1) := by decide +kernel
theorem dX1_clearUp_5 : decode cX1_clearUp 5 = .ok (.invokestatic 37, 3) := by decide +kernel
theorem dX1_clearUp_8 : decode cX1_clearUp 8 = .ok (.istore_n 2, 1) := by decide +kernel
theorem dX1_clearUp_9 : decode cX1_clearUp 9 = .ok (.aload_n 0, 1) := by decide +kernel
theorem dX1_clearUp_10 : decode cX1_clearUp 10 = .ok (.dup, 1) := by decide +kernel
theorem dX1_clearUp_11 : decode cX1_clearUp 11 = .ok (.getfield 34, 3) := by decide +kernel
theorem dX1_clearUp_14 : decode cX1_clearUp 14 = .ok (.aload_n 0, 1) := by decide +kernel
theorem dX1_clearUp_15 : decode cX1_clearUp 15 = .ok (.getfield 21, 3) := by decide +kernel
theorem dX1_clearUp_18 : decode cX1_clearUp 18 = .ok (.aload_n 0, 1) := by decide +kernel
theorem dX1_clearUp_19 : decode cX1_clearUp 19 = .ok (.getfield 25, 3) := by decide +kernel
theorem dX1_clearUp_22 : decode cX1_clearUp 22 = .ok (.iadd, 1) := by decide +kernel
theorem dX1_clearUp_23 : decode cX1_clearUp 23 = .ok (.iload_n 2, 1) := by decide +kernel
theorem dX1_clearUp_24 : decode cX1_clearUp 24 = .ok (.isub, 1) := by decide +kernel
theorem dX1_clearUp_25 : decode cX1_clearUp 25 = .ok (.iadd, 1) := by decide +kernel
theorem dX1_clearUp_26 : decode cX1_clearUp 26 = .ok (.putfield 34, 3) := by decide +kernel
theorem dX1_clearUp_29 : decode cX1_clearUp 29 = .ok (.aload_n 0, 1) := by decide +kernel
theorem dX1_clearUp_30 : decode cX1_clearUp 30 = .ok (.iload_n 2, 1) := by decide +kernel
theorem dX1_clearUp_31 : decode cX1_clearUp 31 = .ok (.putfield 21, 3) := by decide +kernel
theorem dX1_clearUp_34 : decode cX1_clearUp 34 = .ok (.aload_n 0, 1) := by decide +kernel
theorem dX1_clearUp_35 : decode cX1_clearUp 35 = .ok (.iconst 0, 1) := by decide +kernel
theorem dX1_clearUp_36 : decode cX1_clearUp 36 = .ok (.putfield 25, 3) := by decide +kernel
theorem dX1_clearUp_39 : decode cX1_clearUp 39 = .ok (.return_, 1) := by decide +kernel
theorem dX1_waste_0 : decode cX1_waste 0 = .ok (.aload_n 0, 1) := by decide +kernel
theorem dX1_waste_1 : decode cX1_waste 1 = .ok (.getfield 28, 3) := by decide +kernel
theorem dX1_waste_4 : decode cX1_waste 4 = .ok (.ifCond .ne 7, 3) := by decide +kernel
theorem dX1_waste_7 : decode cX1_waste 7 = .ok (.iconst 0, 1) := by decide +kernel
theorem dX1_waste_8 : decode cX1_waste 8 = .ok (.goto 15, 3) := by decide +kernel
theorem dX1_waste_11 : decode cX1_waste 11 = .ok (.bipush 100, 2) := by decide +kernel
theorem dX1_waste_13 : decode cX1_waste 13 = .ok (.aload_n 0, 1) := by decide +kernel
theorem dX1_waste_14 : decode cX1_waste 14 = .ok (.getfield 34, 3) := by decide +kernel
theorem dX1_waste_17 : decode cX1_waste 17 = .ok (.imul, 1) := by decide +kernel
theorem dX1_waste_18 : decode cX1_waste 18 = .ok (.aload_n 0, 1) := by decide +kernel
theorem dX1_waste_19 : decode cX1_waste 19 = .ok (.getfield 28, 3) := by decide +kernel
theorem dX1_waste_22 : decode cX1_waste 22 = .ok (.idiv, 1) := by decide +kernel
theorem dX1_waste_23 : decode cX1_waste 23 = .ok (.ireturn, 1) := by decide +kernel
theorem dX2_init_0 : decode cX2_init 0 = .ok (.aload_n 0, 1) := by decide +kernel
theorem dX2_init_1 : decode cX2_init 1 = .ok (.invokespecial 3, 3) := by decide +kernel
theorem dX2_init_4 : decode cX2_init 4 = .ok (.aload_n 0, 1) := by decide +kernel
theorem dX2_init_5 : decode cX2_init 5 = .ok (.bipush 7, 2) := by decide +kernel
theorem dX2_init_7 : decode cX2_init 7 = .ok (.anewarray 9, 3) := by decide +kernel
theorem dX2_init_10 : decode cX2_init 10 = .ok (.putfield 11, 3) := by decide +kernel
theorem dX2_init_13 : decode cX2_init 13 = .ok (.iconst 0, 1) := by decide +kernel
theorem dX2_init_14 : decode cX2_init 14 = .ok (.istore_n 1, 1) := by decide +kernel
theorem dX2_init_15 : decode cX2_init 15 = .ok (.iload_n 1, 1) := by decide +kernel
theorem dX2_init_16 : decode cX2_init 16 = .ok (.bipush 6, 2) := by decide +kernel
theorem dX2_init_18 : decode cX2_init 18 = .ok (.if_icmp .gt 22, 3) := by decide +kernel
theorem dX2_init_21 : decode cX2_init 21 = .ok (.aload_n 0, 1) := by decide +kernel
theorem dX2_init_22 : decode cX2_init 22 = .ok (.getfield 11, 3) := by decide +kernel
theorem dX2_init_25 : decode cX2_init 25 = .ok (.iload_n 1, 1) := by decide +kernel
theorem dX2_init_26 : decode cX2_init 26 = .ok (.new 9, 3) := by decide +kernel
theorem dX2_init_29 : decode cX2_init 29 = .ok (.dup, 1) := by decide +kernel
theorem dX2_init_30 : decode cX2_init 30 = .ok (.invokespecial 17, 3) := by decide +kernel
theorem dX2_init_33 : decode cX2_init 33 = .ok (.aastore, 1) := by decide +kernel
theorem dX2_init_34 : decode cX2_init 34 = .ok (.iinc 1 1, 3) := by decide +kernel
theorem dX2_init_37 : decode cX2_init 37 = .ok (.goto (-22), 3) := by decide +kernel
theorem dX2_init_40 : decode cX2_init 40 = .ok (.return_, 1) := by decide +kernel
theorem dX2_length_0 : decode cX2_length 0 = .ok (.aload_n 0, 1) := by decide +kernel
theorem dX2_length_1 : decode cX2_length 1 = .ok (.getfield 18, 3) := by decide +kernel
theorem dX2_length_4 : decode cX2_length 4 = .ok (.ireturn, 1) := by decide +kernel
theorem dX2_note_0 : decode cX2_note 0 = .ok (.aload_n 0, 1) := by decide +kernel
theorem dX2_note_1 : decode cX2_note 1 = .ok (.getfield 11, 3) := by decide +kernel
theorem dX2_note_4 : decode cX2_note 4 = .ok (.aload_n 0, 1) := by decide +kernel
theorem dX2_note_5 : decode cX2_note 5 = .ok (.getfield 22, 3) := by decide +kernel
theorem dX2_note_8 : decode cX2_note 8 = .ok (.aaload, 1) := by decide +kernel
theorem dX2_note_9 : decode cX2_note 9 = .ok (.aload_n 1, 1) := by decide +kernel
theorem dX2_note_10 : decode cX2_note 10 = .ok (.invokevirtual 25, 3) := by decide +kernel
theorem dX2_note_13 : decode cX2_note 13 = .ok (.return_, 1) := by decide +kernel
theorem dX2_keep_0 : decode cX2_keep 0 = .ok (.iload_n 1, 1) := by decide +kernel
theorem dX2_keep_1 : decode cX2_keep 1 = .ok (.ifCond .lt 41, 3) := by decide +kernel
theorem dX2_keep_4 : decode cX2_keep 4 = .ok (.aload_n 0, 1) := by decide +kernel
theorem dX2_keep_5 : decode cX2_keep 5 = .ok (.aload_n 0, 1) := by decide +kernel
theorem dX2_keep_6 : decode cX2_keep 6 = .ok (.getfield 22, 3) := by decide +kernel
theorem dX2_keep_9 : decode cX2_keep 9 = .ok (.bipush 6, 2) := by decide +kernel
theorem dX2_keep_11 : decode cX2_keep 11 = .ok (.if_icmp .ne 7, 3) := by decide +kernel
theorem dX2_keep_14 : decode cX2_keep 14 = .ok (.iconst 0, 1) := by decide +kernel
theorem dX2_keep_15 : decode cX2_keep 15 = .ok (.goto 9, 3) := by decide +kernel
theorem dX2_keep_18 : decode cX2_keep 18 = .ok (.aload_n 0, 1) := by decide +kernel
theorem dX2_keep_19 : decode cX2_keep 19 = .ok (.getfield 22, 3) := by decide +kernel
theorem dX2_keep_22 : decode cX2_keep 22 = .ok (.iconst 1, 1) := by decide +kernel
theorem dX2_keep_23 : decode cX2_keep 23 = .ok (.iadd, 1) := by decide +kernel
theorem dX2_keep_24 : decode cX2_keep 24 = .ok (.putfield 22, 3) := by decide +kernel
theorem dX2_keep_27 : decode cX2_keep 27 = .ok (.aload_n 0, 1) := by decide +kernel
theorem dX2_keep_28 : decode cX2_keep 28 = .ok (.bipush 6, 2) := by decide +kernel
theorem dX2_keep_30 : decode cX2_keep 30 = .ok (.aload_n 0, 1) := by decide +kernel
theorem dX2_keep_31 : decode cX2_keep 31 = .ok (.getfield 18, 3) := by decide +kernel
theorem dX2_keep_34 : decode cX2_keep 34 = .ok (.iconst 1, 1) := by decide +kernel
theorem dX2_keep_35 : decode cX2_keep 35 = .ok (.iadd, 1) := by decide +kernel
theorem dX2_keep_36 : decode cX2_keep 36 = .ok (.invokestatic 29, 3) := by decide +kernel
theorem dX2_keep_39 : decode cX2_keep 39 = .ok (.putfield 18, 3) := by decide +kernel
theorem dX2_keep_42 : decode cX2_keep 42 = .ok (.iload_n 1, 1) := by decide +kernel
theorem dX2_keep_43 : decode cX2_keep 43 = .ok (.ireturn, 1) := by decide +kernel
theorem dX2_takeBack_0 : decode cX2_takeBack 0 = .ok (.aload_n 0, 1) := by decide +kernel
theorem dX2_takeBack_1 : decode cX2_takeBack 1 = .ok (.getfield 18, 3) := by decide +kernel
theorem dX2_takeBack_4 : decode cX2_takeBack 4 = .ok (.ifCond .ne 6, 3) := by decide +kernel
theorem dX2_takeBack_7 : decode cX2_takeBack 7 = .ok (.bipush (-5), 2) := by decide +kernel
theorem dX2_takeBack_9 : decode cX2_takeBack 9 = .ok (.ireturn, 1) := by decide +kernel
theorem dX2_takeBack_10 : decode cX2_takeBack 10 = .ok (.aload_n 0, 1) := by decide +kernel
theorem dX2_takeBack_11 : decode cX2_takeBack 11 = .ok (.aload_n 0, 1) := by decide +kernel
theorem dX2_takeBack_12 : decode cX2_takeBack 12 = .ok (.getfield 22, 3) := by decide +kernel
theorem dX2_takeBack_15 : decode cX2_takeBack 15 = .ok (.ifCond .ne 8, 3) := by decide +kernel
theorem dX2_takeBack_18 : decode cX2_takeBack 18 = .ok (.bipush 6, 2) := by decide +kernel
theorem dX2_takeBack_20 : decode cX2_takeBack 20 = .ok (.goto 9, 3) := by decide +kernel
theorem dX2_takeBack_23 : decode cX2_takeBack 23 = .ok (.aload_n 0, 1) := by decide +kernel
theorem dX2_takeBack_24 : decode cX2_takeBack 24 = .ok (.getfield 22, 3) := by decide +kernel
theorem dX2_takeBack_27 : decode cX2_takeBack 27 = .ok (.iconst 1, 1) := by decide +kernel
theorem dX2_takeBack_28 : decode cX2_takeBack 28 = .ok (.isub, 1) := by decide +kernel
theorem dX2_takeBack_29 : decode cX2_takeBack 29 = .ok (.putfield 22, 3) := by decide +kernel
theorem dX2_takeBack_32 : decode cX2_takeBack 32 = .ok (.aload_n 0, 1) := by decide +kernel
theorem dX2_takeBack_33 : decode cX2_takeBack 33 = .ok (.dup, 1) := by decide +kernel
theorem dX2_takeBack_34 : decode cX2_takeBack 34 = .ok (.getfield 18, 3) := by decide +kernel
theorem dX2_takeBack_37 : decode cX2_takeBack 37 = .ok (.iconst 1, 1) := by decide +kernel
theorem dX2_takeBack_38 : decode cX2_takeBack 38 = .ok (.isub, 1) := by decide +kernel
theorem dX2_takeBack_39 : decode cX2_takeBack 39 = .ok (.putfield 18, 3) := by decide +kernel
theorem dX2_takeBack_42 : decode cX2_takeBack 42 = .ok (.aload_n 1, 1) := by decide +kernel
theorem dX2_takeBack_43 : decode cX2_takeBack 43 = .ok (.aload_n 0, 1) := by decide +kernel
theorem dX2_takeBack_44 : decode cX2_takeBack 44 = .ok (.getfield 11, 3) := by decide +kernel
theorem dX2_takeBack_47 : decode cX2_takeBack 47 = .ok (.aload_n 0, 1) := by decide +kernel
theorem dX2_takeBack_48 : decode cX2_takeBack 48 = .ok (.getfield 22, 3) := by decide +kernel
theorem dX2_takeBack_51 : decode cX2_takeBack 51 = .ok (.aaload, 1) := by decide +kernel
theorem dX2_takeBack_52 : decode cX2_takeBack 52 = .ok (.invokevirtual 25, 3) := by decide +kernel
theorem dX2_takeBack_55 : decode cX2_takeBack 55 = .ok (.aload_n 0, 1) := by decide +kernel
theorem dX2_takeBack_56 : decode cX2_takeBack 56 = .ok (.getfield 18, 3) := by decide +kernel
theorem dX2_takeBack_59 : decode cX2_takeBack 59 = .ok (.ireturn, 1) := by decide +kernel
theorem dX3_init_0 : decode cX3_init 0 = .ok (.aload_n 0, 1) := by decide +kernel
theorem dX3_init_1 : decode cX3_init 1 = .ok (.invokespecial 3, 3) := by decide +kernel
theorem dX3_init_4 : decode cX3_init 4 = .ok (.aload_n 0, 1) := by decide +kernel
theorem dX3_init_5 : decode cX3_init 5 = .ok (.aload_n 1, 1) := by decide +kernel
theorem dX3_init_6 : decode cX3_init 6 = .ok (.putfield 9, 3) := by decide +kernel
theorem dX3_init_9 : decode cX3_init 9 = .ok (.return_, 1) := by decide +kernel
theorem dX3_start_0 : decode cX3_start 0 = .ok (.aload_n 0, 1) := by decide +kernel
theorem dX3_start_1 : decode cX3_start 1 = .ok (.iconst 0, 1) := by decide +kernel
theorem dX3_start_2 : decode cX3_start 2 = .ok (.putfield 15, 3) := by decide +kernel
theorem dX3_start_5 : decode cX3_start 5 = .ok (.return_, 1) := by decide +kernel
theorem dX3_firstFault_0 : decode cX3_firstFault 0 = .ok (.aload_n 0, 1) := by decide +kernel
theorem dX3_firstFault_1 : decode cX3_firstFault 1 = .ok (.invokevirtual 19, 3) := by decide +kernel
theorem dX3_firstFault_4 : decode cX3_firstFault 4 = .ok (.iconst 0, 1) := by decide +kernel
theorem dX3_firstFault_5 : decode cX3_firstFault 5 = .ok (.istore_n 1, 1) := by decide +kernel
theorem dX3_firstFault_6 : decode cX3_firstFault 6 = .ok (.iload_n 1, 1) := by decide +kernel
theorem dX3_firstFault_7 : decode cX3_firstFault 7 = .ok (.bipush 80, 2) := by decide +kernel
theorem dX3_firstFault_9 : decode cX3_firstFault 9 = .ok (.if_icmp .ge 52, 3) := by decide +kernel
theorem dX3_firstFault_12 : decode cX3_firstFault 12 = .ok (.aload_n 0, 1) := by decide +kernel
theorem dX3_firstFault_13 : decode cX3_firstFault 13 = .ok (.invokevirtual 22, 3) := by decide +kernel
theorem dX3_firstFault_16 : decode cX3_firstFault 16 = .ok (.ifCond .ne 8, 3) := by decide +kernel
theorem dX3_firstFault_19 : decode cX3_firstFault 19 = .ok (.aload_n 0, 1) := by decide +kernel
theorem dX3_firstFault_20 : decode cX3_firstFault 20 = .ok (.getfield 15, 3) := by decide +kernel
theorem dX3_firstFault_23 : decode cX3_firstFault 23 = .ok (.ireturn, 1) := by decide +kernel
theorem dX3_firstFault_24 : decode cX3_firstFault 24 = .ok (.aload_n 0, 1) := by decide +kernel
theorem dX3_firstFault_25 : decode cX3_firstFault 25 = .ok (.getfield 15, 3) := by decide +kernel
theorem dX3_firstFault_28 : decode cX3_firstFault 28 = .ok (.aload_n 0, 1) := by decide +kernel
theorem dX3_firstFault_29 : decode cX3_firstFault 29 = .ok (.getfield 9, 3) := by decide +kernel
theorem dX3_firstFault_32 : decode cX3_firstFault 32 = .ok (.invokevirtual 26, 3) := by decide +kernel
theorem dX3_firstFault_35 : decode cX3_firstFault 35 = .ok (.if_icmp .lt 6, 3) := by decide +kernel
theorem dX3_firstFault_38 : decode cX3_firstFault 38 = .ok (.bipush (-6), 2) := by decide +kernel
theorem dX3_firstFault_40 : decode cX3_firstFault 40 = .ok (.ireturn, 1) := by decide +kernel
theorem dX3_firstFault_41 : decode cX3_firstFault 41 = .ok (.aload_n 0, 1) := by decide +kernel
theorem dX3_firstFault_42 : decode cX3_firstFault 42 = .ok (.bipush 59, 2) := by decide +kernel
theorem dX3_firstFault_44 : decode cX3_firstFault 44 = .ok (.invokevirtual 32, 3) := by decide +kernel
theorem dX3_firstFault_47 : decode cX3_firstFault 47 = .ok (.ifCond .ne 8, 3) := by decide +kernel
theorem dX3_firstFault_50 : decode cX3_firstFault 50 = .ok (.aload_n 0, 1) := by decide +kernel
theorem dX3_firstFault_51 : decode cX3_firstFault 51 = .ok (.getfield 15, 3) := by decide +kernel
theorem dX3_firstFault_54 : decode cX3_firstFault 54 = .ok (.ireturn, 1) := by decide +kernel
theorem dX3_firstFault_55 : decode cX3_firstFault 55 = .ok (.iinc 1 1, 3) := by decide +kernel
theorem dX3_firstFault_58 : decode cX3_firstFault 58 = .ok (.goto (-52), 3) := by decide +kernel
theorem dX3_firstFault_61 : decode cX3_firstFault 61 = .ok (.aload_n 0, 1) := by decide +kernel
theorem dX3_firstFault_62 : decode cX3_firstFault 62 = .ok (.getfield 15, 3) := by decide +kernel
theorem dX3_firstFault_65 : decode cX3_firstFault 65 = .ok (.ireturn, 1) := by decide +kernel
theorem dX3_take_0 : decode cX3_take 0 = .ok (.aload_n 0, 1) := by decide +kernel
theorem dX3_take_1 : decode cX3_take 1 = .ok (.getfield 9, 3) := by decide +kernel
theorem dX3_take_4 : decode cX3_take 4 = .ok (.aload_n 0, 1) := by decide +kernel
theorem dX3_take_5 : decode cX3_take 5 = .ok (.getfield 15, 3) := by decide +kernel
theorem dX3_take_8 : decode cX3_take 8 = .ok (.invokevirtual 36, 3) := by decide +kernel
theorem dX3_take_11 : decode cX3_take 11 = .ok (.iload_n 1, 1) := by decide +kernel
theorem dX3_take_12 : decode cX3_take 12 = .ok (.if_icmp .eq 5, 3) := by decide +kernel
theorem dX3_take_15 : decode cX3_take 15 = .ok (.iconst 0, 1) := by decide +kernel
theorem dX3_take_16 : decode cX3_take 16 = .ok (.ireturn, 1) := by decide +kernel
theorem dX3_take_17 : decode cX3_take 17 = .ok (.aload_n 0, 1) := by decide +kernel
theorem dX3_take_18 : decode cX3_take 18 = .ok (.dup, 1) := by decide +kernel
theorem dX3_take_19 : decode cX3_take 19 = .ok (.getfield 15, 3) := by decide +kernel
theorem dX3_take_22 : decode cX3_take 22 = .ok (.iconst 1, 1) := by decide +kernel
theorem dX3_take_23 : decode cX3_take 23 = .ok (.iadd, 1) := by decide +kernel
theorem dX3_take_24 : decode cX3_take 24 = .ok (.putfield 15, 3) := by decide +kernel
theorem dX3_take_27 : decode cX3_take 27 = .ok (.iconst 1, 1) := by decide +kernel
theorem dX3_take_28 : decode cX3_take 28 = .ok (.ireturn, 1) := by decide +kernel
theorem dX3_readOrder_0 : decode cX3_readOrder 0 = .ok (.aload_n 0, 1) := by decide +kernel
theorem dX3_readOrder_1 : decode cX3_readOrder 1 = .ok (.aload_n 0, 1) := by decide +kernel
theorem dX3_readOrder_2 : decode cX3_readOrder 2 = .ok (.getfield 9, 3) := by decide +kernel
theorem dX3_readOrder_5 : decode cX3_readOrder 5 = .ok (.aload_n 0, 1) := by decide +kernel
theorem dX3_readOrder_6 : decode cX3_readOrder 6 = .ok (.getfield 15, 3) := by decide +kernel
theorem dX3_readOrder_9 : decode cX3_readOrder 9 = .ok (.invokevirtual 36, 3) := by decide +kernel
theorem dX3_readOrder_12 : decode cX3_readOrder 12 = .ok (.putfield 40, 3) := by decide +kernel
theorem dX3_readOrder_15 : decode cX3_readOrder 15 = .ok (.aload_n 0, 1) := by decide +kernel
theorem dX3_readOrder_16 : decode cX3_readOrder 16 = .ok (.bipush (-6), 2) := by decide +kernel
theorem dX3_readOrder_18 : decode cX3_readOrder 18 = .ok (.putfield 43, 3) := by decide +kernel
theorem dX3_readOrder_21 : decode cX3_readOrder 21 = .ok (.aload_n 0, 1) := by decide +kernel
theorem dX3_readOrder_22 : decode cX3_readOrder 22 = .ok (.iconst 0, 1) := by decide +kernel
theorem dX3_readOrder_23 : decode cX3_readOrder 23 = .ok (.putfield 46, 3) := by decide +kernel
theorem dX3_readOrder_26 : decode cX3_readOrder 26 = .ok (.aload_n 0, 1) := by decide +kernel
theorem dX3_readOrder_27 : decode cX3_readOrder 27 = .ok (.getfield 40, 3) := by decide +kernel
theorem dX3_readOrder_30 : decode cX3_readOrder 30 = .ok (.lookupswitch 183 #[(99, 146), (107, 58), (111, 109), (112, 58), (118, 70), (120, 58)], 58) := by decide +kernel
theorem dX3_readOrder_88 : decode cX3_readOrder 88 = .ok (.aload_n 0, 1) := by decide +kernel
theorem dX3_readOrder_89 : decode cX3_readOrder 89 = .ok (.dup, 1) := by decide +kernel
theorem dX3_readOrder_90 : decode cX3_readOrder 90 = .ok (.getfield 15, 3) := by decide +kernel
theorem dX3_readOrder_93 : decode cX3_readOrder 93 = .ok (.iconst 1, 1) := by decide +kernel
theorem dX3_readOrder_94 : decode cX3_readOrder 94 = .ok (.iadd, 1) := by decide +kernel
theorem dX3_readOrder_95 : decode cX3_readOrder 95 = .ok (.putfield 15, 3) := by decide +kernel
theorem dX3_readOrder_98 : decode cX3_readOrder 98 = .ok (.iconst 1, 1) := by decide +kernel
theorem dX3_readOrder_99 : decode cX3_readOrder 99 = .ok (.ireturn, 1) := by decide +kernel
theorem dX3_readOrder_100 : decode cX3_readOrder 100 = .ok (.aload_n 0, 1) := by decide +kernel
theorem dX3_readOrder_101 : decode cX3_readOrder 101 = .ok (.dup, 1) := by decide +kernel
theorem dX3_readOrder_102 : decode cX3_readOrder 102 = .ok (.getfield 15, 3) := by decide +kernel
theorem dX3_readOrder_105 : decode cX3_readOrder 105 = .ok (.iconst 1, 1) := by decide +kernel
theorem dX3_readOrder_106 : decode cX3_readOrder 106 = .ok (.iadd, 1) := by decide +kernel
theorem dX3_readOrder_107 : decode cX3_readOrder 107 = .ok (.putfield 15, 3) := by decide +kernel
theorem dX3_readOrder_110 : decode cX3_readOrder 110 = .ok (.aload_n 0, 1) := by decide +kernel
theorem dX3_readOrder_111 : decode cX3_readOrder 111 = .ok (.invokevirtual 49, 3) := by decide +kernel
theorem dX3_readOrder_114 : decode cX3_readOrder 114 = .ok (.ifCond .eq 23, 3) := by decide +kernel
theorem dX3_readOrder_117 : decode cX3_readOrder 117 = .ok (.aload_n 0, 1) := by decide +kernel
theorem dX3_readOrder_118 : decode cX3_readOrder 118 = .ok (.bipush 43, 2) := by decide +kernel
theorem dX3_readOrder_120 : decode cX3_readOrder 120 = .ok (.invokevirtual 32, 3) := by decide +kernel
theorem dX3_readOrder_123 : decode cX3_readOrder 123 = .ok (.ifCond .eq 14, 3) := by decide +kernel
theorem dX3_readOrder_126 : decode cX3_readOrder 126 = .ok (.aload_n 0, 1) := by decide +kernel
theorem dX3_readOrder_127 : decode cX3_readOrder 127 = .ok (.invokevirtual 52, 3) := by decide +kernel
theorem dX3_readOrder_130 : decode cX3_readOrder 130 = .ok (.ifCond .eq 7, 3) := by decide +kernel
theorem dX3_readOrder_133 : decode cX3_readOrder 133 = .ok (.iconst 1, 1) := by decide +kernel
theorem dX3_readOrder_134 : decode cX3_readOrder 134 = .ok (.goto 4, 3) := by decide +kernel
theorem dX3_readOrder_137 : decode cX3_readOrder 137 = .ok (.iconst 0, 1) := by decide +kernel
theorem dX3_readOrder_138 : decode cX3_readOrder 138 = .ok (.ireturn, 1) := by decide +kernel
theorem dX3_readOrder_139 : decode cX3_readOrder 139 = .ok (.aload_n 0, 1) := by decide +kernel
theorem dX3_readOrder_140 : decode cX3_readOrder 140 = .ok (.dup, 1) := by decide +kernel
theorem dX3_readOrder_141 : decode cX3_readOrder 141 = .ok (.getfield 15, 3) := by decide +kernel
theorem dX3_readOrder_144 : decode cX3_readOrder 144 = .ok (.iconst 1, 1) := by decide +kernel
theorem dX3_readOrder_145 : decode cX3_readOrder 145 = .ok (.iadd, 1) := by decide +kernel
theorem dX3_readOrder_146 : decode cX3_readOrder 146 = .ok (.putfield 15, 3) := by decide +kernel
theorem dX3_readOrder_149 : decode cX3_readOrder 149 = .ok (.aload_n 0, 1) := by decide +kernel
theorem dX3_readOrder_150 : decode cX3_readOrder 150 = .ok (.invokevirtual 49, 3) := by decide +kernel
theorem dX3_readOrder_153 : decode cX3_readOrder 153 = .ok (.ifCond .eq 21, 3) := by decide +kernel
theorem dX3_readOrder_156 : decode cX3_readOrder 156 = .ok (.aload_n 0, 1) := by decide +kernel
theorem dX3_readOrder_157 : decode cX3_readOrder 157 = .ok (.invokevirtual 55, 3) := by decide +kernel

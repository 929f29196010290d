theorem dX8_firstOrder_28 : decode cX8_firstOrder 28 = .ok (.invokevirtual 69, 3) := by decide +kernel
theorem dX8_firstOrder_31 : decode cX8_firstOrder 31 = .ok (.ifCond .ne 7, 3) := by decide +kernel
theorem dX8_firstOrder_34 : decode cX8_firstOrder 34 = .ok (.iload_n 3, 1) := by decide +kernel
theorem dX8_firstOrder_35 : decode cX8_firstOrder 35 = .ok (.goto 4, 3) := by decide +kernel
theorem dX8_firstOrder_38 : decode cX8_firstOrder 38 = .ok (.iload_n 2, 1) := by decide +kernel
theorem dX8_firstOrder_39 : decode cX8_firstOrder 39 = .ok (.istore_n 2, 1) := by decide +kernel
theorem dX8_firstOrder_40 : decode cX8_firstOrder 40 = .ok (.iinc 3 (-1), 3) := by decide +kernel
theorem dX8_firstOrder_43 : decode cX8_firstOrder 43 = .ok (.goto (-27), 3) := by decide +kernel
theorem dX8_firstOrder_46 : decode cX8_firstOrder 46 = .ok (.iload_n 2, 1) := by decide +kernel
theorem dX8_firstOrder_47 : decode cX8_firstOrder 47 = .ok (.ireturn, 1) := by decide +kernel
theorem dX8_wasted_0 : decode cX8_wasted 0 = .ok (.bipush (-6), 2) := by decide +kernel
theorem dX8_wasted_2 : decode cX8_wasted 2 = .ok (.istore_n 1, 1) := by decide +kernel
theorem dX8_wasted_3 : decode cX8_wasted 3 = .ok (.iconst (-1), 1) := by decide +kernel
theorem dX8_wasted_4 : decode cX8_wasted 4 = .ok (.istore_n 2, 1) := by decide +kernel
theorem dX8_wasted_5 : decode cX8_wasted 5 = .ok (.iconst 0, 1) := by decide +kernel
theorem dX8_wasted_6 : decode cX8_wasted 6 = .ok (.istore_n 3, 1) := by decide +kernel
theorem dX8_wasted_7 : decode cX8_wasted 7 = .ok (.iload_n 3, 1) := by decide +kernel
theorem dX8_wasted_8 : decode cX8_wasted 8 = .ok (.iconst 3, 1) := by decide +kernel
theorem dX8_wasted_9 : decode cX8_wasted 9 = .ok (.if_icmp .ge 75, 3) := by decide +kernel
theorem dX8_wasted_12 : decode cX8_wasted 12 = .ok (.aload_n 0, 1) := by decide +kernel
theorem dX8_wasted_13 : decode cX8_wasted 13 = .ok (.getfield 7, 3) := by decide +kernel
theorem dX8_wasted_16 : decode cX8_wasted 16 = .ok (.iload_n 3, 1) := by decide +kernel
theorem dX8_wasted_17 : decode cX8_wasted 17 = .ok (.invokestatic 51, 3) := by decide +kernel
theorem dX8_wasted_20 : decode cX8_wasted 20 = .ok (.iconst 4, 1) := by decide +kernel
theorem dX8_wasted_21 : decode cX8_wasted 21 = .ok (.iadd, 1) := by decide +kernel
theorem dX8_wasted_22 : decode cX8_wasted 22 = .ok (.iaload, 1) := by decide +kernel
theorem dX8_wasted_23 : decode cX8_wasted 23 = .ok (.istore 4, 2) := by decide +kernel
theorem dX8_wasted_25 : decode cX8_wasted 25 = .ok (.iload 4, 2) := by decide +kernel
theorem dX8_wasted_27 : decode cX8_wasted 27 = .ok (.ifCond .ne 7, 3) := by decide +kernel
theorem dX8_wasted_30 : decode cX8_wasted 30 = .ok (.iconst (-1), 1) := by decide +kernel
theorem dX8_wasted_31 : decode cX8_wasted 31 = .ok (.goto 20, 3) := by decide +kernel
theorem dX8_wasted_34 : decode cX8_wasted 34 = .ok (.bipush 100, 2) := by decide +kernel
theorem dX8_wasted_36 : decode cX8_wasted 36 = .ok (.iload 4, 2) := by decide +kernel
theorem dX8_wasted_38 : decode cX8_wasted 38 = .ok (.imul, 1) := by decide +kernel
theorem dX8_wasted_39 : decode cX8_wasted 39 = .ok (.aload_n 0, 1) := by decide +kernel
theorem dX8_wasted_40 : decode cX8_wasted 40 = .ok (.getfield 7, 3) := by decide +kernel
theorem dX8_wasted_43 : decode cX8_wasted 43 = .ok (.iload_n 3, 1) := by decide +kernel
theorem dX8_wasted_44 : decode cX8_wasted 44 = .ok (.invokestatic 51, 3) := by decide +kernel
theorem dX8_wasted_47 : decode cX8_wasted 47 = .ok (.iconst 2, 1) := by decide +kernel
theorem dX8_wasted_48 : decode cX8_wasted 48 = .ok (.iadd, 1) := by decide +kernel
theorem dX8_wasted_49 : decode cX8_wasted 49 = .ok (.iaload, 1) := by decide +kernel
theorem dX8_wasted_50 : decode cX8_wasted 50 = .ok (.idiv, 1) := by decide +kernel
theorem dX8_wasted_51 : decode cX8_wasted 51 = .ok (.istore 5, 2) := by decide +kernel
theorem dX8_wasted_53 : decode cX8_wasted 53 = .ok (.iload 5, 2) := by decide +kernel
theorem dX8_wasted_55 : decode cX8_wasted 55 = .ok (.iload_n 2, 1) := by decide +kernel
theorem dX8_wasted_56 : decode cX8_wasted 56 = .ok (.if_icmp .le 7, 3) := by decide +kernel
theorem dX8_wasted_59 : decode cX8_wasted 59 = .ok (.iload_n 3, 1) := by decide +kernel
theorem dX8_wasted_60 : decode cX8_wasted 60 = .ok (.goto 4, 3) := by decide +kernel
theorem dX8_wasted_63 : decode cX8_wasted 63 = .ok (.iload_n 1, 1) := by decide +kernel
theorem dX8_wasted_64 : decode cX8_wasted 64 = .ok (.istore_n 1, 1) := by decide +kernel
theorem dX8_wasted_65 : decode cX8_wasted 65 = .ok (.iload 5, 2) := by decide +kernel
theorem dX8_wasted_67 : decode cX8_wasted 67 = .ok (.iload_n 2, 1) := by decide +kernel
theorem dX8_wasted_68 : decode cX8_wasted 68 = .ok (.if_icmp .le 8, 3) := by decide +kernel
theorem dX8_wasted_71 : decode cX8_wasted 71 = .ok (.iload 5, 2) := by decide +kernel
theorem dX8_wasted_73 : decode cX8_wasted 73 = .ok (.goto 4, 3) := by decide +kernel
theorem dX8_wasted_76 : decode cX8_wasted 76 = .ok (.iload_n 2, 1) := by decide +kernel
theorem dX8_wasted_77 : decode cX8_wasted 77 = .ok (.istore_n 2, 1) := by decide +kernel
theorem dX8_wasted_78 : decode cX8_wasted 78 = .ok (.iinc 3 1, 3) := by decide +kernel
theorem dX8_wasted_81 : decode cX8_wasted 81 = .ok (.goto (-74), 3) := by decide +kernel
theorem dX8_wasted_84 : decode cX8_wasted 84 = .ok (.iload_n 1, 1) := by decide +kernel
theorem dX8_wasted_85 : decode cX8_wasted 85 = .ok (.ireturn, 1) := by decide +kernel
theorem dX8_isSign_0 : decode cX8_isSign 0 = .ok (.aload_n 0, 1) := by decide +kernel
theorem dX8_isSign_1 : decode cX8_isSign 1 = .ok (.getfield 129, 3) := by decide +kernel
theorem dX8_isSign_4 : decode cX8_isSign 4 = .ok (.aload_n 0, 1) := by decide +kernel
theorem dX8_isSign_5 : decode cX8_isSign 5 = .ok (.getfield 125, 3) := by decide +kernel
theorem dX8_isSign_8 : decode cX8_isSign 8 = .ok (.if_icmp .ge 33, 3) := by decide +kernel
theorem dX8_isSign_11 : decode cX8_isSign 11 = .ok (.aload_n 0, 1) := by decide +kernel
theorem dX8_isSign_12 : decode cX8_isSign 12 = .ok (.getfield 29, 3) := by decide +kernel
theorem dX8_isSign_15 : decode cX8_isSign 15 = .ok (.aload_n 0, 1) := by decide +kernel
theorem dX8_isSign_16 : decode cX8_isSign 16 = .ok (.getfield 129, 3) := by decide +kernel
theorem dX8_isSign_19 : decode cX8_isSign 19 = .ok (.caload, 1) := by decide +kernel
theorem dX8_isSign_20 : decode cX8_isSign 20 = .ok (.iload_n 1, 1) := by decide +kernel
theorem dX8_isSign_21 : decode cX8_isSign 21 = .ok (.if_icmp .lt 20, 3) := by decide +kernel
theorem dX8_isSign_24 : decode cX8_isSign 24 = .ok (.aload_n 0, 1) := by decide +kernel
theorem dX8_isSign_25 : decode cX8_isSign 25 = .ok (.getfield 29, 3) := by decide +kernel
theorem dX8_isSign_28 : decode cX8_isSign 28 = .ok (.aload_n 0, 1) := by decide +kernel
theorem dX8_isSign_29 : decode cX8_isSign 29 = .ok (.getfield 129, 3) := by decide +kernel
theorem dX8_isSign_32 : decode cX8_isSign 32 = .ok (.caload, 1) := by decide +kernel
theorem dX8_isSign_33 : decode cX8_isSign 33 = .ok (.iload_n 2, 1) := by decide +kernel
theorem dX8_isSign_34 : decode cX8_isSign 34 = .ok (.if_icmp .gt 7, 3) := by decide +kernel
theorem dX8_isSign_37 : decode cX8_isSign 37 = .ok (.iconst 1, 1) := by decide +kernel
theorem dX8_isSign_38 : decode cX8_isSign 38 = .ok (.goto 4, 3) := by decide +kernel
theorem dX8_isSign_41 : decode cX8_isSign 41 = .ok (.iconst 0, 1) := by decide +kernel
theorem dX8_isSign_42 : decode cX8_isSign 42 = .ok (.ireturn, 1) := by decide +kernel
theorem dX8_accepts_0 : decode cX8_accepts 0 = .ok (.aload_n 0, 1) := by decide +kernel
theorem dX8_accepts_1 : decode cX8_accepts 1 = .ok (.iload_n 1, 1) := by decide +kernel
theorem dX8_accepts_2 : decode cX8_accepts 2 = .ok (.iload_n 1, 1) := by decide +kernel
theorem dX8_accepts_3 : decode cX8_accepts 3 = .ok (.invokevirtual 132, 3) := by decide +kernel
theorem dX8_accepts_6 : decode cX8_accepts 6 = .ok (.istore_n 2, 1) := by decide +kernel
theorem dX8_accepts_7 : decode cX8_accepts 7 = .ok (.aload_n 0, 1) := by decide +kernel
theorem dX8_accepts_8 : decode cX8_accepts 8 = .ok (.dup, 1) := by decide +kernel
theorem dX8_accepts_9 : decode cX8_accepts 9 = .ok (.getfield 129, 3) := by decide +kernel
theorem dX8_accepts_12 : decode cX8_accepts 12 = .ok (.iload_n 2, 1) := by decide +kernel
theorem dX8_accepts_13 : decode cX8_accepts 13 = .ok (.ifCond .eq 7, 3) := by decide +kernel
theorem dX8_accepts_16 : decode cX8_accepts 16 = .ok (.iconst 1, 1) := by decide +kernel
theorem dX8_accepts_17 : decode cX8_accepts 17 = .ok (.goto 4, 3) := by decide +kernel
theorem dX8_accepts_20 : decode cX8_accepts 20 = .ok (.iconst 0, 1) := by decide +kernel
theorem dX8_accepts_21 : decode cX8_accepts 21 = .ok (.iadd, 1) := by decide +kernel
theorem dX8_accepts_22 : decode cX8_accepts 22 = .ok (.putfield 129, 3) := by decide +kernel
theorem dX8_accepts_25 : decode cX8_accepts 25 = .ok (.iload_n 2, 1) := by decide +kernel
theorem dX8_accepts_26 : decode cX8_accepts 26 = .ok (.ireturn, 1) := by decide +kernel
theorem dX8_number_0 : decode cX8_number 0 = .ok (.iconst 4, 1) := by decide +kernel
theorem dX8_number_1 : decode cX8_number 1 = .ok (.aload_n 0, 1) := by decide +kernel
theorem dX8_number_2 : decode cX8_number 2 = .ok (.getfield 136, 3) := by decide +kernel
theorem dX8_number_5 : decode cX8_number 5 = .ok (.imul, 1) := by decide +kernel
theorem dX8_number_6 : decode cX8_number 6 = .ok (.iload_n 1, 1) := by decide +kernel
theorem dX8_number_7 : decode cX8_number 7 = .ok (.iadd, 1) := by decide +kernel
theorem dX8_number_8 : decode cX8_number 8 = .ok (.istore_n 2, 1) := by decide +kernel
theorem dX8_number_9 : decode cX8_number 9 = .ok (.aload_n 0, 1) := by decide +kernel
theorem dX8_number_10 : decode cX8_number 10 = .ok (.bipush 48, 2) := by decide +kernel
theorem dX8_number_12 : decode cX8_number 12 = .ok (.bipush 57, 2) := by decide +kernel
theorem dX8_number_14 : decode cX8_number 14 = .ok (.invokevirtual 132, 3) := by decide +kernel
theorem dX8_number_17 : decode cX8_number 17 = .ok (.ifCond .ne 5, 3) := by decide +kernel
theorem dX8_number_20 : decode cX8_number 20 = .ok (.iconst 0, 1) := by decide +kernel
theorem dX8_number_21 : decode cX8_number 21 = .ok (.ireturn, 1) := by decide +kernel
theorem dX8_number_22 : decode cX8_number 22 = .ok (.aload_n 0, 1) := by decide +kernel
theorem dX8_number_23 : decode cX8_number 23 = .ok (.getfield 26, 3) := by decide +kernel
theorem dX8_number_26 : decode cX8_number 26 = .ok (.iload_n 2, 1) := by decide +kernel
theorem dX8_number_27 : decode cX8_number 27 = .ok (.aload_n 0, 1) := by decide +kernel
theorem dX8_number_28 : decode cX8_number 28 = .ok (.getfield 29, 3) := by decide +kernel
theorem dX8_number_31 : decode cX8_number 31 = .ok (.aload_n 0, 1) := by decide +kernel
theorem dX8_number_32 : decode cX8_number 32 = .ok (.getfield 129, 3) := by decide +kernel
theorem dX8_number_35 : decode cX8_number 35 = .ok (.caload, 1) := by decide +kernel
theorem dX8_number_36 : decode cX8_number 36 = .ok (.bipush 48, 2) := by decide +kernel
theorem dX8_number_38 : decode cX8_number 38 = .ok (.isub, 1) := by decide +kernel
theorem dX8_number_39 : decode cX8_number 39 = .ok (.iastore, 1) := by decide +kernel
theorem dX8_number_40 : decode cX8_number 40 = .ok (.aload_n 0, 1) := by decide +kernel
theorem dX8_number_41 : decode cX8_number 41 = .ok (.dup, 1) := by decide +kernel
theorem dX8_number_42 : decode cX8_number 42 = .ok (.getfield 129, 3) := by decide +kernel
theorem dX8_number_45 : decode cX8_number 45 = .ok (.iconst 1, 1) := by decide +kernel
theorem dX8_number_46 : decode cX8_number 46 = .ok (.iadd, 1) := by decide +kernel
theorem dX8_number_47 : decode cX8_number 47 = .ok (.putfield 129, 3) := by decide +kernel
theorem dX8_number_50 : decode cX8_number 50 = .ok (.aload_n 0, 1) := by decide +kernel
theorem dX8_number_51 : decode cX8_number 51 = .ok (.getfield 26, 3) := by decide +kernel
theorem dX8_number_54 : decode cX8_number 54 = .ok (.iload_n 2, 1) := by decide +kernel
theorem dX8_number_55 : decode cX8_number 55 = .ok (.iaload, 1) := by decide +kernel
theorem dX8_number_56 : decode cX8_number 56 = .ok (.ifCond .le 52, 3) := by decide +kernel
theorem dX8_number_59 : decode cX8_number 59 = .ok (.aload_n 0, 1) := by decide +kernel
theorem dX8_number_60 : decode cX8_number 60 = .ok (.bipush 48, 2) := by decide +kernel
theorem dX8_number_62 : decode cX8_number 62 = .ok (.bipush 57, 2) := by decide +kernel
theorem dX8_number_64 : decode cX8_number 64 = .ok (.invokevirtual 132, 3) := by decide +kernel
theorem dX8_number_67 : decode cX8_number 67 = .ok (.ifCond .eq 41, 3) := by decide +kernel
theorem dX8_number_70 : decode cX8_number 70 = .ok (.aload_n 0, 1) := by decide +kernel
theorem dX8_number_71 : decode cX8_number 71 = .ok (.getfield 26, 3) := by decide +kernel
theorem dX8_number_74 : decode cX8_number 74 = .ok (.iload_n 2, 1) := by decide +kernel
theorem dX8_number_75 : decode cX8_number 75 = .ok (.bipush 10, 2) := by decide +kernel
theorem dX8_number_77 : decode cX8_number 77 = .ok (.aload_n 0, 1) := by decide +kernel
theorem dX8_number_78 : decode cX8_number 78 = .ok (.getfield 26, 3) := by decide +kernel
theorem dX8_number_81 : decode cX8_number 81 = .ok (.iload_n 2, 1) := by decide +kernel
theorem dX8_number_82 : decode cX8_number 82 = .ok (.iaload, 1) := by decide +kernel
theorem dX8_number_83 : decode cX8_number 83 = .ok (.imul, 1) := by decide +kernel
theorem dX8_number_84 : decode cX8_number 84 = .ok (.aload_n 0, 1) := by decide +kernel
theorem dX8_number_85 : decode cX8_number 85 = .ok (.getfield 29, 3) := by decide +kernel
theorem dX8_number_88 : decode cX8_number 88 = .ok (.aload_n 0, 1) := by decide +kernel
theorem dX8_number_89 : decode cX8_number 89 = .ok (.getfield 129, 3) := by decide +kernel
theorem dX8_number_92 : decode cX8_number 92 = .ok (.caload, 1) := by decide +kernel
theorem dX8_number_93 : decode cX8_number 93 = .ok (.iadd, 1) := by decide +kernel
theorem dX8_number_94 : decode cX8_number 94 = .ok (.bipush 48, 2) := by decide +kernel
theorem dX8_number_96 : decode cX8_number 96 = .ok (.isub, 1) := by decide +kernel
theorem dX8_number_97 : decode cX8_number 97 = .ok (.iastore, 1) := by decide +kernel
theorem dX8_number_98 : decode cX8_number 98 = .ok (.aload_n 0, 1) := by decide +kernel
theorem dX8_number_99 : decode cX8_number 99 = .ok (.dup, 1) := by decide +kernel
theorem dX8_number_100 : decode cX8_number 100 = .ok (.getfield 129, 3) := by decide +kernel
theorem dX8_number_103 : decode cX8_number 103 = .ok (.iconst 1, 1) := by decide +kernel
theorem dX8_number_104 : decode cX8_number 104 = .ok (.iadd, 1) := by decide +kernel
theorem dX8_number_105 : decode cX8_number 105 = .ok (.putfield 129, 3) := by decide +kernel
theorem dX8_number_108 : decode cX8_number 108 = .ok (.iconst 1, 1) := by decide +kernel
theorem dX8_number_109 : decode cX8_number 109 = .ok (.ireturn, 1) := by decide +kernel
theorem dX8_sign_0 : decode cX8_sign 0 = .ok (.aload_n 0, 1) := by decide +kernel
theorem dX8_sign_1 : decode cX8_sign 1 = .ok (.iload_n 2, 1) := by decide +kernel
theorem dX8_sign_2 : decode cX8_sign 2 = .ok (.iload_n 3, 1) := by decide +kernel
theorem dX8_sign_3 : decode cX8_sign 3 = .ok (.invokevirtual 132, 3) := by decide +kernel
theorem dX8_sign_6 : decode cX8_sign 6 = .ok (.istore 4, 2) := by decide +kernel
theorem dX8_sign_8 : decode cX8_sign 8 = .ok (.aload_n 0, 1) := by decide +kernel
theorem dX8_sign_9 : decode cX8_sign 9 = .ok (.getfield 26, 3) := by decide +kernel
theorem dX8_sign_12 : decode cX8_sign 12 = .ok (.iconst 4, 1) := by decide +kernel
theorem dX8_sign_13 : decode cX8_sign 13 = .ok (.aload_n 0, 1) := by decide +kernel
theorem dX8_sign_14 : decode cX8_sign 14 = .ok (.getfield 136, 3) := by decide +kernel
theorem dX8_sign_17 : decode cX8_sign 17 = .ok (.imul, 1) := by decide +kernel
theorem dX8_sign_18 : decode cX8_sign 18 = .ok (.iload_n 1, 1) := by decide +kernel
theorem dX8_sign_19 : decode cX8_sign 19 = .ok (.iadd, 1) := by decide +kernel
theorem dX8_sign_20 : decode cX8_sign 20 = .ok (.iload 4, 2) := by decide +kernel
theorem dX8_sign_22 : decode cX8_sign 22 = .ok (.ifCond .eq 17, 3) := by decide +kernel
theorem dX8_sign_25 : decode cX8_sign 25 = .ok (.aload_n 0, 1) := by decide +kernel
theorem dX8_sign_26 : decode cX8_sign 26 = .ok (.getfield 29, 3) := by decide +kernel
theorem dX8_sign_29 : decode cX8_sign 29 = .ok (.aload_n 0, 1) := by decide +kernel
theorem dX8_sign_30 : decode cX8_sign 30 = .ok (.getfield 129, 3) := by decide +kernel
theorem dX8_sign_33 : decode cX8_sign 33 = .ok (.caload, 1) := by decide +kernel
theorem dX8_sign_34 : decode cX8_sign 34 = .ok (.iload_n 2, 1) := by decide +kernel
theorem dX8_sign_35 : decode cX8_sign 35 = .ok (.isub, 1) := by decide +kernel
theorem dX8_sign_36 : decode cX8_sign 36 = .ok (.goto 4, 3) := by decide +kernel
theorem dX8_sign_39 : decode cX8_sign 39 = .ok (.iconst 0, 1) := by decide +kernel
theorem dX8_sign_40 : decode cX8_sign 40 = .ok (.iastore, 1) := by decide +kernel
theorem dX8_sign_41 : decode cX8_sign 41 = .ok (.aload_n 0, 1) := by decide +kernel
theorem dX8_sign_42 : decode cX8_sign 42 = .ok (.dup, 1) := by decide +kernel
theorem dX8_sign_43 : decode cX8_sign 43 = .ok (.getfield 129, 3) := by decide +kernel
theorem dX8_sign_46 : decode cX8_sign 46 = .ok (.iload 4, 2) := by decide +kernel
theorem dX8_sign_48 : decode cX8_sign 48 = .ok (.ifCond .eq 7, 3) := by decide +kernel
theorem dX8_sign_51 : decode cX8_sign 51 = .ok (.iconst 1, 1) := by decide +kernel
theorem dX8_sign_52 : decode cX8_sign 52 = .ok (.goto 4, 3) := by decide +kernel
theorem dX8_sign_55 : decode cX8_sign 55 = .ok (.iconst 0, 1) := by decide +kernel
theorem dX8_sign_56 : decode cX8_sign 56 = .ok (.iadd, 1) := by decide +kernel
theorem dX8_sign_57 : decode cX8_sign 57 = .ok (.putfield 129, 3) := by decide +kernel
theorem dX8_sign_60 : decode cX8_sign 60 = .ok (.iload 4, 2) := by decide +kernel
theorem dX8_sign_62 : decode cX8_sign 62 = .ok (.ireturn, 1) := by decide +kernel
theorem dX8_readsOrder_0 : decode cX8_readsOrder 0 = .ok (.iconst 4, 1) := by decide +kernel
theorem dX8_readsOrder_1 : decode cX8_readsOrder 1 = .ok (.aload_n 0, 1) := by decide +kernel
theorem dX8_readsOrder_2 : decode cX8_readsOrder 2 = .ok (.getfield 136, 3) := by decide +kernel
theorem dX8_readsOrder_5 : decode cX8_readsOrder 5 = .ok (.imul, 1) := by decide +kernel
theorem dX8_readsOrder_6 : decode cX8_readsOrder 6 = .ok (.istore_n 1, 1) := by decide +kernel
theorem dX8_readsOrder_7 : decode cX8_readsOrder 7 = .ok (.aload_n 0, 1) := by decide +kernel
theorem dX8_readsOrder_8 : decode cX8_readsOrder 8 = .ok (.getfield 26, 3) := by decide +kernel
theorem dX8_readsOrder_11 : decode cX8_readsOrder 11 = .ok (.iload_n 1, 1) := by decide +kernel
theorem dX8_readsOrder_12 : decode cX8_readsOrder 12 = .ok (.aload_n 0, 1) := by decide +kernel
theorem dX8_readsOrder_13 : decode cX8_readsOrder 13 = .ok (.getfield 129, 3) := by decide +kernel
theorem dX8_readsOrder_16 : decode cX8_readsOrder 16 = .ok (.aload_n 0, 1) := by decide +kernel
theorem dX8_readsOrder_17 : decode cX8_readsOrder 17 = .ok (.getfield 125, 3) := by decide +kernel
theorem dX8_readsOrder_20 : decode cX8_readsOrder 20 = .ok (.if_icmp .ge 15, 3) := by decide +kernel
theorem dX8_readsOrder_23 : decode cX8_readsOrder 23 = .ok (.aload_n 0, 1) := by decide +kernel
theorem dX8_readsOrder_24 : decode cX8_readsOrder 24 = .ok (.getfield 29, 3) := by decide +kernel
theorem dX8_readsOrder_27 : decode cX8_readsOrder 27 = .ok (.aload_n 0, 1) := by decide +kernel
theorem dX8_readsOrder_28 : decode cX8_readsOrder 28 = .ok (.getfield 129, 3) := by decide +kernel
theorem dX8_readsOrder_31 : decode cX8_readsOrder 31 = .ok (.caload, 1) := by decide +kernel
theorem dX8_readsOrder_32 : decode cX8_readsOrder 32 = .ok (.goto 4, 3) := by decide +kernel
theorem dX8_readsOrder_35 : decode cX8_readsOrder 35 = .ok (.iconst 0, 1) := by decide +kernel
theorem dX8_readsOrder_36 : decode cX8_readsOrder 36 = .ok (.iastore, 1) := by decide +kernel
theorem dX8_readsOrder_37 : decode cX8_readsOrder 37 = .ok (.aload_n 0, 1) := by decide +kernel
theorem dX8_readsOrder_38 : decode cX8_readsOrder 38 = .ok (.getfield 26, 3) := by decide +kernel
theorem dX8_readsOrder_41 : decode cX8_readsOrder 41 = .ok (.iload_n 1, 1) := by decide +kernel
theorem dX8_readsOrder_42 : decode cX8_readsOrder 42 = .ok (.iconst 2, 1) := by decide +kernel
theorem dX8_readsOrder_43 : decode cX8_readsOrder 43 = .ok (.iadd, 1) := by decide +kernel
theorem dX8_readsOrder_44 : decode cX8_readsOrder 44 = .ok (.iconst 0, 1) := by decide +kernel
theorem dX8_readsOrder_45 : decode cX8_readsOrder 45 = .ok (.iastore, 1) := by decide +kernel
theorem dX8_readsOrder_46 : decode cX8_readsOrder 46 = .ok (.aload_n 0, 1) := by decide +kernel
theorem dX8_readsOrder_47 : decode cX8_readsOrder 47 = .ok (.getfield 26, 3) := by decide +kernel
theorem dX8_readsOrder_50 : decode cX8_readsOrder 50 = .ok (.iload_n 1, 1) := by decide +kernel
theorem dX8_readsOrder_51 : decode cX8_readsOrder 51 = .ok (.iconst 3, 1) := by decide +kernel
theorem dX8_readsOrder_52 : decode cX8_readsOrder 52 = .ok (.iadd, 1) := by decide +kernel
theorem dX8_readsOrder_53 : decode cX8_readsOrder 53 = .ok (.iconst 0, 1) := by decide +kernel
theorem dX8_readsOrder_54 : decode cX8_readsOrder 54 = .ok (.iastore, 1) := by decide +kernel
theorem dX8_readsOrder_55 : decode cX8_readsOrder 55 = .ok (.aload_n 0, 1) := by decide +kernel
theorem dX8_readsOrder_56 : decode cX8_readsOrder 56 = .ok (.bipush 118, 2) := by decide +kernel
theorem dX8_readsOrder_58 : decode cX8_readsOrder 58 = .ok (.invokevirtual 139, 3) := by decide +kernel
theorem dX8_readsOrder_61 : decode cX8_readsOrder 61 = .ok (.ifCond .eq 37, 3) := by decide +kernel
theorem dX8_readsOrder_64 : decode cX8_readsOrder 64 = .ok (.aload_n 0, 1) := by decide +kernel
theorem dX8_readsOrder_65 : decode cX8_readsOrder 65 = .ok (.iconst 1, 1) := by decide +kernel
theorem dX8_readsOrder_66 : decode cX8_readsOrder 66 = .ok (.invokevirtual 143, 3) := by decide +kernel
theorem dX8_readsOrder_69 : decode cX8_readsOrder 69 = .ok (.ifCond .eq 24, 3) := by decide +kernel
theorem dX8_readsOrder_72 : decode cX8_readsOrder 72 = .ok (.aload_n 0, 1) := by decide +kernel
theorem dX8_readsOrder_73 : decode cX8_readsOrder 73 = .ok (.bipush 43, 2) := by decide +kernel
theorem dX8_readsOrder_75 : decode cX8_readsOrder 75 = .ok (.invokevirtual 139, 3) := by decide +kernel
theorem dX8_readsOrder_78 : decode cX8_readsOrder 78 = .ok (.ifCond .eq 15, 3) := by decide +kernel
theorem dX8_readsOrder_81 : decode cX8_readsOrder 81 = .ok (.aload_n 0, 1) := by decide +kernel
theorem dX8_readsOrder_82 : decode cX8_readsOrder 82 = .ok (.iconst 2, 1) := by decide +kernel
theorem dX8_readsOrder_83 : decode cX8_readsOrder 83 = .ok (.invokevirtual 143, 3) := by decide +kernel
theorem dX8_readsOrder_86 : decode cX8_readsOrder 86 = .ok (.ifCond .eq 7, 3) := by decide +kernel
theorem dX8_readsOrder_89 : decode cX8_readsOrder 89 = .ok (.iconst 1, 1) := by decide +kernel
theorem dX8_readsOrder_90 : decode cX8_readsOrder 90 = .ok (.goto 4, 3) := by decide +kernel
theorem dX8_readsOrder_93 : decode cX8_readsOrder 93 = .ok (.iconst 0, 1) := by decide +kernel
theorem dX8_readsOrder_94 : decode cX8_readsOrder 94 = .ok (.istore_n 2, 1) := by decide +kernel
theorem dX8_readsOrder_95 : decode cX8_readsOrder 95 = .ok (.goto 142, 3) := by decide +kernel
theorem dX8_readsOrder_98 : decode cX8_readsOrder 98 = .ok (.aload_n 0, 1) := by decide +kernel
theorem dX8_readsOrder_99 : decode cX8_readsOrder 99 = .ok (.bipush 111, 2) := by decide +kernel
theorem dX8_readsOrder_101 : decode cX8_readsOrder 101 = .ok (.invokevirtual 139, 3) := by decide +kernel
theorem dX8_readsOrder_104 : decode cX8_readsOrder 104 = .ok (.ifCond .eq 53, 3) := by decide +kernel
theorem dX8_readsOrder_107 : decode cX8_readsOrder 107 = .ok (.aload_n 0, 1) := by decide +kernel
theorem dX8_readsOrder_108 : decode cX8_readsOrder 108 = .ok (.iconst 1, 1) := by decide +kernel
theorem dX8_readsOrder_109 : decode cX8_readsOrder 109 = .ok (.invokevirtual 143, 3) := by decide +kernel
theorem dX8_readsOrder_112 : decode cX8_readsOrder 112 = .ok (.ifCond .eq 40, 3) := by decide +kernel
theorem dX8_readsOrder_115 : decode cX8_readsOrder 115 = .ok (.aload_n 0, 1) := by decide +kernel
theorem dX8_readsOrder_116 : decode cX8_readsOrder 116 = .ok (.iconst 2, 1) := by decide +kernel
theorem dX8_readsOrder_117 : decode cX8_readsOrder 117 = .ok (.bipush 97, 2) := by decide +kernel
theorem dX8_readsOrder_119 : decode cX8_readsOrder 119 = .ok (.bipush 99, 2) := by decide +kernel
theorem dX8_readsOrder_121 : decode cX8_readsOrder 121 = .ok (.invokevirtual 146, 3) := by decide +kernel
theorem dX8_readsOrder_124 : decode cX8_readsOrder 124 = .ok (.ifCond .eq 28, 3) := by decide +kernel
theorem dX8_readsOrder_127 : decode cX8_readsOrder 127 = .ok (.aload_n 0, 1) := by decide +kernel
theorem dX8_readsOrder_128 : decode cX8_readsOrder 128 = .ok (.bipush 43, 2) := by decide +kernel
theorem dX8_readsOrder_130 : decode cX8_readsOrder 130 = .ok (.invokevirtual 139, 3) := by decide +kernel
theorem dX8_readsOrder_133 : decode cX8_readsOrder 133 = .ok (.ifCond .eq 15, 3) := by decide +kernel
theorem dX8_readsOrder_136 : decode cX8_readsOrder 136 = .ok (.aload_n 0, 1) := by decide +kernel
theorem dX8_readsOrder_137 : decode cX8_readsOrder 137 = .ok (.iconst 3, 1) := by decide +kernel
theorem dX8_readsOrder_138 : decode cX8_readsOrder 138 = .ok (.bipush 48, 2) := by decide +kernel
theorem dX8_readsOrder_140 : decode cX8_readsOrder 140 = .ok (.bipush 57, 2) := by decide +kernel
theorem dX8_readsOrder_142 : decode cX8_readsOrder 142 = .ok (.invokevirtual 146, 3) := by decide +kernel
theorem dX8_readsOrder_145 : decode cX8_readsOrder 145 = .ok (.ifCond .eq 7, 3) := by decide +kernel
theorem dX8_readsOrder_148 : decode cX8_readsOrder 148 = .ok (.iconst 1, 1) := by decide +kernel
theorem dX8_readsOrder_149 : decode cX8_readsOrder 149 = .ok (.goto 4, 3) := by decide +kernel
theorem dX8_readsOrder_152 : decode cX8_readsOrder 152 = .ok (.iconst 0, 1) := by decide +kernel
theorem dX8_readsOrder_153 : decode cX8_readsOrder 153 = .ok (.istore_n 2, 1) := by decide +kernel
theorem dX8_readsOrder_154 : decode cX8_readsOrder 154 = .ok (.goto 83, 3) := by decide +kernel
theorem dX8_readsOrder_157 : decode cX8_readsOrder 157 = .ok (.aload_n 0, 1) := by decide +kernel
theorem dX8_readsOrder_158 : decode cX8_readsOrder 158 = .ok (.bipush 99, 2) := by decide +kernel
theorem dX8_readsOrder_160 : decode cX8_readsOrder 160 = .ok (.invokevirtual 139, 3) := by decide +kernel
theorem dX8_readsOrder_163 : decode cX8_readsOrder 163 = .ok (.ifCond .eq 41, 3) := by decide +kernel
theorem dX8_readsOrder_166 : decode cX8_readsOrder 166 = .ok (.aload_n 0, 1) := by decide +kernel
theorem dX8_readsOrder_167 : decode cX8_readsOrder 167 = .ok (.iconst 1, 1) := by decide +kernel
theorem dX8_readsOrder_168 : decode cX8_readsOrder 168 = .ok (.invokevirtual 143, 3) := by decide +kernel
theorem dX8_readsOrder_171 : decode cX8_readsOrder 171 = .ok (.istore_n 2, 1) := by decide +kernel
theorem dX8_readsOrder_172 : decode cX8_readsOrder 172 = .ok (.aload_n 0, 1) := by decide +kernel
theorem dX8_readsOrder_173 : decode cX8_readsOrder 173 = .ok (.getfield 26, 3) := by decide +kernel
theorem dX8_readsOrder_176 : decode cX8_readsOrder 176 = .ok (.iload_n 1, 1) := by decide +kernel
theorem dX8_readsOrder_177 : decode cX8_readsOrder 177 = .ok (.iconst 3, 1) := by decide +kernel
theorem dX8_readsOrder_178 : decode cX8_readsOrder 178 = .ok (.iadd, 1) := by decide +kernel
theorem dX8_readsOrder_179 : decode cX8_readsOrder 179 = .ok (.iload_n 2, 1) := by decide +kernel
theorem dX8_readsOrder_180 : decode cX8_readsOrder 180 = .ok (.ifCond .eq 19, 3) := by decide +kernel
theorem dX8_readsOrder_183 : decode cX8_readsOrder 183 = .ok (.aload_n 0, 1) := by decide +kernel
theorem dX8_readsOrder_184 : decode cX8_readsOrder 184 = .ok (.iconst 2, 1) := by decide +kernel
theorem dX8_readsOrder_185 : decode cX8_readsOrder 185 = .ok (.bipush 97, 2) := by decide +kernel
theorem dX8_readsOrder_187 : decode cX8_readsOrder 187 = .ok (.bipush 99, 2) := by decide +kernel
theorem dX8_readsOrder_189 : decode cX8_readsOrder 189 = .ok (.invokevirtual 146, 3) := by decide +kernel
theorem dX8_readsOrder_192 : decode cX8_readsOrder 192 = .ok (.ifCond .eq 7, 3) := by decide +kernel
theorem dX8_readsOrder_195 : decode cX8_readsOrder 195 = .ok (.iconst 1, 1) := by decide +kernel
theorem dX8_readsOrder_196 : decode cX8_readsOrder 196 = .ok (.goto 4, 3) := by decide +kernel
theorem dX8_readsOrder_199 : decode cX8_readsOrder 199 = .ok (.iconst 0, 1) := by decide +kernel
theorem dX8_readsOrder_200 : decode cX8_readsOrder 200 = .ok (.iastore, 1) := by decide +kernel
theorem dX8_readsOrder_201 : decode cX8_readsOrder 201 = .ok (.goto 36, 3) := by decide +kernel
theorem dX8_readsOrder_204 : decode cX8_readsOrder 204 = .ok (.aload_n 0, 1) := by decide +kernel
theorem dX8_readsOrder_205 : decode cX8_readsOrder 205 = .ok (.bipush 112, 2) := by decide +kernel
theorem dX8_readsOrder_207 : decode cX8_readsOrder 207 = .ok (.invokevirtual 139, 3) := by decide +kernel
theorem dX8_readsOrder_210 : decode cX8_readsOrder 210 = .ok (.ifCond .ne 21, 3) := by decide +kernel
theorem dX8_readsOrder_213 : decode cX8_readsOrder 213 = .ok (.aload_n 0, 1) := by decide +kernel
theorem dX8_readsOrder_214 : decode cX8_readsOrder 214 = .ok (.bipush 107, 2) := by decide +kernel
theorem dX8_readsOrder_216 : decode cX8_readsOrder 216 = .ok (.invokevirtual 139, 3) := by decide +kernel
theorem dX8_readsOrder_219 : decode cX8_readsOrder 219 = .ok (.ifCond .ne 12, 3) := by decide +kernel
theorem dX8_readsOrder_222 : decode cX8_readsOrder 222 = .ok (.aload_n 0, 1) := by decide +kernel
theorem dX8_readsOrder_223 : decode cX8_readsOrder 223 = .ok (.bipush 120, 2) := by decide +kernel
theorem dX8_readsOrder_225 : decode cX8_readsOrder 225 = .ok (.invokevirtual 139, 3) := by decide +kernel
theorem dX8_readsOrder_228 : decode cX8_readsOrder 228 = .ok (.ifCond .eq 7, 3) := by decide +kernel
theorem dX8_readsOrder_231 : decode cX8_readsOrder 231 = .ok (.iconst 1, 1) := by decide +kernel
theorem dX8_readsOrder_232 : decode cX8_readsOrder 232 = .ok (.goto 4, 3) := by decide +kernel
theorem dX8_readsOrder_235 : decode cX8_readsOrder 235 = .ok (.iconst 0, 1) := by decide +kernel
theorem dX8_readsOrder_236 : decode cX8_readsOrder 236 = .ok (.istore_n 2, 1) := by decide +kernel
theorem dX8_readsOrder_237 : decode cX8_readsOrder 237 = .ok (.aload_n 0, 1) := by decide +kernel
theorem dX8_readsOrder_238 : decode cX8_readsOrder 238 = .ok (.dup, 1) := by decide +kernel
theorem dX8_readsOrder_239 : decode cX8_readsOrder 239 = .ok (.getfield 136, 3) := by decide +kernel
theorem dX8_readsOrder_242 : decode cX8_readsOrder 242 = .ok (.iload_n 2, 1) := by decide +kernel
theorem dX8_readsOrder_243 : decode cX8_readsOrder 243 = .ok (.ifCond .eq 7, 3) := by decide +kernel
theorem dX8_readsOrder_246 : decode cX8_readsOrder 246 = .ok (.iconst 1, 1) := by decide +kernel
theorem dX8_readsOrder_247 : decode cX8_readsOrder 247 = .ok (.goto 4, 3) := by decide +kernel
theorem dX8_readsOrder_250 : decode cX8_readsOrder 250 = .ok (.iconst 0, 1) := by decide +kernel
theorem dX8_readsOrder_251 : decode cX8_readsOrder 251 = .ok (.iadd, 1) := by decide +kernel
theorem dX8_readsOrder_252 : decode cX8_readsOrder 252 = .ok (.putfield 136, 3) := by decide +kernel
theorem dX8_readsOrder_255 : decode cX8_readsOrder 255 = .ok (.iload_n 2, 1) := by decide +kernel
theorem dX8_readsOrder_256 : decode cX8_readsOrder 256 = .ok (.ireturn, 1) := by decide +kernel
theorem dX8_faultOf_0 : decode cX8_faultOf 0 = .ok (.aload_n 0, 1) := by decide +kernel
theorem dX8_faultOf_1 : decode cX8_faultOf 1 = .ok (.iconst 0, 1) := by decide +kernel
theorem dX8_faultOf_2 : decode cX8_faultOf 2 = .ok (.putfield 129, 3) := by decide +kernel
theorem dX8_faultOf_5 : decode cX8_faultOf 5 = .ok (.aload_n 0, 1) := by decide +kernel
theorem dX8_faultOf_6 : decode cX8_faultOf 6 = .ok (.iconst 0, 1) := by decide +kernel
theorem dX8_faultOf_7 : decode cX8_faultOf 7 = .ok (.putfield 136, 3) := by decide +kernel
theorem dX8_faultOf_10 : decode cX8_faultOf 10 = .ok (.aload_n 0, 1) := by decide +kernel
theorem dX8_faultOf_11 : decode cX8_faultOf 11 = .ok (.invokevirtual 150, 3) := by decide +kernel
theorem dX8_faultOf_14 : decode cX8_faultOf 14 = .ok (.istore_n 1, 1) := by decide +kernel
theorem dX8_faultOf_15 : decode cX8_faultOf 15 = .ok (.iload_n 1, 1) := by decide +kernel
theorem dX8_faultOf_16 : decode cX8_faultOf 16 = .ok (.ifCond .eq 39, 3) := by decide +kernel
theorem dX8_faultOf_19 : decode cX8_faultOf 19 = .ok (.aload_n 0, 1) := by decide +kernel
theorem dX8_faultOf_20 : decode cX8_faultOf 20 = .ok (.getfield 129, 3) := by decide +kernel
theorem dX8_faultOf_23 : decode cX8_faultOf 23 = .ok (.aload_n 0, 1) := by decide +kernel
theorem dX8_faultOf_24 : decode cX8_faultOf 24 = .ok (.getfield 125, 3) := by decide +kernel
theorem dX8_faultOf_27 : decode cX8_faultOf 27 = .ok (.if_icmp .ge 28, 3) := by decide +kernel
theorem dX8_faultOf_30 : decode cX8_faultOf 30 = .ok (.aload_n 0, 1) := by decide +kernel
theorem dX8_faultOf_31 : decode cX8_faultOf 31 = .ok (.bipush 59, 2) := by decide +kernel
theorem dX8_faultOf_33 : decode cX8_faultOf 33 = .ok (.invokevirtual 139, 3) := by decide +kernel
theorem dX8_faultOf_36 : decode cX8_faultOf 36 = .ok (.ifCond .eq 14, 3) := by decide +kernel
theorem dX8_faultOf_39 : decode cX8_faultOf 39 = .ok (.aload_n 0, 1) := by decide +kernel
theorem dX8_faultOf_40 : decode cX8_faultOf 40 = .ok (.invokevirtual 150, 3) := by decide +kernel
theorem dX8_faultOf_43 : decode cX8_faultOf 43 = .ok (.ifCond .eq 7, 3) := by decide +kernel
theorem dX8_faultOf_46 : decode cX8_faultOf 46 = .ok (.iconst 1, 1) := by decide +kernel
theorem dX8_faultOf_47 : decode cX8_faultOf 47 = .ok (.goto 4, 3) := by decide +kernel
theorem dX8_faultOf_50 : decode cX8_faultOf 50 = .ok (.iconst 0, 1) := by decide +kernel
theorem dX8_faultOf_51 : decode cX8_faultOf 51 = .ok (.istore_n 1, 1) := by decide +kernel
theorem dX8_faultOf_52 : decode cX8_faultOf 52 = .ok (.goto (-37), 3) := by decide +kernel
theorem dX8_faultOf_55 : decode cX8_faultOf 55 = .ok (.iload_n 1, 1) := by decide +kernel
theorem dX8_faultOf_56 : decode cX8_faultOf 56 = .ok (.ifCond .eq 7, 3) := by decide +kernel
theorem dX8_faultOf_59 : decode cX8_faultOf 59 = .ok (.iconst (-1), 1) := by decide +kernel
theorem dX8_faultOf_60 : decode cX8_faultOf 60 = .ok (.goto 7, 3) := by decide +kernel
theorem dX8_faultOf_63 : decode cX8_faultOf 63 = .ok (.aload_n 0, 1) := by decide +kernel
theorem dX8_faultOf_64 : decode cX8_faultOf 64 = .ok (.getfield 129, 3) := by decide +kernel
theorem dX8_faultOf_67 : decode cX8_faultOf 67 = .ok (.ireturn, 1) := by decide +kernel
theorem dX8_does_0 : decode cX8_does 0 = .ok (.iconst 4, 1) := by decide +kernel
theorem dX8_does_1 : decode cX8_does 1 = .ok (.iload_n 1, 1) := by decide +kernel
theorem dX8_does_2 : decode cX8_does 2 = .ok (.imul, 1) := by decide +kernel
theorem dX8_does_3 : decode cX8_does 3 = .ok (.istore_n 2, 1) := by decide +kernel
theorem dX8_does_4 : decode cX8_does 4 = .ok (.aload_n 0, 1) := by decide +kernel
theorem dX8_does_5 : decode cX8_does 5 = .ok (.getfield 26, 3) := by decide +kernel
theorem dX8_does_8 : decode cX8_does 8 = .ok (.iload_n 2, 1) := by decide +kernel
theorem dX8_does_9 : decode cX8_does 9 = .ok (.iaload, 1) := by decide +kernel
theorem dX8_does_10 : decode cX8_does 10 = .ok (.lookupswitch 158 #[(99, 105), (107, 153), (111, 76), (112, 50), (118, 55)], 50) := by decide +kernel
theorem dX8_does_60 : decode cX8_does 60 = .ok (.aload_n 0, 1) := by decide +kernel
theorem dX8_does_61 : decode cX8_does 61 = .ok (.invokevirtual 94, 3) := by decide +kernel
theorem dX8_does_64 : decode cX8_does 64 = .ok (.ireturn, 1) := by decide +kernel
theorem dX8_does_65 : decode cX8_does 65 = .ok (.aload_n 0, 1) := by decide +kernel
theorem dX8_does_66 : decode cX8_does 66 = .ok (.aload_n 0, 1) := by decide +kernel
theorem dX8_does_67 : decode cX8_does 67 = .ok (.getfield 26, 3) := by decide +kernel
theorem dX8_does_70 : decode cX8_does 70 = .ok (.iload_n 2, 1) := by decide +kernel
theorem dX8_does_71 : decode cX8_does 71 = .ok (.iconst 1, 1) := by decide +kernel
theorem dX8_does_72 : decode cX8_does 72 = .ok (.iadd, 1) := by decide +kernel
theorem dX8_does_73 : decode cX8_does 73 = .ok (.iaload, 1) := by decide +kernel
theorem dX8_does_74 : decode cX8_does 74 = .ok (.aload_n 0, 1) := by decide +kernel
theorem dX8_does_75 : decode cX8_does 75 = .ok (.getfield 26, 3) := by decide +kernel
theorem dX8_does_78 : decode cX8_does 78 = .ok (.iload_n 2, 1) := by decide +kernel
theorem dX8_does_79 : decode cX8_does 79 = .ok (.iconst 2, 1) := by decide +kernel
theorem dX8_does_80 : decode cX8_does 80 = .ok (.iadd, 1) := by decide +kernel
theorem dX8_does_81 : decode cX8_does 81 = .ok (.iaload, 1) := by decide +kernel
theorem dX8_does_82 : decode cX8_does 82 = .ok (.invokevirtual 98, 3) := by decide +kernel
theorem dX8_does_85 : decode cX8_does 85 = .ok (.ireturn, 1) := by decide +kernel
theorem dX8_does_86 : decode cX8_does 86 = .ok (.aload_n 0, 1) := by decide +kernel
theorem dX8_does_87 : decode cX8_does 87 = .ok (.aload_n 0, 1) := by decide +kernel
theorem dX8_does_88 : decode cX8_does 88 = .ok (.getfield 26, 3) := by decide +kernel
theorem dX8_does_91 : decode cX8_does 91 = .ok (.iload_n 2, 1) := by decide +kernel
theorem dX8_does_92 : decode cX8_does 92 = .ok (.iconst 1, 1) := by decide +kernel
theorem dX8_does_93 : decode cX8_does 93 = .ok (.iadd, 1) := by decide +kernel
theorem dX8_does_94 : decode cX8_does 94 = .ok (.iaload, 1) := by decide +kernel
theorem dX8_does_95 : decode cX8_does 95 = .ok (.aload_n 0, 1) := by decide +kernel
theorem dX8_does_96 : decode cX8_does 96 = .ok (.getfield 26, 3) := by decide +kernel
theorem dX8_does_99 : decode cX8_does 99 = .ok (.iload_n 2, 1) := by decide +kernel
theorem dX8_does_100 : decode cX8_does 100 = .ok (.iconst 3, 1) := by decide +kernel
theorem dX8_does_101 : decode cX8_does 101 = .ok (.iadd, 1) := by decide +kernel
theorem dX8_does_102 : decode cX8_does 102 = .ok (.iaload, 1) := by decide +kernel
theorem dX8_does_103 : decode cX8_does 103 = .ok (.aload_n 0, 1) := by decide +kernel
theorem dX8_does_104 : decode cX8_does 104 = .ok (.getfield 26, 3) := by decide +kernel
theorem dX8_does_107 : decode cX8_does 107 = .ok (.iload_n 2, 1) := by decide +kernel
theorem dX8_does_108 : decode cX8_does 108 = .ok (.iconst 2, 1) := by decide +kernel
theorem dX8_does_109 : decode cX8_does 109 = .ok (.iadd, 1) := by decide +kernel
theorem dX8_does_110 : decode cX8_does 110 = .ok (.iaload, 1) := by decide +kernel
theorem dX8_does_111 : decode cX8_does 111 = .ok (.invokevirtual 101, 3) := by decide +kernel
theorem dX8_does_114 : decode cX8_does 114 = .ok (.ireturn, 1) := by decide +kernel
theorem dX8_does_115 : decode cX8_does 115 = .ok (.aload_n 0, 1) := by decide +kernel
theorem dX8_does_116 : decode cX8_does 116 = .ok (.getfield 26, 3) := by decide +kernel
theorem dX8_does_119 : decode cX8_does 119 = .ok (.iload_n 2, 1) := by decide +kernel
theorem dX8_does_120 : decode cX8_does 120 = .ok (.iconst 3, 1) := by decide +kernel
theorem dX8_does_121 : decode cX8_does 121 = .ok (.iadd, 1) := by decide +kernel
theorem dX8_does_122 : decode cX8_does 122 = .ok (.iaload, 1) := by decide +kernel
theorem dX8_does_123 : decode cX8_does 123 = .ok (.iconst 1, 1) := by decide +kernel
theorem dX8_does_124 : decode cX8_does 124 = .ok (.if_icmp .ne 26, 3) := by decide +kernel
theorem dX8_does_127 : decode cX8_does 127 = .ok (.aload_n 0, 1) := by decide +kernel
theorem dX8_does_128 : decode cX8_does 128 = .ok (.aload_n 0, 1) := by decide +kernel
theorem dX8_does_129 : decode cX8_does 129 = .ok (.getfield 26, 3) := by decide +kernel
theorem dX8_does_132 : decode cX8_does 132 = .ok (.iload_n 2, 1) := by decide +kernel
theorem dX8_does_133 : decode cX8_does 133 = .ok (.iconst 1, 1) := by decide +kernel
theorem dX8_does_134 : decode cX8_does 134 = .ok (.iadd, 1) := by decide +kernel
theorem dX8_does_135 : decode cX8_does 135 = .ok (.iaload, 1) := by decide +kernel
theorem dX8_does_136 : decode cX8_does 136 = .ok (.aload_n 0, 1) := by decide +kernel
theorem dX8_does_137 : decode cX8_does 137 = .ok (.getfield 26, 3) := by decide +kernel
theorem dX8_does_140 : decode cX8_does 140 = .ok (.iload_n 2, 1) := by decide +kernel
theorem dX8_does_141 : decode cX8_does 141 = .ok (.iconst 2, 1) := by decide +kernel
theorem dX8_does_142 : decode cX8_does 142 = .ok (.iadd, 1) := by decide +kernel
theorem dX8_does_143 : decode cX8_does 143 = .ok (.iaload, 1) := by decide +kernel
theorem dX8_does_144 : decode cX8_does 144 = .ok (.invokevirtual 110, 3) := by decide +kernel
theorem dX8_does_147 : decode cX8_does 147 = .ok (.goto 15, 3) := by decide +kernel
theorem dX8_does_150 : decode cX8_does 150 = .ok (.aload_n 0, 1) := by decide +kernel
theorem dX8_does_151 : decode cX8_does 151 = .ok (.aload_n 0, 1) := by decide +kernel
theorem dX8_does_152 : decode cX8_does 152 = .ok (.getfield 26, 3) := by decide +kernel
theorem dX8_does_155 : decode cX8_does 155 = .ok (.iload_n 2, 1) := by decide +kernel
theorem dX8_does_156 : decode cX8_does 156 = .ok (.iconst 1, 1) := by decide +kernel
theorem dX8_does_157 : decode cX8_does 157 = .ok (.iadd, 1) := by decide +kernel
theorem dX8_does_158 : decode cX8_does 158 = .ok (.iaload, 1) := by decide +kernel
theorem dX8_does_159 : decode cX8_does 159 = .ok (.invokevirtual 107, 3) := by decide +kernel
theorem dX8_does_162 : decode cX8_does 162 = .ok (.ireturn, 1) := by decide +kernel
theorem dX8_does_163 : decode cX8_does 163 = .ok (.aload_n 0, 1) := by decide +kernel
theorem dX8_does_164 : decode cX8_does 164 = .ok (.invokevirtual 104, 3) := by decide +kernel
theorem dX8_does_167 : decode cX8_does 167 = .ok (.ireturn, 1) := by decide +kernel
theorem dX8_does_168 : decode cX8_does 168 = .ok (.aload_n 0, 1) := by decide +kernel
theorem dX8_does_169 : decode cX8_does 169 = .ok (.invokevirtual 113, 3) := by decide +kernel
theorem dX8_does_172 : decode cX8_does 172 = .ok (.ireturn, 1) := by decide +kernel
theorem dX8_put_0 : decode cX8_put 0 = .ok (.iconst 0, 1) := by decide +kernel
theorem dX8_put_1 : decode cX8_put 1 = .ok (.istore_n 3, 1) := by decide +kernel
theorem dX8_put_2 : decode cX8_put 2 = .ok (.lload_n 1, 1) := by decide +kernel
theorem dX8_put_3 : decode cX8_put 3 = .ok (.lstore 4, 2) := by decide +kernel
theorem dX8_put_5 : decode cX8_put 5 = .ok (.iload_n 3, 1) := by decide +kernel
theorem dX8_put_6 : decode cX8_put 6 = .ok (.bipush 8, 2) := by decide +kernel
theorem dX8_put_8 : decode cX8_put 8 = .ok (.if_icmp .ge 52, 3) := by decide +kernel
theorem dX8_put_11 : decode cX8_put 11 = .ok (.lload 4, 2) := by decide +kernel
theorem dX8_put_13 : decode cX8_put 13 = .ok (.lconst 0, 1) := by decide +kernel
theorem dX8_put_14 : decode cX8_put 14 = .ok (.lcmp, 1) := by decide +kernel
theorem dX8_put_15 : decode cX8_put 15 = .ok (.ifCond .eq 45, 3) := by decide +kernel
theorem dX8_put_18 : decode cX8_put 18 = .ok (.lload 4, 2) := by decide +kernel
theorem dX8_put_20 : decode cX8_put 20 = .ok (.ldc2_w 154, 3) := by decide +kernel
theorem dX8_put_23 : decode cX8_put 23 = .ok (.land, 1) := by decide +kernel
theorem dX8_put_24 : decode cX8_put 24 = .ok (.lstore 6, 2) := by decide +kernel
theorem dX8_put_26 : decode cX8_put 26 = .ok (.lload 6, 2) := by decide +kernel
theorem dX8_put_28 : decode cX8_put 28 = .ok (.ldc2_w 156, 3) := by decide +kernel
theorem dX8_put_31 : decode cX8_put 31 = .ok (.lcmp, 1) := by decide +kernel
theorem dX8_put_32 : decode cX8_put 32 = .ok (.ifCond .lt 12, 3) := by decide +kernel
theorem dX8_put_35 : decode cX8_put 35 = .ok (.lload 6, 2) := by decide +kernel
theorem dX8_put_37 : decode cX8_put 37 = .ok (.ldc2_w 158, 3) := by decide +kernel
theorem dX8_put_40 : decode cX8_put 40 = .ok (.lcmp, 1) := by decide +kernel
theorem dX8_put_41 : decode cX8_put 41 = .ok (.ifCond .le 6, 3) := by decide +kernel
theorem dX8_put_44 : decode cX8_put 44 = .ok (.bipush (-2), 2) := by decide +kernel
theorem dX8_put_46 : decode cX8_put 46 = .ok (.ireturn, 1) := by decide +kernel
theorem dX8_put_47 : decode cX8_put 47 = .ok (.lload 4, 2) := by decide +kernel
theorem dX8_put_49 : decode cX8_put 49 = .ok (.bipush 8, 2) := by decide +kernel
theorem dX8_put_51 : decode cX8_put 51 = .ok (.lushr, 1) := by decide +kernel
theorem dX8_put_52 : decode cX8_put 52 = .ok (.lstore 4, 2) := by decide +kernel
theorem dX8_put_54 : decode cX8_put 54 = .ok (.iinc 3 1, 3) := by decide +kernel
theorem dX8_put_57 : decode cX8_put 57 = .ok (.goto (-52), 3) := by decide +kernel
theorem dX8_put_60 : decode cX8_put 60 = .ok (.iload_n 3, 1) := by decide +kernel
theorem dX8_put_61 : decode cX8_put 61 = .ok (.ifCond .ne 6, 3) := by decide +kernel
theorem dX8_put_64 : decode cX8_put 64 = .ok (.bipush (-2), 2) := by decide +kernel
theorem dX8_put_66 : decode cX8_put 66 = .ok (.ireturn, 1) := by decide +kernel
theorem dX8_put_67 : decode cX8_put 67 = .ok (.aload_n 0, 1) := by decide +kernel
theorem dX8_put_68 : decode cX8_put 68 = .ok (.getfield 125, 3) := by decide +kernel
theorem dX8_put_71 : decode cX8_put 71 = .ok (.iload_n 3, 1) := by decide +kernel
theorem dX8_put_72 : decode cX8_put 72 = .ok (.iadd, 1) := by decide +kernel
theorem dX8_put_73 : decode cX8_put 73 = .ok (.bipush 80, 2) := by decide +kernel
theorem dX8_put_75 : decode cX8_put 75 = .ok (.if_icmp .le 6, 3) := by decide +kernel
theorem dX8_put_78 : decode cX8_put 78 = .ok (.bipush (-4), 2) := by decide +kernel
theorem dX8_put_80 : decode cX8_put 80 = .ok (.ireturn, 1) := by decide +kernel
theorem dX8_put_81 : decode cX8_put 81 = .ok (.iload_n 3, 1) := by decide +kernel
theorem dX8_put_82 : decode cX8_put 82 = .ok (.iconst 1, 1) := by decide +kernel
theorem dX8_put_83 : decode cX8_put 83 = .ok (.isub, 1) := by decide +kernel
theorem dX8_put_84 : decode cX8_put 84 = .ok (.istore 6, 2) := by decide +kernel
theorem dX8_put_86 : decode cX8_put 86 = .ok (.iload 6, 2) := by decide +kernel
theorem dX8_put_88 : decode cX8_put 88 = .ok (.ifCond .lt 41, 3) := by decide +kernel
theorem dX8_put_91 : decode cX8_put 91 = .ok (.aload_n 0, 1) := by decide +kernel
theorem dX8_put_92 : decode cX8_put 92 = .ok (.getfield 29, 3) := by decide +kernel
theorem dX8_put_95 : decode cX8_put 95 = .ok (.aload_n 0, 1) := by decide +kernel
theorem dX8_put_96 : decode cX8_put 96 = .ok (.getfield 125, 3) := by decide +kernel
theorem dX8_put_99 : decode cX8_put 99 = .ok (.lload_n 1, 1) := by decide +kernel
theorem dX8_put_100 : decode cX8_put 100 = .ok (.bipush 8, 2) := by decide +kernel
theorem dX8_put_102 : decode cX8_put 102 = .ok (.iload 6, 2) := by decide +kernel
theorem dX8_put_104 : decode cX8_put 104 = .ok (.imul, 1) := by decide +kernel
theorem dX8_put_105 : decode cX8_put 105 = .ok (.lushr, 1) := by decide +kernel
theorem dX8_put_106 : decode cX8_put 106 = .ok (.ldc2_w 154, 3) := by decide +kernel
theorem dX8_put_109 : decode cX8_put 109 = .ok (.land, 1) := by decide +kernel
theorem dX8_put_110 : decode cX8_put 110 = .ok (.l2i, 1) := by decide +kernel
theorem dX8_put_111 : decode cX8_put 111 = .ok (.i2c, 1) := by decide +kernel
theorem dX8_put_112 : decode cX8_put 112 = .ok (.castore, 1) := by decide +kernel
theorem dX8_put_113 : decode cX8_put 113 = .ok (.aload_n 0, 1) := by decide +kernel
theorem dX8_put_114 : decode cX8_put 114 = .ok (.dup, 1) := by decide +kernel
theorem dX8_put_115 : decode cX8_put 115 = .ok (.getfield 125, 3) := by decide +kernel
theorem dX8_put_118 : decode cX8_put 118 = .ok (.iconst 1, 1) := by decide +kernel
theorem dX8_put_119 : decode cX8_put 119 = .ok (.iadd, 1) := by decide +kernel
theorem dX8_put_120 : decode cX8_put 120 = .ok (.putfield 125, 3) := by decide +kernel
theorem dX8_put_123 : decode cX8_put 123 = .ok (.iinc 6 (-1), 3) := by decide +kernel
theorem dX8_put_126 : decode cX8_put 126 = .ok (.goto (-40), 3) := by decide +kernel
theorem dX8_put_129 : decode cX8_put 129 = .ok (.aload_n 0, 1) := by decide +kernel
theorem dX8_put_130 : decode cX8_put 130 = .ok (.getfield 125, 3) := by decide +kernel
theorem dX8_put_133 : decode cX8_put 133 = .ok (.ireturn, 1) := by decide +kernel
theorem dX8_wipe_0 : decode cX8_wipe 0 = .ok (.aload_n 0, 1) := by decide +kernel
theorem dX8_wipe_1 : decode cX8_wipe 1 = .ok (.getfield 125, 3) := by decide +kernel
theorem dX8_wipe_4 : decode cX8_wipe 4 = .ok (.istore_n 1, 1) := by decide +kernel
theorem dX8_wipe_5 : decode cX8_wipe 5 = .ok (.aload_n 0, 1) := by decide +kernel
theorem dX8_wipe_6 : decode cX8_wipe 6 = .ok (.iconst 0, 1) := by decide +kernel
theorem dX8_wipe_7 : decode cX8_wipe 7 = .ok (.putfield 125, 3) := by decide +kernel
theorem dX8_wipe_10 : decode cX8_wipe 10 = .ok (.iload_n 1, 1) := by decide +kernel
theorem dX8_wipe_11 : decode cX8_wipe 11 = .ok (.ireturn, 1) := by decide +kernel
theorem dX8_fault_0 : decode cX8_fault 0 = .ok (.aload_n 0, 1) := by decide +kernel
theorem dX8_fault_1 : decode cX8_fault 1 = .ok (.invokevirtual 160, 3) := by decide +kernel
theorem dX8_fault_4 : decode cX8_fault 4 = .ok (.istore_n 1, 1) := by decide +kernel
theorem dX8_fault_5 : decode cX8_fault 5 = .ok (.iload_n 1, 1) := by decide +kernel
theorem dX8_fault_6 : decode cX8_fault 6 = .ok (.ifCond .ge 8, 3) := by decide +kernel
theorem dX8_fault_9 : decode cX8_fault 9 = .ok (.bipush (-6), 2) := by decide +kernel
theorem dX8_fault_11 : decode cX8_fault 11 = .ok (.goto 4, 3) := by decide +kernel
theorem dX8_fault_14 : decode cX8_fault 14 = .ok (.iload_n 1, 1) := by decide +kernel
theorem dX8_fault_15 : decode cX8_fault 15 = .ok (.ireturn, 1) := by decide +kernel
theorem dX8_carryOut_0 : decode cX8_carryOut 0 = .ok (.aload_n 0, 1) := by decide +kernel
theorem dX8_carryOut_1 : decode cX8_carryOut 1 = .ok (.invokevirtual 160, 3) := by decide +kernel
theorem dX8_carryOut_4 : decode cX8_carryOut 4 = .ok (.ifCond .lt 6, 3) := by decide +kernel
theorem dX8_carryOut_7 : decode cX8_carryOut 7 = .ok (.bipush (-3), 2) := by decide +kernel
theorem dX8_carryOut_9 : decode cX8_carryOut 9 = .ok (.ireturn, 1) := by decide +kernel
theorem dX8_carryOut_10 : decode cX8_carryOut 10 = .ok (.aload_n 0, 1) := by decide +kernel
theorem dX8_carryOut_11 : decode cX8_carryOut 11 = .ok (.invokevirtual 88, 3) := by decide +kernel
theorem dX8_carryOut_14 : decode cX8_carryOut 14 = .ok (.iconst 0, 1) := by decide +kernel
theorem dX8_carryOut_15 : decode cX8_carryOut 15 = .ok (.istore_n 1, 1) := by decide +kernel
theorem dX8_carryOut_16 : decode cX8_carryOut 16 = .ok (.iconst 1, 1) := by decide +kernel
theorem dX8_carryOut_17 : decode cX8_carryOut 17 = .ok (.istore_n 2, 1) := by decide +kernel
theorem dX8_carryOut_18 : decode cX8_carryOut 18 = .ok (.iload_n 2, 1) := by decide +kernel
theorem dX8_carryOut_19 : decode cX8_carryOut 19 = .ok (.ifCond .eq 40, 3) := by decide +kernel
theorem dX8_carryOut_22 : decode cX8_carryOut 22 = .ok (.iload_n 1, 1) := by decide +kernel
theorem dX8_carryOut_23 : decode cX8_carryOut 23 = .ok (.aload_n 0, 1) := by decide +kernel
theorem dX8_carryOut_24 : decode cX8_carryOut 24 = .ok (.getfield 136, 3) := by decide +kernel
theorem dX8_carryOut_27 : decode cX8_carryOut 27 = .ok (.if_icmp .ge 32, 3) := by decide +kernel
theorem dX8_carryOut_30 : decode cX8_carryOut 30 = .ok (.aload_n 0, 1) := by decide +kernel
theorem dX8_carryOut_31 : decode cX8_carryOut 31 = .ok (.iload_n 1, 1) := by decide +kernel
theorem dX8_carryOut_32 : decode cX8_carryOut 32 = .ok (.invokevirtual 163, 3) := by decide +kernel
theorem dX8_carryOut_35 : decode cX8_carryOut 35 = .ok (.ifCond .lt 7, 3) := by decide +kernel
theorem dX8_carryOut_38 : decode cX8_carryOut 38 = .ok (.iconst 1, 1) := by decide +kernel
theorem dX8_carryOut_39 : decode cX8_carryOut 39 = .ok (.goto 4, 3) := by decide +kernel
theorem dX8_carryOut_42 : decode cX8_carryOut 42 = .ok (.iconst 0, 1) := by decide +kernel
theorem dX8_carryOut_43 : decode cX8_carryOut 43 = .ok (.istore_n 2, 1) := by decide +kernel
theorem dX8_carryOut_44 : decode cX8_carryOut 44 = .ok (.iload_n 1, 1) := by decide +kernel
theorem dX8_carryOut_45 : decode cX8_carryOut 45 = .ok (.iload_n 2, 1) := by decide +kernel
theorem dX8_carryOut_46 : decode cX8_carryOut 46 = .ok (.ifCond .eq 7, 3) := by decide +kernel
theorem dX8_carryOut_49 : decode cX8_carryOut 49 = .ok (.iconst 1, 1) := by decide +kernel
theorem dX8_carryOut_50 : decode cX8_carryOut 50 = .ok (.goto 4, 3) := by decide +kernel
theorem dX8_carryOut_53 : decode cX8_carryOut 53 = .ok (.iconst 0, 1) := by decide +kernel
theorem dX8_carryOut_54 : decode cX8_carryOut 54 = .ok (.iadd, 1) := by decide +kernel
theorem dX8_carryOut_55 : decode cX8_carryOut 55 = .ok (.istore_n 1, 1) := by decide +kernel
theorem dX8_carryOut_56 : decode cX8_carryOut 56 = .ok (.goto (-38), 3) := by decide +kernel
theorem dX8_carryOut_59 : decode cX8_carryOut 59 = .ok (.aload_n 0, 1) := by decide +kernel
theorem dX8_carryOut_60 : decode cX8_carryOut 60 = .ok (.iconst 0, 1) := by decide +kernel
theorem dX8_carryOut_61 : decode cX8_carryOut 61 = .ok (.putfield 125, 3) := by decide +kernel
theorem dX8_carryOut_64 : decode cX8_carryOut 64 = .ok (.aload_n 0, 1) := by decide +kernel
theorem dX8_carryOut_65 : decode cX8_carryOut 65 = .ok (.iload_n 1, 1) := by decide +kernel
theorem dX8_carryOut_66 : decode cX8_carryOut 66 = .ok (.invokevirtual 91, 3) := by decide +kernel
theorem dX8_carryOut_69 : decode cX8_carryOut 69 = .ok (.ireturn, 1) := by decide +kernel
theorem dX8_undo_0 : decode cX8_undo 0 = .ok (.aload_n 0, 1) := by decide +kernel
theorem dX8_undo_1 : decode cX8_undo 1 = .ok (.getfield 37, 3) := by decide +kernel
theorem dX8_undo_4 : decode cX8_undo 4 = .ok (.ifCond .ne 6, 3) := by decide +kernel
theorem dX8_undo_7 : decode cX8_undo 7 = .ok (.bipush (-5), 2) := by decide +kernel
theorem dX8_undo_9 : decode cX8_undo 9 = .ok (.ireturn, 1) := by decide +kernel
theorem dX8_undo_10 : decode cX8_undo 10 = .ok (.aload_n 0, 1) := by decide +kernel
theorem dX8_undo_11 : decode cX8_undo 11 = .ok (.dup, 1) := by decide +kernel
theorem dX8_undo_12 : decode cX8_undo 12 = .ok (.getfield 37, 3) := by decide +kernel
theorem dX8_undo_15 : decode cX8_undo 15 = .ok (.iconst 1, 1) := by decide +kernel
theorem dX8_undo_16 : decode cX8_undo 16 = .ok (.isub, 1) := by decide +kernel
theorem dX8_undo_17 : decode cX8_undo 17 = .ok (.putfield 37, 3) := by decide +kernel
theorem dX8_undo_20 : decode cX8_undo 20 = .ok (.iconst 0, 1) := by decide +kernel
theorem dX8_undo_21 : decode cX8_undo 21 = .ok (.istore_n 1, 1) := by decide +kernel
theorem dX8_undo_22 : decode cX8_undo 22 = .ok (.iload_n 1, 1) := by decide +kernel
theorem dX8_undo_23 : decode cX8_undo 23 = .ok (.sipush 276, 3) := by decide +kernel
theorem dX8_undo_26 : decode cX8_undo 26 = .ok (.if_icmp .ge 30, 3) := by decide +kernel
theorem dX8_undo_29 : decode cX8_undo 29 = .ok (.aload_n 0, 1) := by decide +kernel
theorem dX8_undo_30 : decode cX8_undo 30 = .ok (.getfield 7, 3) := by decide +kernel
theorem dX8_undo_33 : decode cX8_undo 33 = .ok (.iload_n 1, 1) := by decide +kernel
theorem dX8_undo_34 : decode cX8_undo 34 = .ok (.aload_n 0, 1) := by decide +kernel
theorem dX8_undo_35 : decode cX8_undo 35 = .ok (.getfield 16, 3) := by decide +kernel
theorem dX8_undo_38 : decode cX8_undo 38 = .ok (.sipush 276, 3) := by decide +kernel
theorem dX8_undo_41 : decode cX8_undo 41 = .ok (.aload_n 0, 1) := by decide +kernel
theorem dX8_undo_42 : decode cX8_undo 42 = .ok (.getfield 37, 3) := by decide +kernel
theorem dX8_undo_45 : decode cX8_undo 45 = .ok (.imul, 1) := by decide +kernel
theorem dX8_undo_46 : decode cX8_undo 46 = .ok (.iload_n 1, 1) := by decide +kernel
theorem dX8_undo_47 : decode cX8_undo 47 = .ok (.iadd, 1) := by decide +kernel
theorem dX8_undo_48 : decode cX8_undo 48 = .ok (.iaload, 1) := by decide +kernel
theorem dX8_undo_49 : decode cX8_undo 49 = .ok (.iastore, 1) := by decide +kernel
theorem dX8_undo_50 : decode cX8_undo 50 = .ok (.iinc 1 1, 3) := by decide +kernel
theorem dX8_undo_53 : decode cX8_undo 53 = .ok (.goto (-31), 3) := by decide +kernel
theorem dX8_undo_56 : decode cX8_undo 56 = .ok (.aload_n 0, 1) := by decide +kernel
theorem dX8_undo_57 : decode cX8_undo 57 = .ok (.getfield 37, 3) := by decide +kernel
theorem dX8_undo_60 : decode cX8_undo 60 = .ok (.ireturn, 1) := by decide +kernel
theorem dX8_save_0 : decode cX8_save 0 = .ok (.iload_n 1, 1) := by decide +kernel
theorem dX8_save_1 : decode cX8_save 1 = .ok (.iconst 0, 1) := by decide +kernel
theorem dX8_save_2 : decode cX8_save 2 = .ok (.iconst 1, 1) := by decide +kernel
theorem dX8_save_3 : decode cX8_save 3 = .ok (.invokestatic 33, 3) := by decide +kernel
theorem dX8_save_6 : decode cX8_save 6 = .ok (.ifCond .ne 6, 3) := by decide +kernel
theorem dX8_save_9 : decode cX8_save 9 = .ok (.bipush (-2), 2) := by decide +kernel
theorem dX8_save_11 : decode cX8_save 11 = .ok (.ireturn, 1) := by decide +kernel
theorem dX8_save_12 : decode cX8_save 12 = .ok (.iconst 0, 1) := by decide +kernel
theorem dX8_save_13 : decode cX8_save 13 = .ok (.istore_n 2, 1) := by decide +kernel
theorem dX8_save_14 : decode cX8_save 14 = .ok (.iload_n 2, 1) := by decide +kernel
theorem dX8_save_15 : decode cX8_save 15 = .ok (.sipush 276, 3) := by decide +kernel
theorem dX8_save_18 : decode cX8_save 18 = .ok (.if_icmp .ge 27, 3) := by decide +kernel
theorem dX8_save_21 : decode cX8_save 21 = .ok (.aload_n 0, 1) := by decide +kernel
theorem dX8_save_22 : decode cX8_save 22 = .ok (.getfield 19, 3) := by decide +kernel
theorem dX8_save_25 : decode cX8_save 25 = .ok (.sipush 276, 3) := by decide +kernel
theorem dX8_save_28 : decode cX8_save 28 = .ok (.iload_n 1, 1) := by decide +kernel
theorem dX8_save_29 : decode cX8_save 29 = .ok (.imul, 1) := by decide +kernel
theorem dX8_save_30 : decode cX8_save 30 = .ok (.iload_n 2, 1) := by decide +kernel
theorem dX8_save_31 : decode cX8_save 31 = .ok (.iadd, 1) := by decide +kernel
theorem dX8_save_32 : decode cX8_save 32 = .ok (.aload_n 0, 1) := by decide +kernel
theorem dX8_save_33 : decode cX8_save 33 = .ok (.getfield 7, 3) := by decide +kernel
theorem dX8_save_36 : decode cX8_save 36 = .ok (.iload_n 2, 1) := by decide +kernel
theorem dX8_save_37 : decode cX8_save 37 = .ok (.iaload, 1) := by decide +kernel
theorem dX8_save_38 : decode cX8_save 38 = .ok (.iastore, 1) := by decide +kernel
theorem dX8_save_39 : decode cX8_save 39 = .ok (.iinc 2 1, 3) := by decide +kernel
theorem dX8_save_42 : decode cX8_save 42 = .ok (.goto (-28), 3) := by decide +kernel
theorem dX8_save_45 : decode cX8_save 45 = .ok (.aload_n 0, 1) := by decide +kernel
theorem dX8_save_46 : decode cX8_save 46 = .ok (.getfield 22, 3) := by decide +kernel
theorem dX8_save_49 : decode cX8_save 49 = .ok (.iload_n 1, 1) := by decide +kernel
theorem dX8_save_50 : decode cX8_save 50 = .ok (.iconst 1, 1) := by decide +kernel
theorem dX8_save_51 : decode cX8_save 51 = .ok (.bastore, 1) := by decide +kernel
theorem dX8_save_52 : decode cX8_save 52 = .ok (.aload_n 0, 1) := by decide +kernel
theorem dX8_save_53 : decode cX8_save 53 = .ok (.getfield 7, 3) := by decide +kernel
theorem dX8_save_56 : decode cX8_save 56 = .ok (.iconst 5, 1) := by decide +kernel
theorem dX8_save_57 : decode cX8_save 57 = .ok (.iaload, 1) := by decide +kernel
theorem dX8_save_58 : decode cX8_save 58 = .ok (.ireturn, 1) := by decide +kernel
theorem dX8_restore_0 : decode cX8_restore 0 = .ok (.iload_n 1, 1) := by decide +kernel
theorem dX8_restore_1 : decode cX8_restore 1 = .ok (.iconst 0, 1) := by decide +kernel
theorem dX8_restore_2 : decode cX8_restore 2 = .ok (.iconst 1, 1) := by decide +kernel
theorem dX8_restore_3 : decode cX8_restore 3 = .ok (.invokestatic 33, 3) := by decide +kernel
theorem dX8_restore_6 : decode cX8_restore 6 = .ok (.ifCond .ne 6, 3) := by decide +kernel
theorem dX8_restore_9 : decode cX8_restore 9 = .ok (.bipush (-2), 2) := by decide +kernel
theorem dX8_restore_11 : decode cX8_restore 11 = .ok (.ireturn, 1) := by decide +kernel
theorem dX8_restore_12 : decode cX8_restore 12 = .ok (.aload_n 0, 1) := by decide +kernel
theorem dX8_restore_13 : decode cX8_restore 13 = .ok (.getfield 22, 3) := by decide +kernel
theorem dX8_restore_16 : decode cX8_restore 16 = .ok (.iload_n 1, 1) := by decide +kernel
theorem dX8_restore_17 : decode cX8_restore 17 = .ok (.baload, 1) := by decide +kernel
theorem dX8_restore_18 : decode cX8_restore 18 = .ok (.ifCond .ne 6, 3) := by decide +kernel
theorem dX8_restore_21 : decode cX8_restore 21 = .ok (.bipush (-5), 2) := by decide +kernel
theorem dX8_restore_23 : decode cX8_restore 23 = .ok (.ireturn, 1) := by decide +kernel
theorem dX8_restore_24 : decode cX8_restore 24 = .ok (.aload_n 0, 1) := by decide +kernel
theorem dX8_restore_25 : decode cX8_restore 25 = .ok (.invokevirtual 88, 3) := by decide +kernel
theorem dX8_restore_28 : decode cX8_restore 28 = .ok (.iconst 0, 1) := by decide +kernel
theorem dX8_restore_29 : decode cX8_restore 29 = .ok (.istore_n 2, 1) := by decide +kernel
theorem dX8_restore_30 : decode cX8_restore 30 = .ok (.iload_n 2, 1) := by decide +kernel
theorem dX8_restore_31 : decode cX8_restore 31 = .ok (.sipush 276, 3) := by decide +kernel
theorem dX8_restore_34 : decode cX8_restore 34 = .ok (.if_icmp .ge 27, 3) := by decide +kernel
theorem dX8_restore_37 : decode cX8_restore 37 = .ok (.aload_n 0, 1) := by decide +kernel
theorem dX8_restore_38 : decode cX8_restore 38 = .ok (.getfield 7, 3) := by decide +kernel
theorem dX8_restore_41 : decode cX8_restore 41 = .ok (.iload_n 2, 1) := by decide +kernel
theorem dX8_restore_42 : decode cX8_restore 42 = .ok (.aload_n 0, 1) := by decide +kernel
theorem dX8_restore_43 : decode cX8_restore 43 = .ok (.getfield 19, 3) := by decide +kernel
theorem dX8_restore_46 : decode cX8_restore 46 = .ok (.sipush 276, 3) := by decide +kernel
theorem dX8_restore_49 : decode cX8_restore 49 = .ok (.iload_n 1, 1) := by decide +kernel
theorem dX8_restore_50 : decode cX8_restore 50 = .ok (.imul, 1) := by decide +kernel
theorem dX8_restore_51 : decode cX8_restore 51 = .ok (.iload_n 2, 1) := by decide +kernel
theorem dX8_restore_52 : decode cX8_restore 52 = .ok (.iadd, 1) := by decide +kernel
theorem dX8_restore_53 : decode cX8_restore 53 = .ok (.iaload, 1) := by decide +kernel
theorem dX8_restore_54 : decode cX8_restore 54 = .ok (.iastore, 1) := by decide +kernel
theorem dX8_restore_55 : decode cX8_restore 55 = .ok (.iinc 2 1, 3) := by decide +kernel
theorem dX8_restore_58 : decode cX8_restore 58 = .ok (.goto (-28), 3) := by decide +kernel
theorem dX8_restore_61 : decode cX8_restore 61 = .ok (.aload_n 0, 1) := by decide +kernel
theorem dX8_restore_62 : decode cX8_restore 62 = .ok (.aload_n 0, 1) := by decide +kernel
theorem dX8_restore_63 : decode cX8_restore 63 = .ok (.getfield 7, 3) := by decide +kernel
theorem dX8_restore_66 : decode cX8_restore 66 = .ok (.iconst 5, 1) := by decide +kernel
theorem dX8_restore_67 : decode cX8_restore 67 = .ok (.iaload, 1) := by decide +kernel
theorem dX8_restore_68 : decode cX8_restore 68 = .ok (.invokevirtual 91, 3) := by decide +kernel
theorem dX8_restore_71 : decode cX8_restore 71 = .ok (.ireturn, 1) := by decide +kernel
theorem dL_law_0 : decode cL_law 0 = .ok (.new 7, 3) := by decide +kernel
theorem dL_law_3 : decode cL_law 3 = .ok (.dup, 1) := by decide +kernel
theorem dL_law_4 : decode cL_law 4 = .ok (.invokespecial 9, 3) := by decide +kernel
theorem dL_law_7 : decode cL_law 7 = .ok (.astore_n 1, 1) := by decide +kernel
theorem dL_law_8 : decode cL_law 8 = .ok (.new 10, 3) := by decide +kernel
theorem dL_law_11 : decode cL_law 11 = .ok (.dup, 1) := by decide +kernel
theorem dL_law_12 : decode cL_law 12 = .ok (.invokespecial 12, 3) := by decide +kernel
theorem dL_law_15 : decode cL_law 15 = .ok (.astore_n 2, 1) := by decide +kernel
theorem dL_law_16 : decode cL_law 16 = .ok (.iconst 0, 1) := by decide +kernel
theorem dL_law_17 : decode cL_law 17 = .ok (.istore_n 3, 1) := by decide +kernel
theorem dL_law_18 : decode cL_law 18 = .ok (.iload_n 3, 1) := by decide +kernel
theorem dL_law_19 : decode cL_law 19 = .ok (.aload_n 0, 1) := by decide +kernel
theorem dL_law_20 : decode cL_law 20 = .ok (.arraylength, 1) := by decide +kernel
theorem dL_law_21 : decode cL_law 21 = .ok (.iconst 4, 1) := by decide +kernel
theorem dL_law_22 : decode cL_law 22 = .ok (.isub, 1) := by decide +kernel
theorem dL_law_23 : decode cL_law 23 = .ok (.if_icmp .gt 786, 3) := by decide +kernel
theorem dL_law_26 : decode cL_law 26 = .ok (.aload_n 0, 1) := by decide +kernel
theorem dL_law_27 : decode cL_law 27 = .ok (.iload_n 3, 1) := by decide +kernel
theorem dL_law_28 : decode cL_law 28 = .ok (.iaload, 1) := by decide +kernel
theorem dL_law_29 : decode cL_law 29 = .ok (.bipush 31, 2) := by decide +kernel
theorem dL_law_31 : decode cL_law 31 = .ok (.iand, 1) := by decide +kernel
theorem dL_law_32 : decode cL_law 32 = .ok (.tableswitch 771 0 24 #[116, 149, 192, 205, 238, 281, 314, 327, 350, 383, 396, 429, 462, 495, 518, 561, 584, 607, 620, 673, 686, 699, 712, 725, 748], 116) := by decide +kernel
theorem dL_law_148 : decode cL_law 148 = .ok (.aload_n 1, 1) := by decide +kernel
theorem dL_law_149 : decode cL_law 149 = .ok (.aload_n 0, 1) := by decide +kernel
theorem dL_law_150 : decode cL_law 150 = .ok (.iload_n 3, 1) := by decide +kernel
theorem dL_law_151 : decode cL_law 151 = .ok (.iconst 1, 1) := by decide +kernel
theorem dL_law_152 : decode cL_law 152 = .ok (.iadd, 1) := by decide +kernel
theorem dL_law_153 : decode cL_law 153 = .ok (.iaload, 1) := by decide +kernel
theorem dL_law_154 : decode cL_law 154 = .ok (.aload_n 0, 1) := by decide +kernel
theorem dL_law_155 : decode cL_law 155 = .ok (.iload_n 3, 1) := by decide +kernel
theorem dL_law_156 : decode cL_law 156 = .ok (.iconst 2, 1) := by decide +kernel
theorem dL_law_157 : decode cL_law 157 = .ok (.iadd, 1) := by decide +kernel
theorem dL_law_158 : decode cL_law 158 = .ok (.iaload, 1) := by decide +kernel
theorem dL_law_159 : decode cL_law 159 = .ok (.invokevirtual 13, 3) := by decide +kernel
theorem dL_law_162 : decode cL_law 162 = .ok (.pop, 1) := by decide +kernel
theorem dL_law_163 : decode cL_law 163 = .ok (.aload_n 2, 1) := by decide +kernel
theorem dL_law_164 : decode cL_law 164 = .ok (.aload_n 0, 1) := by decide +kernel
theorem dL_law_165 : decode cL_law 165 = .ok (.iload_n 3, 1) := by decide +kernel
theorem dL_law_166 : decode cL_law 166 = .ok (.iconst 1, 1) := by decide +kernel
theorem dL_law_167 : decode cL_law 167 = .ok (.iadd, 1) := by decide +kernel
theorem dL_law_168 : decode cL_law 168 = .ok (.iaload, 1) := by decide +kernel
theorem dL_law_169 : decode cL_law 169 = .ok (.aload_n 0, 1) := by decide +kernel
theorem dL_law_170 : decode cL_law 170 = .ok (.iload_n 3, 1) := by decide +kernel
theorem dL_law_171 : decode cL_law 171 = .ok (.iconst 2, 1) := by decide +kernel
theorem dL_law_172 : decode cL_law 172 = .ok (.iadd, 1) := by decide +kernel
theorem dL_law_173 : decode cL_law 173 = .ok (.iaload, 1) := by decide +kernel
theorem dL_law_174 : decode cL_law 174 = .ok (.invokevirtual 17, 3) := by decide +kernel
theorem dL_law_177 : decode cL_law 177 = .ok (.pop, 1) := by decide +kernel
theorem dL_law_178 : decode cL_law 178 = .ok (.goto 625, 3) := by decide +kernel
theorem dL_law_181 : decode cL_law 181 = .ok (.aload_n 1, 1) := by decide +kernel
theorem dL_law_182 : decode cL_law 182 = .ok (.aload_n 0, 1) := by decide +kernel
theorem dL_law_183 : decode cL_law 183 = .ok (.iload_n 3, 1) := by decide +kernel
theorem dL_law_184 : decode cL_law 184 = .ok (.iconst 1, 1) := by decide +kernel
theorem dL_law_185 : decode cL_law 185 = .ok (.iadd, 1) := by decide +kernel
theorem dL_law_186 : decode cL_law 186 = .ok (.iaload, 1) := by decide +kernel
theorem dL_law_187 : decode cL_law 187 = .ok (.aload_n 0, 1) := by decide +kernel
theorem dL_law_188 : decode cL_law 188 = .ok (.iload_n 3, 1) := by decide +kernel
theorem dL_law_189 : decode cL_law 189 = .ok (.iconst 2, 1) := by decide +kernel
theorem dL_law_190 : decode cL_law 190 = .ok (.iadd, 1) := by decide +kernel
theorem dL_law_191 : decode cL_law 191 = .ok (.iaload, 1) := by decide +kernel
theorem dL_law_192 : decode cL_law 192 = .ok (.aload_n 0, 1) := by decide +kernel
theorem dL_law_193 : decode cL_law 193 = .ok (.iload_n 3, 1) := by decide +kernel
theorem dL_law_194 : decode cL_law 194 = .ok (.iconst 3, 1) := by decide +kernel
theorem dL_law_195 : decode cL_law 195 = .ok (.iadd, 1) := by decide +kernel
theorem dL_law_196 : decode cL_law 196 = .ok (.iaload, 1) := by decide +kernel
theorem dL_law_197 : decode cL_law 197 = .ok (.invokevirtual 18, 3) := by decide +kernel
theorem dL_law_200 : decode cL_law 200 = .ok (.pop, 1) := by decide +kernel
theorem dL_law_201 : decode cL_law 201 = .ok (.aload_n 2, 1) := by decide +kernel
theorem dL_law_202 : decode cL_law 202 = .ok (.aload_n 0, 1) := by decide +kernel
theorem dL_law_203 : decode cL_law 203 = .ok (.iload_n 3, 1) := by decide +kernel
theorem dL_law_204 : decode cL_law 204 = .ok (.iconst 1, 1) := by decide +kernel
theorem dL_law_205 : decode cL_law 205 = .ok (.iadd, 1) := by decide +kernel
theorem dL_law_206 : decode cL_law 206 = .ok (.iaload, 1) := by decide +kernel
theorem dL_law_207 : decode cL_law 207 = .ok (.aload_n 0, 1) := by decide +kernel
theorem dL_law_208 : decode cL_law 208 = .ok (.iload_n 3, 1) := by decide +kernel
theorem dL_law_209 : decode cL_law 209 = .ok (.iconst 2, 1) := by decide +kernel
theorem dL_law_210 : decode cL_law 210 = .ok (.iadd, 1) := by decide +kernel
theorem dL_law_211 : decode cL_law 211 = .ok (.iaload, 1) := by decide +kernel
theorem dL_law_212 : decode cL_law 212 = .ok (.aload_n 0, 1) := by decide +kernel
theorem dL_law_213 : decode cL_law 213 = .ok (.iload_n 3, 1) := by decide +kernel
theorem dL_law_214 : decode cL_law 214 = .ok (.iconst 3, 1) := by decide +kernel
theorem dL_law_215 : decode cL_law 215 = .ok (.iadd, 1) := by decide +kernel
theorem dL_law_216 : decode cL_law 216 = .ok (.iaload, 1) := by decide +kernel
theorem dL_law_217 : decode cL_law 217 = .ok (.invokevirtual 22, 3) := by decide +kernel
theorem dL_law_220 : decode cL_law 220 = .ok (.pop, 1) := by decide +kernel
theorem dL_law_221 : decode cL_law 221 = .ok (.goto 582, 3) := by decide +kernel
theorem dL_law_224 : decode cL_law 224 = .ok (.aload_n 1, 1) := by decide +kernel
theorem dL_law_225 : decode cL_law 225 = .ok (.invokevirtual 23, 3) := by decide +kernel
theorem dL_law_228 : decode cL_law 228 = .ok (.pop, 1) := by decide +kernel
theorem dL_law_229 : decode cL_law 229 = .ok (.aload_n 2, 1) := by decide +kernel
theorem dL_law_230 : decode cL_law 230 = .ok (.invokevirtual 27, 3) := by decide +kernel
theorem dL_law_233 : decode cL_law 233 = .ok (.pop, 1) := by decide +kernel
theorem dL_law_234 : decode cL_law 234 = .ok (.goto 569, 3) := by decide +kernel
theorem dL_law_237 : decode cL_law 237 = .ok (.aload_n 1, 1) := by decide +kernel
theorem dL_law_238 : decode cL_law 238 = .ok (.aload_n 0, 1) := by decide +kernel
theorem dL_law_239 : decode cL_law 239 = .ok (.iload_n 3, 1) := by decide +kernel
theorem dL_law_240 : decode cL_law 240 = .ok (.iconst 1, 1) := by decide +kernel
theorem dL_law_241 : decode cL_law 241 = .ok (.iadd, 1) := by decide +kernel
theorem dL_law_242 : decode cL_law 242 = .ok (.iaload, 1) := by decide +kernel
theorem dL_law_243 : decode cL_law 243 = .ok (.aload_n 0, 1) := by decide +kernel
theorem dL_law_244 : decode cL_law 244 = .ok (.iload_n 3, 1) := by decide +kernel
theorem dL_law_245 : decode cL_law 245 = .ok (.iconst 2, 1) := by decide +kernel
theorem dL_law_246 : decode cL_law 246 = .ok (.iadd, 1) := by decide +kernel
theorem dL_law_247 : decode cL_law 247 = .ok (.iaload, 1) := by decide +kernel
theorem dL_law_248 : decode cL_law 248 = .ok (.invokevirtual 28, 3) := by decide +kernel
theorem dL_law_251 : decode cL_law 251 = .ok (.pop, 1) := by decide +kernel
theorem dL_law_252 : decode cL_law 252 = .ok (.aload_n 2, 1) := by decide +kernel
theorem dL_law_253 : decode cL_law 253 = .ok (.aload_n 0, 1) := by decide +kernel
theorem dL_law_254 : decode cL_law 254 = .ok (.iload_n 3, 1) := by decide +kernel
theorem dL_law_255 : decode cL_law 255 = .ok (.iconst 1, 1) := by decide +kernel
theorem dL_law_256 : decode cL_law 256 = .ok (.iadd, 1) := by decide +kernel
theorem dL_law_257 : decode cL_law 257 = .ok (.iaload, 1) := by decide +kernel
theorem dL_law_258 : decode cL_law 258 = .ok (.aload_n 0, 1) := by decide +kernel
theorem dL_law_259 : decode cL_law 259 = .ok (.iload_n 3, 1) := by decide +kernel
theorem dL_law_260 : decode cL_law 260 = .ok (.iconst 2, 1) := by decide +kernel
theorem dL_law_261 : decode cL_law 261 = .ok (.iadd, 1) := by decide +kernel
theorem dL_law_262 : decode cL_law 262 = .ok (.iaload, 1) := by decide +kernel
theorem dL_law_263 : decode cL_law 263 = .ok (.invokevirtual 31, 3) := by decide +kernel
theorem dL_law_266 : decode cL_law 266 = .ok (.pop, 1) := by decide +kernel
theorem dL_law_267 : decode cL_law 267 = .ok (.goto 536, 3) := by decide +kernel
theorem dL_law_270 : decode cL_law 270 = .ok (.aload_n 1, 1) := by decide +kernel
theorem dL_law_271 : decode cL_law 271 = .ok (.aload_n 0, 1) := by decide +kernel
theorem dL_law_272 : decode cL_law 272 = .ok (.iload_n 3, 1) := by decide +kernel
theorem dL_law_273 : decode cL_law 273 = .ok (.iconst 1, 1) := by decide +kernel
theorem dL_law_274 : decode cL_law 274 = .ok (.iadd, 1) := by decide +kernel
theorem dL_law_275 : decode cL_law 275 = .ok (.iaload, 1) := by decide +kernel
theorem dL_law_276 : decode cL_law 276 = .ok (.aload_n 0, 1) := by decide +kernel
theorem dL_law_277 : decode cL_law 277 = .ok (.iload_n 3, 1) := by decide +kernel
theorem dL_law_278 : decode cL_law 278 = .ok (.iconst 2, 1) := by decide +kernel
theorem dL_law_279 : decode cL_law 279 = .ok (.iadd, 1) := by decide +kernel
theorem dL_law_280 : decode cL_law 280 = .ok (.iaload, 1) := by decide +kernel
theorem dL_law_281 : decode cL_law 281 = .ok (.aload_n 0, 1) := by decide +kernel
theorem dL_law_282 : decode cL_law 282 = .ok (.iload_n 3, 1) := by decide +kernel
theorem dL_law_283 : decode cL_law 283 = .ok (.iconst 3, 1) := by decide +kernel
theorem dL_law_284 : decode cL_law 284 = .ok (.iadd, 1) := by decide +kernel
theorem dL_law_285 : decode cL_law 285 = .ok (.iaload, 1) := by decide +kernel
theorem dL_law_286 : decode cL_law 286 = .ok (.invokevirtual 32, 3) := by decide +kernel
theorem dL_law_289 : decode cL_law 289 = .ok (.pop, 1) := by decide +kernel
theorem dL_law_290 : decode cL_law 290 = .ok (.aload_n 2, 1) := by decide +kernel
theorem dL_law_291 : decode cL_law 291 = .ok (.aload_n 0, 1) := by decide +kernel
theorem dL_law_292 : decode cL_law 292 = .ok (.iload_n 3, 1) := by decide +kernel
theorem dL_law_293 : decode cL_law 293 = .ok (.iconst 1, 1) := by decide +kernel
theorem dL_law_294 : decode cL_law 294 = .ok (.iadd, 1) := by decide +kernel
theorem dL_law_295 : decode cL_law 295 = .ok (.iaload, 1) := by decide +kernel
theorem dL_law_296 : decode cL_law 296 = .ok (.aload_n 0, 1) := by decide +kernel
theorem dL_law_297 : decode cL_law 297 = .ok (.iload_n 3, 1) := by decide +kernel
theorem dL_law_298 : decode cL_law 298 = .ok (.iconst 2, 1) := by decide +kernel
theorem dL_law_299 : decode cL_law 299 = .ok (.iadd, 1) := by decide +kernel
theorem dL_law_300 : decode cL_law 300 = .ok (.iaload, 1) := by decide +kernel
theorem dL_law_301 : decode cL_law 301 = .ok (.aload_n 0, 1) := by decide +kernel
theorem dL_law_302 : decode cL_law 302 = .ok (.iload_n 3, 1) := by decide +kernel
theorem dL_law_303 : decode cL_law 303 = .ok (.iconst 3, 1) := by decide +kernel
theorem dL_law_304 : decode cL_law 304 = .ok (.iadd, 1) := by decide +kernel
theorem dL_law_305 : decode cL_law 305 = .ok (.iaload, 1) := by decide +kernel
theorem dL_law_306 : decode cL_law 306 = .ok (.invokevirtual 35, 3) := by decide +kernel
theorem dL_law_309 : decode cL_law 309 = .ok (.pop, 1) := by decide +kernel
theorem dL_law_310 : decode cL_law 310 = .ok (.goto 493, 3) := by decide +kernel
theorem dL_law_313 : decode cL_law 313 = .ok (.aload_n 1, 1) := by decide +kernel
theorem dL_law_314 : decode cL_law 314 = .ok (.aload_n 0, 1) := by decide +kernel
theorem dL_law_315 : decode cL_law 315 = .ok (.iload_n 3, 1) := by decide +kernel
theorem dL_law_316 : decode cL_law 316 = .ok (.iconst 1, 1) := by decide +kernel
theorem dL_law_317 : decode cL_law 317 = .ok (.iadd, 1) := by decide +kernel
theorem dL_law_318 : decode cL_law 318 = .ok (.iaload, 1) := by decide +kernel
theorem dL_law_319 : decode cL_law 319 = .ok (.aload_n 0, 1) := by decide +kernel
theorem dL_law_320 : decode cL_law 320 = .ok (.iload_n 3, 1) := by decide +kernel
theorem dL_law_321 : decode cL_law 321 = .ok (.iconst 2, 1) := by decide +kernel
theorem dL_law_322 : decode cL_law 322 = .ok (.iadd, 1) := by decide +kernel
theorem dL_law_323 : decode cL_law 323 = .ok (.iaload, 1) := by decide +kernel
theorem dL_law_324 : decode cL_law 324 = .ok (.invokevirtual 36, 3) := by decide +kernel
theorem dL_law_327 : decode cL_law 327 = .ok (.pop, 1) := by decide +kernel
theorem dL_law_328 : decode cL_law 328 = .ok (.aload_n 2, 1) := by decide +kernel
theorem dL_law_329 : decode cL_law 329 = .ok (.aload_n 0, 1) := by decide +kernel
theorem dL_law_330 : decode cL_law 330 = .ok (.iload_n 3, 1) := by decide +kernel
theorem dL_law_331 : decode cL_law 331 = .ok (.iconst 1, 1) := by decide +kernel
theorem dL_law_332 : decode cL_law 332 = .ok (.iadd, 1) := by decide +kernel
theorem dL_law_333 : decode cL_law 333 = .ok (.iaload, 1) := by decide +kernel
theorem dL_law_334 : decode cL_law 334 = .ok (.aload_n 0, 1) := by decide +kernel
theorem dL_law_335 : decode cL_law 335 = .ok (.iload_n 3, 1) := by decide +kernel
theorem dL_law_336 : decode cL_law 336 = .ok (.iconst 2, 1) := by decide +kernel
theorem dL_law_337 : decode cL_law 337 = .ok (.iadd, 1) := by decide +kernel
theorem dL_law_338 : decode cL_law 338 = .ok (.iaload, 1) := by decide +kernel
theorem dL_law_339 : decode cL_law 339 = .ok (.invokevirtual 39, 3) := by decide +kernel
theorem dL_law_342 : decode cL_law 342 = .ok (.pop, 1) := by decide +kernel
theorem dL_law_343 : decode cL_law 343 = .ok (.goto 460, 3) := by decide +kernel
theorem dL_law_346 : decode cL_law 346 = .ok (.aload_n 1, 1) := by decide +kernel
theorem dL_law_347 : decode cL_law 347 = .ok (.invokevirtual 40, 3) := by decide +kernel
theorem dL_law_350 : decode cL_law 350 = .ok (.pop, 1) := by decide +kernel
theorem dL_law_351 : decode cL_law 351 = .ok (.aload_n 2, 1) := by decide +kernel
theorem dL_law_352 : decode cL_law 352 = .ok (.invokevirtual 43, 3) := by decide +kernel
theorem dL_law_355 : decode cL_law 355 = .ok (.pop, 1) := by decide +kernel
theorem dL_law_356 : decode cL_law 356 = .ok (.goto 447, 3) := by decide +kernel
theorem dL_law_359 : decode cL_law 359 = .ok (.aload_n 1, 1) := by decide +kernel
theorem dL_law_360 : decode cL_law 360 = .ok (.aload_n 0, 1) := by decide +kernel
theorem dL_law_361 : decode cL_law 361 = .ok (.iload_n 3, 1) := by decide +kernel
theorem dL_law_362 : decode cL_law 362 = .ok (.iconst 1, 1) := by decide +kernel
theorem dL_law_363 : decode cL_law 363 = .ok (.iadd, 1) := by decide +kernel
theorem dL_law_364 : decode cL_law 364 = .ok (.iaload, 1) := by decide +kernel
theorem dL_law_365 : decode cL_law 365 = .ok (.invokevirtual 44, 3) := by decide +kernel
theorem dL_law_368 : decode cL_law 368 = .ok (.pop, 1) := by decide +kernel
theorem dL_law_369 : decode cL_law 369 = .ok (.aload_n 2, 1) := by decide +kernel
theorem dL_law_370 : decode cL_law 370 = .ok (.aload_n 0, 1) := by decide +kernel
theorem dL_law_371 : decode cL_law 371 = .ok (.iload_n 3, 1) := by decide +kernel
theorem dL_law_372 : decode cL_law 372 = .ok (.iconst 1, 1) := by decide +kernel
theorem dL_law_373 : decode cL_law 373 = .ok (.iadd, 1) := by decide +kernel
theorem dL_law_374 : decode cL_law 374 = .ok (.iaload, 1) := by decide +kernel
theorem dL_law_375 : decode cL_law 375 = .ok (.invokevirtual 48, 3) := by decide +kernel
theorem dL_law_378 : decode cL_law 378 = .ok (.pop, 1) := by decide +kernel
theorem dL_law_379 : decode cL_law 379 = .ok (.goto 424, 3) := by decide +kernel
theorem dL_law_382 : decode cL_law 382 = .ok (.aload_n 1, 1) := by decide +kernel
theorem dL_law_383 : decode cL_law 383 = .ok (.aload_n 0, 1) := by decide +kernel
theorem dL_law_384 : decode cL_law 384 = .ok (.iload_n 3, 1) := by decide +kernel
theorem dL_law_385 : decode cL_law 385 = .ok (.iconst 1, 1) := by decide +kernel
theorem dL_law_386 : decode cL_law 386 = .ok (.iadd, 1) := by decide +kernel
theorem dL_law_387 : decode cL_law 387 = .ok (.iaload, 1) := by decide +kernel
theorem dL_law_388 : decode cL_law 388 = .ok (.aload_n 0, 1) := by decide +kernel
theorem dL_law_389 : decode cL_law 389 = .ok (.iload_n 3, 1) := by decide +kernel
theorem dL_law_390 : decode cL_law 390 = .ok (.iconst 2, 1) := by decide +kernel
theorem dL_law_391 : decode cL_law 391 = .ok (.iadd, 1) := by decide +kernel
theorem dL_law_392 : decode cL_law 392 = .ok (.iaload, 1) := by decide +kernel
theorem dL_law_393 : decode cL_law 393 = .ok (.invokevirtual 49, 3) := by decide +kernel
theorem dL_law_396 : decode cL_law 396 = .ok (.pop, 1) := by decide +kernel
theorem dL_law_397 : decode cL_law 397 = .ok (.aload_n 2, 1) := by decide +kernel
theorem dL_law_398 : decode cL_law 398 = .ok (.aload_n 0, 1) := by decide +kernel
theorem dL_law_399 : decode cL_law 399 = .ok (.iload_n 3, 1) := by decide +kernel
theorem dL_law_400 : decode cL_law 400 = .ok (.iconst 1, 1) := by decide +kernel
theorem dL_law_401 : decode cL_law 401 = .ok (.iadd, 1) := by decide +kernel
theorem dL_law_402 : decode cL_law 402 = .ok (.iaload, 1) := by decide +kernel
theorem dL_law_403 : decode cL_law 403 = .ok (.aload_n 0, 1) := by decide +kernel
theorem dL_law_404 : decode cL_law 404 = .ok (.iload_n 3, 1) := by decide +kernel
theorem dL_law_405 : decode cL_law 405 = .ok (.iconst 2, 1) := by decide +kernel
theorem dL_law_406 : decode cL_law 406 = .ok (.iadd, 1) := by decide +kernel
theorem dL_law_407 : decode cL_law 407 = .ok (.iaload, 1) := by decide +kernel
theorem dL_law_408 : decode cL_law 408 = .ok (.invokevirtual 52, 3) := by decide +kernel
theorem dL_law_411 : decode cL_law 411 = .ok (.pop, 1) := by decide +kernel
theorem dL_law_412 : decode cL_law 412 = .ok (.goto 391, 3) := by decide +kernel
theorem dL_law_415 : decode cL_law 415 = .ok (.aload_n 1, 1) := by decide +kernel
theorem dL_law_416 : decode cL_law 416 = .ok (.invokevirtual 53, 3) := by decide +kernel
theorem dL_law_419 : decode cL_law 419 = .ok (.pop, 1) := by decide +kernel
theorem dL_law_420 : decode cL_law 420 = .ok (.aload_n 2, 1) := by decide +kernel
theorem dL_law_421 : decode cL_law 421 = .ok (.invokevirtual 56, 3) := by decide +kernel
theorem dL_law_424 : decode cL_law 424 = .ok (.pop, 1) := by decide +kernel
theorem dL_law_425 : decode cL_law 425 = .ok (.goto 378, 3) := by decide +kernel
theorem dL_law_428 : decode cL_law 428 = .ok (.aload_n 1, 1) := by decide +kernel
theorem dL_law_429 : decode cL_law 429 = .ok (.aload_n 0, 1) := by decide +kernel
theorem dL_law_430 : decode cL_law 430 = .ok (.iload_n 3, 1) := by decide +kernel
theorem dL_law_431 : decode cL_law 431 = .ok (.iconst 1, 1) := by decide +kernel
theorem dL_law_432 : decode cL_law 432 = .ok (.iadd, 1) := by decide +kernel
theorem dL_law_433 : decode cL_law 433 = .ok (.iaload, 1) := by decide +kernel
theorem dL_law_434 : decode cL_law 434 = .ok (.aload_n 0, 1) := by decide +kernel
theorem dL_law_435 : decode cL_law 435 = .ok (.iload_n 3, 1) := by decide +kernel
theorem dL_law_436 : decode cL_law 436 = .ok (.iconst 2, 1) := by decide +kernel
theorem dL_law_437 : decode cL_law 437 = .ok (.iadd, 1) := by decide +kernel
theorem dL_law_438 : decode cL_law 438 = .ok (.iaload, 1) := by decide +kernel
theorem dL_law_439 : decode cL_law 439 = .ok (.invokevirtual 57, 3) := by decide +kernel
theorem dL_law_442 : decode cL_law 442 = .ok (.pop, 1) := by decide +kernel
theorem dL_law_443 : decode cL_law 443 = .ok (.aload_n 2, 1) := by decide +kernel
theorem dL_law_444 : decode cL_law 444 = .ok (.aload_n 0, 1) := by decide +kernel
theorem dL_law_445 : decode cL_law 445 = .ok (.iload_n 3, 1) := by decide +kernel
theorem dL_law_446 : decode cL_law 446 = .ok (.iconst 1, 1) := by decide +kernel
theorem dL_law_447 : decode cL_law 447 = .ok (.iadd, 1) := by decide +kernel
theorem dL_law_448 : decode cL_law 448 = .ok (.iaload, 1) := by decide +kernel
theorem dL_law_449 : decode cL_law 449 = .ok (.aload_n 0, 1) := by decide +kernel
theorem dL_law_450 : decode cL_law 450 = .ok (.iload_n 3, 1) := by decide +kernel
theorem dL_law_451 : decode cL_law 451 = .ok (.iconst 2, 1) := by decide +kernel
theorem dL_law_452 : decode cL_law 452 = .ok (.iadd, 1) := by decide +kernel
theorem dL_law_453 : decode cL_law 453 = .ok (.iaload, 1) := by decide +kernel
theorem dL_law_454 : decode cL_law 454 = .ok (.invokevirtual 60, 3) := by decide +kernel
theorem dL_law_457 : decode cL_law 457 = .ok (.pop, 1) := by decide +kernel
theorem dL_law_458 : decode cL_law 458 = .ok (.goto 345, 3) := by decide +kernel
theorem dL_law_461 : decode cL_law 461 = .ok (.aload_n 1, 1) := by decide +kernel
theorem dL_law_462 : decode cL_law 462 = .ok (.aload_n 0, 1) := by decide +kernel
theorem dL_law_463 : decode cL_law 463 = .ok (.iload_n 3, 1) := by decide +kernel
theorem dL_law_464 : decode cL_law 464 = .ok (.iconst 1, 1) := by decide +kernel
theorem dL_law_465 : decode cL_law 465 = .ok (.iadd, 1) := by decide +kernel
theorem dL_law_466 : decode cL_law 466 = .ok (.iaload, 1) := by decide +kernel
theorem dL_law_467 : decode cL_law 467 = .ok (.aload_n 0, 1) := by decide +kernel
theorem dL_law_468 : decode cL_law 468 = .ok (.iload_n 3, 1) := by decide +kernel
theorem dL_law_469 : decode cL_law 469 = .ok (.iconst 2, 1) := by decide +kernel
theorem dL_law_470 : decode cL_law 470 = .ok (.iadd, 1) := by decide +kernel
theorem dL_law_471 : decode cL_law 471 = .ok (.iaload, 1) := by decide +kernel
theorem dL_law_472 : decode cL_law 472 = .ok (.invokevirtual 61, 3) := by decide +kernel
theorem dL_law_475 : decode cL_law 475 = .ok (.pop, 1) := by decide +kernel
theorem dL_law_476 : decode cL_law 476 = .ok (.aload_n 2, 1) := by decide +kernel
theorem dL_law_477 : decode cL_law 477 = .ok (.aload_n 0, 1) := by decide +kernel
theorem dL_law_478 : decode cL_law 478 = .ok (.iload_n 3, 1) := by decide +kernel
theorem dL_law_479 : decode cL_law 479 = .ok (.iconst 1, 1) := by decide +kernel
theorem dL_law_480 : decode cL_law 480 = .ok (.iadd, 1) := by decide +kernel
theorem dL_law_481 : decode cL_law 481 = .ok (.iaload, 1) := by decide +kernel
theorem dL_law_482 : decode cL_law 482 = .ok (.aload_n 0, 1) := by decide +kernel
theorem dL_law_483 : decode cL_law 483 = .ok (.iload_n 3, 1) := by decide +kernel
theorem dL_law_484 : decode cL_law 484 = .ok (.iconst 2, 1) := by decide +kernel
theorem dL_law_485 : decode cL_law 485 = .ok (.iadd, 1) := by decide +kernel
theorem dL_law_486 : decode cL_law 486 = .ok (.iaload, 1) := by decide +kernel
theorem dL_law_487 : decode cL_law 487 = .ok (.invokevirtual 64, 3) := by decide +kernel
theorem dL_law_490 : decode cL_law 490 = .ok (.pop, 1) := by decide +kernel
theorem dL_law_491 : decode cL_law 491 = .ok (.goto 312, 3) := by decide +kernel
theorem dL_law_494 : decode cL_law 494 = .ok (.aload_n 1, 1) := by decide +kernel
theorem dL_law_495 : decode cL_law 495 = .ok (.aload_n 0, 1) := by decide +kernel
theorem dL_law_496 : decode cL_law 496 = .ok (.iload_n 3, 1) := by decide +kernel
theorem dL_law_497 : decode cL_law 497 = .ok (.iconst 1, 1) := by decide +kernel
theorem dL_law_498 : decode cL_law 498 = .ok (.iadd, 1) := by decide +kernel
theorem dL_law_499 : decode cL_law 499 = .ok (.iaload, 1) := by decide +kernel
theorem dL_law_500 : decode cL_law 500 = .ok (.aload_n 0, 1) := by decide +kernel
theorem dL_law_501 : decode cL_law 501 = .ok (.iload_n 3, 1) := by decide +kernel
theorem dL_law_502 : decode cL_law 502 = .ok (.iconst 2, 1) := by decide +kernel
theorem dL_law_503 : decode cL_law 503 = .ok (.iadd, 1) := by decide +kernel
theorem dL_law_504 : decode cL_law 504 = .ok (.iaload, 1) := by decide +kernel
theorem dL_law_505 : decode cL_law 505 = .ok (.invokevirtual 65, 3) := by decide +kernel
theorem dL_law_508 : decode cL_law 508 = .ok (.pop, 1) := by decide +kernel
theorem dL_law_509 : decode cL_law 509 = .ok (.aload_n 2, 1) := by decide +kernel
theorem dL_law_510 : decode cL_law 510 = .ok (.aload_n 0, 1) := by decide +kernel
theorem dL_law_511 : decode cL_law 511 = .ok (.iload_n 3, 1) := by decide +kernel
theorem dL_law_512 : decode cL_law 512 = .ok (.iconst 1, 1) := by decide +kernel
theorem dL_law_513 : decode cL_law 513 = .ok (.iadd, 1) := by decide +kernel
theorem dL_law_514 : decode cL_law 514 = .ok (.iaload, 1) := by decide +kernel
theorem dL_law_515 : decode cL_law 515 = .ok (.aload_n 0, 1) := by decide +kernel
theorem dL_law_516 : decode cL_law 516 = .ok (.iload_n 3, 1) := by decide +kernel
theorem dL_law_517 : decode cL_law 517 = .ok (.iconst 2, 1) := by decide +kernel
theorem dL_law_518 : decode cL_law 518 = .ok (.iadd, 1) := by decide +kernel
theorem dL_law_519 : decode cL_law 519 = .ok (.iaload, 1) := by decide +kernel
theorem dL_law_520 : decode cL_law 520 = .ok (.invokevirtual 68, 3) := by decide +kernel
theorem dL_law_523 : decode cL_law 523 = .ok (.pop, 1) := by decide +kernel
theorem dL_law_524 : decode cL_law 524 = .ok (.goto 279, 3) := by decide +kernel
theorem dL_law_527 : decode cL_law 527 = .ok (.aload_n 1, 1) := by decide +kernel
theorem dL_law_528 : decode cL_law 528 = .ok (.aload_n 0, 1) := by decide +kernel
theorem dL_law_529 : decode cL_law 529 = .ok (.iload_n 3, 1) := by decide +kernel
theorem dL_law_530 : decode cL_law 530 = .ok (.iconst 1, 1) := by decide +kernel
theorem dL_law_531 : decode cL_law 531 = .ok (.iadd, 1) := by decide +kernel
theorem dL_law_532 : decode cL_law 532 = .ok (.iaload, 1) := by decide +kernel
theorem dL_law_533 : decode cL_law 533 = .ok (.invokevirtual 69, 3) := by decide +kernel
theorem dL_law_536 : decode cL_law 536 = .ok (.pop, 1) := by decide +kernel
theorem dL_law_537 : decode cL_law 537 = .ok (.aload_n 2, 1) := by decide +kernel
theorem dL_law_538 : decode cL_law 538 = .ok (.aload_n 0, 1) := by decide +kernel
theorem dL_law_539 : decode cL_law 539 = .ok (.iload_n 3, 1) := by decide +kernel
theorem dL_law_540 : decode cL_law 540 = .ok (.iconst 1, 1) := by decide +kernel
theorem dL_law_541 : decode cL_law 541 = .ok (.iadd, 1) := by decide +kernel
theorem dL_law_542 : decode cL_law 542 = .ok (.iaload, 1) := by decide +kernel
theorem dL_law_543 : decode cL_law 543 = .ok (.invokevirtual 72, 3) := by decide +kernel
theorem dL_law_546 : decode cL_law 546 = .ok (.pop, 1) := by decide +kernel
theorem dL_law_547 : decode cL_law 547 = .ok (.goto 256, 3) := by decide +kernel
theorem dL_law_550 : decode cL_law 550 = .ok (.aload_n 1, 1) := by decide +kernel
theorem dL_law_551 : decode cL_law 551 = .ok (.aload_n 0, 1) := by decide +kernel
theorem dL_law_552 : decode cL_law 552 = .ok (.iload_n 3, 1) := by decide +kernel
theorem dL_law_553 : decode cL_law 553 = .ok (.iconst 1, 1) := by decide +kernel
theorem dL_law_554 : decode cL_law 554 = .ok (.iadd, 1) := by decide +kernel
theorem dL_law_555 : decode cL_law 555 = .ok (.iaload, 1) := by decide +kernel
theorem dL_law_556 : decode cL_law 556 = .ok (.aload_n 0, 1) := by decide +kernel
theorem dL_law_557 : decode cL_law 557 = .ok (.iload_n 3, 1) := by decide +kernel
theorem dL_law_558 : decode cL_law 558 = .ok (.iconst 2, 1) := by decide +kernel
theorem dL_law_559 : decode cL_law 559 = .ok (.iadd, 1) := by decide +kernel
theorem dL_law_560 : decode cL_law 560 = .ok (.iaload, 1) := by decide +kernel
theorem dL_law_561 : decode cL_law 561 = .ok (.aload_n 0, 1) := by decide +kernel
theorem dL_law_562 : decode cL_law 562 = .ok (.iload_n 3, 1) := by decide +kernel
theorem dL_law_563 : decode cL_law 563 = .ok (.iconst 3, 1) := by decide +kernel
theorem dL_law_564 : decode cL_law 564 = .ok (.iadd, 1) := by decide +kernel
theorem dL_law_565 : decode cL_law 565 = .ok (.iaload, 1) := by decide +kernel
theorem dL_law_566 : decode cL_law 566 = .ok (.invokevirtual 73, 3) := by decide +kernel
theorem dL_law_569 : decode cL_law 569 = .ok (.pop, 1) := by decide +kernel
theorem dL_law_570 : decode cL_law 570 = .ok (.aload_n 2, 1) := by decide +kernel
theorem dL_law_571 : decode cL_law 571 = .ok (.aload_n 0, 1) := by decide +kernel
theorem dL_law_572 : decode cL_law 572 = .ok (.iload_n 3, 1) := by decide +kernel
theorem dL_law_573 : decode cL_law 573 = .ok (.iconst 1, 1) := by decide +kernel
theorem dL_law_574 : decode cL_law 574 = .ok (.iadd, 1) := by decide +kernel
theorem dL_law_575 : decode cL_law 575 = .ok (.iaload, 1) := by decide +kernel
theorem dL_law_576 : decode cL_law 576 = .ok (.aload_n 0, 1) := by decide +kernel
theorem dL_law_577 : decode cL_law 577 = .ok (.iload_n 3, 1) := by decide +kernel
theorem dL_law_578 : decode cL_law 578 = .ok (.iconst 2, 1) := by decide +kernel
theorem dL_law_579 : decode cL_law 579 = .ok (.iadd, 1) := by decide +kernel
theorem dL_law_580 : decode cL_law 580 = .ok (.iaload, 1) := by decide +kernel
theorem dL_law_581 : decode cL_law 581 = .ok (.aload_n 0, 1) := by decide +kernel
theorem dL_law_582 : decode cL_law 582 = .ok (.iload_n 3, 1) := by decide +kernel
theorem dL_law_583 : decode cL_law 583 = .ok (.iconst 3, 1) := by decide +kernel
theorem dL_law_584 : decode cL_law 584 = .ok (.iadd, 1) := by decide +kernel
theorem dL_law_585 : decode cL_law 585 = .ok (.iaload, 1) := by decide +kernel
theorem dL_law_586 : decode cL_law 586 = .ok (.invokevirtual 76, 3) := by decide +kernel
theorem dL_law_589 : decode cL_law 589 = .ok (.pop, 1) := by decide +kernel
theorem dL_law_590 : decode cL_law 590 = .ok (.goto 213, 3) := by decide +kernel
theorem dL_law_593 : decode cL_law 593 = .ok (.aload_n 1, 1) := by decide +kernel
theorem dL_law_594 : decode cL_law 594 = .ok (.aload_n 0, 1) := by decide +kernel
theorem dL_law_595 : decode cL_law 595 = .ok (.iload_n 3, 1) := by decide +kernel
theorem dL_law_596 : decode cL_law 596 = .ok (.iconst 1, 1) := by decide +kernel
theorem dL_law_597 : decode cL_law 597 = .ok (.iadd, 1) := by decide +kernel
theorem dL_law_598 : decode cL_law 598 = .ok (.iaload, 1) := by decide +kernel
theorem dL_law_599 : decode cL_law 599 = .ok (.invokevirtual 77, 3) := by decide +kernel
theorem dL_law_602 : decode cL_law 602 = .ok (.pop, 1) := by decide +kernel
theorem dL_law_603 : decode cL_law 603 = .ok (.aload_n 2, 1) := by decide +kernel
theorem dL_law_604 : decode cL_law 604 = .ok (.aload_n 0, 1) := by decide +kernel
theorem dL_law_605 : decode cL_law 605 = .ok (.iload_n 3, 1) := by decide +kernel
theorem dL_law_606 : decode cL_law 606 = .ok (.iconst 1, 1) := by decide +kernel
theorem dL_law_607 : decode cL_law 607 = .ok (.iadd, 1) := by decide +kernel
theorem dL_law_608 : decode cL_law 608 = .ok (.iaload, 1) := by decide +kernel
theorem dL_law_609 : decode cL_law 609 = .ok (.invokevirtual 80, 3) := by decide +kernel
theorem dL_law_612 : decode cL_law 612 = .ok (.pop, 1) := by decide +kernel
theorem dL_law_613 : decode cL_law 613 = .ok (.goto 190, 3) := by decide +kernel
theorem dL_law_616 : decode cL_law 616 = .ok (.aload_n 1, 1) := by decide +kernel
theorem dL_law_617 : decode cL_law 617 = .ok (.aload_n 0, 1) := by decide +kernel
theorem dL_law_618 : decode cL_law 618 = .ok (.iload_n 3, 1) := by decide +kernel
theorem dL_law_619 : decode cL_law 619 = .ok (.iconst 1, 1) := by decide +kernel
theorem dL_law_620 : decode cL_law 620 = .ok (.iadd, 1) := by decide +kernel
theorem dL_law_621 : decode cL_law 621 = .ok (.iaload, 1) := by decide +kernel
theorem dL_law_622 : decode cL_law 622 = .ok (.invokevirtual 81, 3) := by decide +kernel
theorem dL_law_625 : decode cL_law 625 = .ok (.pop, 1) := by decide +kernel
theorem dL_law_626 : decode cL_law 626 = .ok (.aload_n 2, 1) := by decide +kernel
theorem dL_law_627 : decode cL_law 627 = .ok (.aload_n 0, 1) := by decide +kernel
theorem dL_law_628 : decode cL_law 628 = .ok (.iload_n 3, 1) := by decide +kernel
theorem dL_law_629 : decode cL_law 629 = .ok (.iconst 1, 1) := by decide +kernel
theorem dL_law_630 : decode cL_law 630 = .ok (.iadd, 1) := by decide +kernel
theorem dL_law_631 : decode cL_law 631 = .ok (.iaload, 1) := by decide +kernel
theorem dL_law_632 : decode cL_law 632 = .ok (.invokevirtual 84, 3) := by decide +kernel
theorem dL_law_635 : decode cL_law 635 = .ok (.pop, 1) := by decide +kernel
theorem dL_law_636 : decode cL_law 636 = .ok (.goto 167, 3) := by decide +kernel
theorem dL_law_639 : decode cL_law 639 = .ok (.aload_n 1, 1) := by decide +kernel
theorem dL_law_640 : decode cL_law 640 = .ok (.invokevirtual 85, 3) := by decide +kernel
theorem dL_law_643 : decode cL_law 643 = .ok (.pop, 1) := by decide +kernel
theorem dL_law_644 : decode cL_law 644 = .ok (.aload_n 2, 1) := by decide +kernel
theorem dL_law_645 : decode cL_law 645 = .ok (.invokevirtual 88, 3) := by decide +kernel
theorem dL_law_648 : decode cL_law 648 = .ok (.pop, 1) := by decide +kernel
theorem dL_law_649 : decode cL_law 649 = .ok (.goto 154, 3) := by decide +kernel
theorem dL_law_652 : decode cL_law 652 = .ok (.aload_n 1, 1) := by decide +kernel
theorem dL_law_653 : decode cL_law 653 = .ok (.aload_n 0, 1) := by decide +kernel
theorem dL_law_654 : decode cL_law 654 = .ok (.iload_n 3, 1) := by decide +kernel
theorem dL_law_655 : decode cL_law 655 = .ok (.iconst 1, 1) := by decide +kernel
theorem dL_law_656 : decode cL_law 656 = .ok (.iadd, 1) := by decide +kernel
theorem dL_law_657 : decode cL_law 657 = .ok (.iaload, 1) := by decide +kernel
theorem dL_law_658 : decode cL_law 658 = .ok (.i2l, 1) := by decide +kernel
theorem dL_law_659 : decode cL_law 659 = .ok (.bipush 32, 2) := by decide +kernel
theorem dL_law_661 : decode cL_law 661 = .ok (.lshl, 1) := by decide +kernel
theorem dL_law_662 : decode cL_law 662 = .ok (.aload_n 0, 1) := by decide +kernel
theorem dL_law_663 : decode cL_law 663 = .ok (.iload_n 3, 1) := by decide +kernel
theorem dL_law_664 : decode cL_law 664 = .ok (.iconst 2, 1) := by decide +kernel
theorem dL_law_665 : decode cL_law 665 = .ok (.iadd, 1) := by decide +kernel
theorem dL_law_666 : decode cL_law 666 = .ok (.iaload, 1) := by decide +kernel
theorem dL_law_667 : decode cL_law 667 = .ok (.i2l, 1) := by decide +kernel
theorem dL_law_668 : decode cL_law 668 = .ok (.ldc2_w 89, 3) := by decide +kernel
theorem dL_law_671 : decode cL_law 671 = .ok (.land, 1) := by decide +kernel
theorem dL_law_672 : decode cL_law 672 = .ok (.lor, 1) := by decide +kernel
theorem dL_law_673 : decode cL_law 673 = .ok (.invokevirtual 91, 3) := by decide +kernel
theorem dL_law_676 : decode cL_law 676 = .ok (.pop, 1) := by decide +kernel
theorem dL_law_677 : decode cL_law 677 = .ok (.aload_n 2, 1) := by decide +kernel
theorem dL_law_678 : decode cL_law 678 = .ok (.aload_n 0, 1) := by decide +kernel
theorem dL_law_679 : decode cL_law 679 = .ok (.iload_n 3, 1) := by decide +kernel
theorem dL_law_680 : decode cL_law 680 = .ok (.iconst 1, 1) := by decide +kernel
theorem dL_law_681 : decode cL_law 681 = .ok (.iadd, 1) := by decide +kernel
theorem dL_law_682 : decode cL_law 682 = .ok (.iaload, 1) := by decide +kernel
theorem dL_law_683 : decode cL_law 683 = .ok (.i2l, 1) := by decide +kernel
theorem dL_law_684 : decode cL_law 684 = .ok (.bipush 32, 2) := by decide +kernel
theorem dL_law_686 : decode cL_law 686 = .ok (.lshl, 1) := by decide +kernel
theorem dL_law_687 : decode cL_law 687 = .ok (.aload_n 0, 1) := by decide +kernel
theorem dL_law_688 : decode cL_law 688 = .ok (.iload_n 3, 1) := by decide +kernel
theorem dL_law_689 : decode cL_law 689 = .ok (.iconst 2, 1) := by decide +kernel
theorem dL_law_690 : decode cL_law 690 = .ok (.iadd, 1) := by decide +kernel
theorem dL_law_691 : decode cL_law 691 = .ok (.iaload, 1) := by decide +kernel
theorem dL_law_692 : decode cL_law 692 = .ok (.i2l, 1) := by decide +kernel
theorem dL_law_693 : decode cL_law 693 = .ok (.ldc2_w 89, 3) := by decide +kernel
theorem dL_law_696 : decode cL_law 696 = .ok (.land, 1) := by decide +kernel
theorem dL_law_697 : decode cL_law 697 = .ok (.lor, 1) := by decide +kernel
theorem dL_law_698 : decode cL_law 698 = .ok (.invokevirtual 95, 3) := by decide +kernel
theorem dL_law_701 : decode cL_law 701 = .ok (.pop, 1) := by decide +kernel
theorem dL_law_702 : decode cL_law 702 = .ok (.goto 101, 3) := by decide +kernel
theorem dL_law_705 : decode cL_law 705 = .ok (.aload_n 1, 1) := by decide +kernel
theorem dL_law_706 : decode cL_law 706 = .ok (.invokevirtual 96, 3) := by decide +kernel
theorem dL_law_709 : decode cL_law 709 = .ok (.aload_n 2, 1) := by decide +kernel
theorem dL_law_710 : decode cL_law 710 = .ok (.invokevirtual 99, 3) := by decide +kernel
theorem dL_law_713 : decode cL_law 713 = .ok (.if_icmp .eq 90, 3) := by decide +kernel
theorem dL_law_716 : decode cL_law 716 = .ok (.iconst 0, 1) := by decide +kernel
theorem dL_law_717 : decode cL_law 717 = .ok (.ireturn, 1) := by decide +kernel
theorem dL_law_718 : decode cL_law 718 = .ok (.aload_n 1, 1) := by decide +kernel
theorem dL_law_719 : decode cL_law 719 = .ok (.invokevirtual 100, 3) := by decide +kernel
theorem dL_law_722 : decode cL_law 722 = .ok (.pop, 1) := by decide +kernel
theorem dL_law_723 : decode cL_law 723 = .ok (.aload_n 2, 1) := by decide +kernel
theorem dL_law_724 : decode cL_law 724 = .ok (.invokevirtual 103, 3) := by decide +kernel
theorem dL_law_727 : decode cL_law 727 = .ok (.pop, 1) := by decide +kernel
theorem dL_law_728 : decode cL_law 728 = .ok (.goto 75, 3) := by decide +kernel
theorem dL_law_731 : decode cL_law 731 = .ok (.aload_n 1, 1) := by decide +kernel
theorem dL_law_732 : decode cL_law 732 = .ok (.invokevirtual 104, 3) := by decide +kernel
theorem dL_law_735 : decode cL_law 735 = .ok (.pop, 1) := by decide +kernel
theorem dL_law_736 : decode cL_law 736 = .ok (.aload_n 2, 1) := by decide +kernel
theorem dL_law_737 : decode cL_law 737 = .ok (.invokevirtual 107, 3) := by decide +kernel
theorem dL_law_740 : decode cL_law 740 = .ok (.pop, 1) := by decide +kernel
theorem dL_law_741 : decode cL_law 741 = .ok (.goto 62, 3) := by decide +kernel
theorem dL_law_744 : decode cL_law 744 = .ok (.aload_n 1, 1) := by decide +kernel
theorem dL_law_745 : decode cL_law 745 = .ok (.invokevirtual 108, 3) := by decide +kernel
theorem dL_law_748 : decode cL_law 748 = .ok (.pop, 1) := by decide +kernel
theorem dL_law_749 : decode cL_law 749 = .ok (.aload_n 2, 1) := by decide +kernel
theorem dL_law_750 : decode cL_law 750 = .ok (.invokevirtual 111, 3) := by decide +kernel
theorem dL_law_753 : decode cL_law 753 = .ok (.pop, 1) := by decide +kernel
theorem dL_law_754 : decode cL_law 754 = .ok (.goto 49, 3) := by decide +kernel
theorem dL_law_757 : decode cL_law 757 = .ok (.aload_n 1, 1) := by decide +kernel
theorem dL_law_758 : decode cL_law 758 = .ok (.aload_n 0, 1) := by decide +kernel
theorem dL_law_759 : decode cL_law 759 = .ok (.iload_n 3, 1) := by decide +kernel
theorem dL_law_760 : decode cL_law 760 = .ok (.iconst 1, 1) := by decide +kernel
theorem dL_law_761 : decode cL_law 761 = .ok (.iadd, 1) := by decide +kernel
theorem dL_law_762 : decode cL_law 762 = .ok (.iaload, 1) := by decide +kernel
theorem dL_law_763 : decode cL_law 763 = .ok (.invokevirtual 112, 3) := by decide +kernel
theorem dL_law_766 : decode cL_law 766 = .ok (.pop, 1) := by decide +kernel
theorem dL_law_767 : decode cL_law 767 = .ok (.aload_n 2, 1) := by decide +kernel
theorem dL_law_768 : decode cL_law 768 = .ok (.aload_n 0, 1) := by decide +kernel
theorem dL_law_769 : decode cL_law 769 = .ok (.iload_n 3, 1) := by decide +kernel
theorem dL_law_770 : decode cL_law 770 = .ok (.iconst 1, 1) := by decide +kernel
theorem dL_law_771 : decode cL_law 771 = .ok (.iadd, 1) := by decide +kernel
theorem dL_law_772 : decode cL_law 772 = .ok (.iaload, 1) := by decide +kernel
theorem dL_law_773 : decode cL_law 773 = .ok (.invokevirtual 115, 3) := by decide +kernel
theorem dL_law_776 : decode cL_law 776 = .ok (.pop, 1) := by decide +kernel
theorem dL_law_777 : decode cL_law 777 = .ok (.goto 26, 3) := by decide +kernel
theorem dL_law_780 : decode cL_law 780 = .ok (.aload_n 1, 1) := by decide +kernel
theorem dL_law_781 : decode cL_law 781 = .ok (.aload_n 0, 1) := by decide +kernel
theorem dL_law_782 : decode cL_law 782 = .ok (.iload_n 3, 1) := by decide +kernel
theorem dL_law_783 : decode cL_law 783 = .ok (.iconst 1, 1) := by decide +kernel
theorem dL_law_784 : decode cL_law 784 = .ok (.iadd, 1) := by decide +kernel
theorem dL_law_785 : decode cL_law 785 = .ok (.iaload, 1) := by decide +kernel
theorem dL_law_786 : decode cL_law 786 = .ok (.invokevirtual 116, 3) := by decide +kernel
theorem dL_law_789 : decode cL_law 789 = .ok (.pop, 1) := by decide +kernel
theorem dL_law_790 : decode cL_law 790 = .ok (.aload_n 2, 1) := by decide +kernel
theorem dL_law_791 : decode cL_law 791 = .ok (.aload_n 0, 1) := by decide +kernel
theorem dL_law_792 : decode cL_law 792 = .ok (.iload_n 3, 1) := by decide +kernel
theorem dL_law_793 : decode cL_law 793 = .ok (.iconst 1, 1) := by decide +kernel
theorem dL_law_794 : decode cL_law 794 = .ok (.iadd, 1) := by decide +kernel
theorem dL_law_795 : decode cL_law 795 = .ok (.iaload, 1) := by decide +kernel
theorem dL_law_796 : decode cL_law 796 = .ok (.invokevirtual 119, 3) := by decide +kernel
theorem dL_law_799 : decode cL_law 799 = .ok (.pop, 1) := by decide +kernel
theorem dL_law_800 : decode cL_law 800 = .ok (.goto 3, 3) := by decide +kernel
theorem dL_law_803 : decode cL_law 803 = .ok (.iinc 3 4, 3) := by decide +kernel
theorem dL_law_806 : decode cL_law 806 = .ok (.goto (-788), 3) := by decide +kernel
theorem dL_law_809 : decode cL_law 809 = .ok (.iconst 1, 1) := by decide +kernel
theorem dL_law_810 : decode cL_law 810 = .ok (.ireturn, 1) := by decide +kernel

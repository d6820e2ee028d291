theorem dX6_found_5 : decode cX6_found 5 = .ok (.bipush (-10), 2) := by decide +kernel
theorem dX6_found_7 : decode cX6_found 7 = .ok (.iload_n 1, 1) := by decide +kernel
theorem dX6_found_8 : decode cX6_found 8 = .ok (.isub, 1) := by decide +kernel
theorem dX6_found_9 : decode cX6_found 9 = .ok (.ireturn, 1) := by decide +kernel
theorem dX6_refuseItem_0 : decode cX6_refuseItem 0 = .ok (.iload_n 1, 1) := by decide +kernel
theorem dX6_refuseItem_1 : decode cX6_refuseItem 1 = .ok (.iconst 4, 1) := by decide +kernel
theorem dX6_refuseItem_2 : decode cX6_refuseItem 2 = .ok (.invokestatic 77, 3) := by decide +kernel
theorem dX6_refuseItem_5 : decode cX6_refuseItem 5 = .ok (.ifCond .eq 11, 3) := by decide +kernel
theorem dX6_refuseItem_8 : decode cX6_refuseItem 8 = .ok (.iload_n 2, 1) := by decide +kernel
theorem dX6_refuseItem_9 : decode cX6_refuseItem 9 = .ok (.iconst 3, 1) := by decide +kernel
theorem dX6_refuseItem_10 : decode cX6_refuseItem 10 = .ok (.invokestatic 77, 3) := by decide +kernel
theorem dX6_refuseItem_13 : decode cX6_refuseItem 13 = .ok (.ifCond .ne 6, 3) := by decide +kernel
theorem dX6_refuseItem_16 : decode cX6_refuseItem 16 = .ok (.bipush (-2), 2) := by decide +kernel
theorem dX6_refuseItem_18 : decode cX6_refuseItem 18 = .ok (.ireturn, 1) := by decide +kernel
theorem dX6_refuseItem_19 : decode cX6_refuseItem 19 = .ok (.aload_n 0, 1) := by decide +kernel
theorem dX6_refuseItem_20 : decode cX6_refuseItem 20 = .ok (.getfield 45, 3) := by decide +kernel
theorem dX6_refuseItem_23 : decode cX6_refuseItem 23 = .ok (.iload_n 1, 1) := by decide +kernel
theorem dX6_refuseItem_24 : decode cX6_refuseItem 24 = .ok (.invokevirtual 119, 3) := by decide +kernel
theorem dX6_refuseItem_27 : decode cX6_refuseItem 27 = .ok (.ifCond .eq 9, 3) := by decide +kernel
theorem dX6_refuseItem_30 : decode cX6_refuseItem 30 = .ok (.aload_n 0, 1) := by decide +kernel
theorem dX6_refuseItem_31 : decode cX6_refuseItem 31 = .ok (.iconst 1, 1) := by decide +kernel
theorem dX6_refuseItem_32 : decode cX6_refuseItem 32 = .ok (.invokevirtual 122, 3) := by decide +kernel
theorem dX6_refuseItem_35 : decode cX6_refuseItem 35 = .ok (.ireturn, 1) := by decide +kernel
theorem dX6_refuseItem_36 : decode cX6_refuseItem 36 = .ok (.aload_n 0, 1) := by decide +kernel
theorem dX6_refuseItem_37 : decode cX6_refuseItem 37 = .ok (.getfield 45, 3) := by decide +kernel
theorem dX6_refuseItem_40 : decode cX6_refuseItem 40 = .ok (.iload_n 1, 1) := by decide +kernel
theorem dX6_refuseItem_41 : decode cX6_refuseItem 41 = .ok (.invokevirtual 265, 3) := by decide +kernel
theorem dX6_refuseItem_44 : decode cX6_refuseItem 44 = .ok (.iload_n 2, 1) := by decide +kernel
theorem dX6_refuseItem_45 : decode cX6_refuseItem 45 = .ok (.if_icmp .eq 9, 3) := by decide +kernel
theorem dX6_refuseItem_48 : decode cX6_refuseItem 48 = .ok (.aload_n 0, 1) := by decide +kernel
theorem dX6_refuseItem_49 : decode cX6_refuseItem 49 = .ok (.iconst 3, 1) := by decide +kernel
theorem dX6_refuseItem_50 : decode cX6_refuseItem 50 = .ok (.invokevirtual 122, 3) := by decide +kernel
theorem dX6_refuseItem_53 : decode cX6_refuseItem 53 = .ok (.ireturn, 1) := by decide +kernel
theorem dX6_refuseItem_54 : decode cX6_refuseItem 54 = .ok (.iload_n 3, 1) := by decide +kernel
theorem dX6_refuseItem_55 : decode cX6_refuseItem 55 = .ok (.aload_n 0, 1) := by decide +kernel
theorem dX6_refuseItem_56 : decode cX6_refuseItem 56 = .ok (.getfield 45, 3) := by decide +kernel
theorem dX6_refuseItem_59 : decode cX6_refuseItem 59 = .ok (.iload_n 1, 1) := by decide +kernel
theorem dX6_refuseItem_60 : decode cX6_refuseItem 60 = .ok (.invokevirtual 125, 3) := by decide +kernel
theorem dX6_refuseItem_63 : decode cX6_refuseItem 63 = .ok (.invokestatic 77, 3) := by decide +kernel
theorem dX6_refuseItem_66 : decode cX6_refuseItem 66 = .ok (.ifCond .eq 7, 3) := by decide +kernel
theorem dX6_refuseItem_69 : decode cX6_refuseItem 69 = .ok (.iconst 0, 1) := by decide +kernel
theorem dX6_refuseItem_70 : decode cX6_refuseItem 70 = .ok (.goto 8, 3) := by decide +kernel
theorem dX6_refuseItem_73 : decode cX6_refuseItem 73 = .ok (.aload_n 0, 1) := by decide +kernel
theorem dX6_refuseItem_74 : decode cX6_refuseItem 74 = .ok (.iconst 2, 1) := by decide +kernel
theorem dX6_refuseItem_75 : decode cX6_refuseItem 75 = .ok (.invokevirtual 122, 3) := by decide +kernel
theorem dX6_refuseItem_78 : decode cX6_refuseItem 78 = .ok (.ireturn, 1) := by decide +kernel
theorem dX6_measureAnew_0 : decode cX6_measureAnew 0 = .ok (.aload_n 0, 1) := by decide +kernel
theorem dX6_measureAnew_1 : decode cX6_measureAnew 1 = .ok (.getfield 10, 3) := by decide +kernel
theorem dX6_measureAnew_4 : decode cX6_measureAnew 4 = .ok (.invokevirtual 355, 3) := by decide +kernel
theorem dX6_measureAnew_7 : decode cX6_measureAnew 7 = .ok (.aload_n 0, 1) := by decide +kernel
theorem dX6_measureAnew_8 : decode cX6_measureAnew 8 = .ok (.iconst 0, 1) := by decide +kernel
theorem dX6_measureAnew_9 : decode cX6_measureAnew 9 = .ok (.putfield 358, 3) := by decide +kernel
theorem dX6_measureAnew_12 : decode cX6_measureAnew 12 = .ok (.aload_n 0, 1) := by decide +kernel
theorem dX6_measureAnew_13 : decode cX6_measureAnew 13 = .ok (.iconst 0, 1) := by decide +kernel
theorem dX6_measureAnew_14 : decode cX6_measureAnew 14 = .ok (.putfield 201, 3) := by decide +kernel
theorem dX6_measureAnew_17 : decode cX6_measureAnew 17 = .ok (.return_, 1) := by decide +kernel
theorem dX6_knowParts_0 : decode cX6_knowParts 0 = .ok (.aload_n 0, 1) := by decide +kernel
theorem dX6_knowParts_1 : decode cX6_knowParts 1 = .ok (.getfield 358, 3) := by decide +kernel
theorem dX6_knowParts_4 : decode cX6_knowParts 4 = .ok (.ifCond .ne 26, 3) := by decide +kernel
theorem dX6_knowParts_7 : decode cX6_knowParts 7 = .ok (.aload_n 0, 1) := by decide +kernel
theorem dX6_knowParts_8 : decode cX6_knowParts 8 = .ok (.getfield 24, 3) := by decide +kernel
theorem dX6_knowParts_11 : decode cX6_knowParts 11 = .ok (.aload_n 0, 1) := by decide +kernel
theorem dX6_knowParts_12 : decode cX6_knowParts 12 = .ok (.getfield 20, 3) := by decide +kernel
theorem dX6_knowParts_15 : decode cX6_knowParts 15 = .ok (.aload_n 0, 1) := by decide +kernel
theorem dX6_knowParts_16 : decode cX6_knowParts 16 = .ok (.getfield 10, 3) := by decide +kernel
theorem dX6_knowParts_19 : decode cX6_knowParts 19 = .ok (.invokevirtual 211, 3) := by decide +kernel
theorem dX6_knowParts_22 : decode cX6_knowParts 22 = .ok (.invokevirtual 361, 3) := by decide +kernel
theorem dX6_knowParts_25 : decode cX6_knowParts 25 = .ok (.aload_n 0, 1) := by decide +kernel
theorem dX6_knowParts_26 : decode cX6_knowParts 26 = .ok (.iconst 1, 1) := by decide +kernel
theorem dX6_knowParts_27 : decode cX6_knowParts 27 = .ok (.putfield 358, 3) := by decide +kernel
theorem dX6_knowParts_30 : decode cX6_knowParts 30 = .ok (.return_, 1) := by decide +kernel
theorem dX6_weighLosses_0 : decode cX6_weighLosses 0 = .ok (.aload_n 0, 1) := by decide +kernel
theorem dX6_weighLosses_1 : decode cX6_weighLosses 1 = .ok (.getfield 56, 3) := by decide +kernel
theorem dX6_weighLosses_4 : decode cX6_weighLosses 4 = .ok (.iconst 0, 1) := by decide +kernel
theorem dX6_weighLosses_5 : decode cX6_weighLosses 5 = .ok (.invokestatic 71, 3) := by decide +kernel
theorem dX6_weighLosses_8 : decode cX6_weighLosses 8 = .ok (.aload_n 0, 1) := by decide +kernel
theorem dX6_weighLosses_9 : decode cX6_weighLosses 9 = .ok (.getfield 20, 3) := by decide +kernel
theorem dX6_weighLosses_12 : decode cX6_weighLosses 12 = .ok (.iload_n 1, 1) := by decide +kernel
theorem dX6_weighLosses_13 : decode cX6_weighLosses 13 = .ok (.invokevirtual 365, 3) := by decide +kernel
theorem dX6_weighLosses_16 : decode cX6_weighLosses 16 = .ok (.istore_n 3, 1) := by decide +kernel
theorem dX6_weighLosses_17 : decode cX6_weighLosses 17 = .ok (.aload_n 0, 1) := by decide +kernel
theorem dX6_weighLosses_18 : decode cX6_weighLosses 18 = .ok (.getfield 10, 3) := by decide +kernel
theorem dX6_weighLosses_21 : decode cX6_weighLosses 21 = .ok (.iload_n 1, 1) := by decide +kernel
theorem dX6_weighLosses_22 : decode cX6_weighLosses 22 = .ok (.iload_n 2, 1) := by decide +kernel
theorem dX6_weighLosses_23 : decode cX6_weighLosses 23 = .ok (.invokevirtual 115, 3) := by decide +kernel
theorem dX6_weighLosses_26 : decode cX6_weighLosses 26 = .ok (.istore 4, 2) := by decide +kernel
theorem dX6_weighLosses_28 : decode cX6_weighLosses 28 = .ok (.iload_n 3, 1) := by decide +kernel
theorem dX6_weighLosses_29 : decode cX6_weighLosses 29 = .ok (.istore 5, 2) := by decide +kernel
theorem dX6_weighLosses_31 : decode cX6_weighLosses 31 = .ok (.iload 5, 2) := by decide +kernel
theorem dX6_weighLosses_33 : decode cX6_weighLosses 33 = .ok (.iload_n 3, 1) := by decide +kernel
theorem dX6_weighLosses_34 : decode cX6_weighLosses 34 = .ok (.aload_n 0, 1) := by decide +kernel
theorem dX6_weighLosses_35 : decode cX6_weighLosses 35 = .ok (.getfield 20, 3) := by decide +kernel
theorem dX6_weighLosses_38 : decode cX6_weighLosses 38 = .ok (.invokevirtual 368, 3) := by decide +kernel
theorem dX6_weighLosses_41 : decode cX6_weighLosses 41 = .ok (.iadd, 1) := by decide +kernel
theorem dX6_weighLosses_42 : decode cX6_weighLosses 42 = .ok (.if_icmp .ge 43, 3) := by decide +kernel
theorem dX6_weighLosses_45 : decode cX6_weighLosses 45 = .ok (.aload_n 0, 1) := by decide +kernel
theorem dX6_weighLosses_46 : decode cX6_weighLosses 46 = .ok (.getfield 56, 3) := by decide +kernel
theorem dX6_weighLosses_49 : decode cX6_weighLosses 49 = .ok (.aload_n 0, 1) := by decide +kernel
theorem dX6_weighLosses_50 : decode cX6_weighLosses 50 = .ok (.getfield 49, 3) := by decide +kernel
theorem dX6_weighLosses_53 : decode cX6_weighLosses 53 = .ok (.iload 5, 2) := by decide +kernel
theorem dX6_weighLosses_55 : decode cX6_weighLosses 55 = .ok (.iaload, 1) := by decide +kernel
theorem dX6_weighLosses_56 : decode cX6_weighLosses 56 = .ok (.dup2, 1) := by decide +kernel
theorem dX6_weighLosses_57 : decode cX6_weighLosses 57 = .ok (.iaload, 1) := by decide +kernel
theorem dX6_weighLosses_58 : decode cX6_weighLosses 58 = .ok (.aload_n 0, 1) := by decide +kernel
theorem dX6_weighLosses_59 : decode cX6_weighLosses 59 = .ok (.getfield 10, 3) := by decide +kernel
theorem dX6_weighLosses_62 : decode cX6_weighLosses 62 = .ok (.iload 5, 2) := by decide +kernel
theorem dX6_weighLosses_64 : decode cX6_weighLosses 64 = .ok (.invokevirtual 149, 3) := by decide +kernel
theorem dX6_weighLosses_67 : decode cX6_weighLosses 67 = .ok (.aload_n 0, 1) := by decide +kernel
theorem dX6_weighLosses_68 : decode cX6_weighLosses 68 = .ok (.getfield 10, 3) := by decide +kernel
theorem dX6_weighLosses_71 : decode cX6_weighLosses 71 = .ok (.iload 5, 2) := by decide +kernel
theorem dX6_weighLosses_73 : decode cX6_weighLosses 73 = .ok (.invokevirtual 371, 3) := by decide +kernel
theorem dX6_weighLosses_76 : decode cX6_weighLosses 76 = .ok (.isub, 1) := by decide +kernel
theorem dX6_weighLosses_77 : decode cX6_weighLosses 77 = .ok (.iadd, 1) := by decide +kernel
theorem dX6_weighLosses_78 : decode cX6_weighLosses 78 = .ok (.iastore, 1) := by decide +kernel
theorem dX6_weighLosses_79 : decode cX6_weighLosses 79 = .ok (.iinc 5 1, 3) := by decide +kernel
theorem dX6_weighLosses_82 : decode cX6_weighLosses 82 = .ok (.goto (-51), 3) := by decide +kernel
theorem dX6_weighLosses_85 : decode cX6_weighLosses 85 = .ok (.aload_n 0, 1) := by decide +kernel
theorem dX6_weighLosses_86 : decode cX6_weighLosses 86 = .ok (.getfield 10, 3) := by decide +kernel
theorem dX6_weighLosses_89 : decode cX6_weighLosses 89 = .ok (.iload_n 1, 1) := by decide +kernel
theorem dX6_weighLosses_90 : decode cX6_weighLosses 90 = .ok (.iload 4, 2) := by decide +kernel
theorem dX6_weighLosses_92 : decode cX6_weighLosses 92 = .ok (.invokevirtual 115, 3) := by decide +kernel
theorem dX6_weighLosses_95 : decode cX6_weighLosses 95 = .ok (.pop, 1) := by decide +kernel
theorem dX6_weighLosses_96 : decode cX6_weighLosses 96 = .ok (.return_, 1) := by decide +kernel
theorem dX6_mostLost_0 : decode cX6_mostLost 0 = .ok (.aload_n 0, 1) := by decide +kernel
theorem dX6_mostLost_1 : decode cX6_mostLost 1 = .ok (.getfield 56, 3) := by decide +kernel
theorem dX6_mostLost_4 : decode cX6_mostLost 4 = .ok (.iconst 0, 1) := by decide +kernel
theorem dX6_mostLost_5 : decode cX6_mostLost 5 = .ok (.iaload, 1) := by decide +kernel
theorem dX6_mostLost_6 : decode cX6_mostLost 6 = .ok (.istore_n 1, 1) := by decide +kernel
theorem dX6_mostLost_7 : decode cX6_mostLost 7 = .ok (.iconst 1, 1) := by decide +kernel
theorem dX6_mostLost_8 : decode cX6_mostLost 8 = .ok (.istore_n 2, 1) := by decide +kernel
theorem dX6_mostLost_9 : decode cX6_mostLost 9 = .ok (.iload_n 2, 1) := by decide +kernel
theorem dX6_mostLost_10 : decode cX6_mostLost 10 = .ok (.iconst 4, 1) := by decide +kernel
theorem dX6_mostLost_11 : decode cX6_mostLost 11 = .ok (.if_icmp .ge 20, 3) := by decide +kernel
theorem dX6_mostLost_14 : decode cX6_mostLost 14 = .ok (.iload_n 1, 1) := by decide +kernel
theorem dX6_mostLost_15 : decode cX6_mostLost 15 = .ok (.aload_n 0, 1) := by decide +kernel
theorem dX6_mostLost_16 : decode cX6_mostLost 16 = .ok (.getfield 56, 3) := by decide +kernel
theorem dX6_mostLost_19 : decode cX6_mostLost 19 = .ok (.iload_n 2, 1) := by decide +kernel
theorem dX6_mostLost_20 : decode cX6_mostLost 20 = .ok (.iaload, 1) := by decide +kernel
theorem dX6_mostLost_21 : decode cX6_mostLost 21 = .ok (.invokestatic 374, 3) := by decide +kernel
theorem dX6_mostLost_24 : decode cX6_mostLost 24 = .ok (.istore_n 1, 1) := by decide +kernel
theorem dX6_mostLost_25 : decode cX6_mostLost 25 = .ok (.iinc 2 1, 3) := by decide +kernel
theorem dX6_mostLost_28 : decode cX6_mostLost 28 = .ok (.goto (-19), 3) := by decide +kernel
theorem dX6_mostLost_31 : decode cX6_mostLost 31 = .ok (.iload_n 1, 1) := by decide +kernel
theorem dX6_mostLost_32 : decode cX6_mostLost 32 = .ok (.ireturn, 1) := by decide +kernel
theorem dX6_weighFall_0 : decode cX6_weighFall 0 = .ok (.aload_n 0, 1) := by decide +kernel
theorem dX6_weighFall_1 : decode cX6_weighFall 1 = .ok (.getfield 10, 3) := by decide +kernel
theorem dX6_weighFall_4 : decode cX6_weighFall 4 = .ok (.iload_n 1, 1) := by decide +kernel
theorem dX6_weighFall_5 : decode cX6_weighFall 5 = .ok (.iconst 0, 1) := by decide +kernel
theorem dX6_weighFall_6 : decode cX6_weighFall 6 = .ok (.invokevirtual 115, 3) := by decide +kernel
theorem dX6_weighFall_9 : decode cX6_weighFall 9 = .ok (.istore_n 2, 1) := by decide +kernel
theorem dX6_weighFall_10 : decode cX6_weighFall 10 = .ok (.iconst 0, 1) := by decide +kernel
theorem dX6_weighFall_11 : decode cX6_weighFall 11 = .ok (.istore_n 3, 1) := by decide +kernel
theorem dX6_weighFall_12 : decode cX6_weighFall 12 = .ok (.iload_n 3, 1) := by decide +kernel
theorem dX6_weighFall_13 : decode cX6_weighFall 13 = .ok (.aload_n 0, 1) := by decide +kernel
theorem dX6_weighFall_14 : decode cX6_weighFall 14 = .ok (.getfield 20, 3) := by decide +kernel
theorem dX6_weighFall_17 : decode cX6_weighFall 17 = .ok (.invokevirtual 155, 3) := by decide +kernel
theorem dX6_weighFall_20 : decode cX6_weighFall 20 = .ok (.if_icmp .ge 23, 3) := by decide +kernel
theorem dX6_weighFall_23 : decode cX6_weighFall 23 = .ok (.aload_n 0, 1) := by decide +kernel
theorem dX6_weighFall_24 : decode cX6_weighFall 24 = .ok (.getfield 59, 3) := by decide +kernel
theorem dX6_weighFall_27 : decode cX6_weighFall 27 = .ok (.iload_n 3, 1) := by decide +kernel
theorem dX6_weighFall_28 : decode cX6_weighFall 28 = .ok (.aload_n 0, 1) := by decide +kernel
theorem dX6_weighFall_29 : decode cX6_weighFall 29 = .ok (.getfield 10, 3) := by decide +kernel
theorem dX6_weighFall_32 : decode cX6_weighFall 32 = .ok (.iload_n 3, 1) := by decide +kernel
theorem dX6_weighFall_33 : decode cX6_weighFall 33 = .ok (.invokevirtual 371, 3) := by decide +kernel
theorem dX6_weighFall_36 : decode cX6_weighFall 36 = .ok (.iastore, 1) := by decide +kernel
theorem dX6_weighFall_37 : decode cX6_weighFall 37 = .ok (.iinc 3 1, 3) := by decide +kernel
theorem dX6_weighFall_40 : decode cX6_weighFall 40 = .ok (.goto (-28), 3) := by decide +kernel
theorem dX6_weighFall_43 : decode cX6_weighFall 43 = .ok (.aload_n 0, 1) := by decide +kernel
theorem dX6_weighFall_44 : decode cX6_weighFall 44 = .ok (.getfield 10, 3) := by decide +kernel
theorem dX6_weighFall_47 : decode cX6_weighFall 47 = .ok (.iload_n 1, 1) := by decide +kernel
theorem dX6_weighFall_48 : decode cX6_weighFall 48 = .ok (.iload_n 2, 1) := by decide +kernel
theorem dX6_weighFall_49 : decode cX6_weighFall 49 = .ok (.invokevirtual 115, 3) := by decide +kernel
theorem dX6_weighFall_52 : decode cX6_weighFall 52 = .ok (.pop, 1) := by decide +kernel
theorem dX6_weighFall_53 : decode cX6_weighFall 53 = .ok (.return_, 1) := by decide +kernel
theorem dX6_worthTo_0 : decode cX6_worthTo 0 = .ok (.iconst 0, 1) := by decide +kernel
theorem dX6_worthTo_1 : decode cX6_worthTo 1 = .ok (.istore_n 3, 1) := by decide +kernel
theorem dX6_worthTo_2 : decode cX6_worthTo 2 = .ok (.iconst 0, 1) := by decide +kernel
theorem dX6_worthTo_3 : decode cX6_worthTo 3 = .ok (.istore 4, 2) := by decide +kernel
theorem dX6_worthTo_5 : decode cX6_worthTo 5 = .ok (.iload 4, 2) := by decide +kernel
theorem dX6_worthTo_7 : decode cX6_worthTo 7 = .ok (.iconst 4, 1) := by decide +kernel
theorem dX6_worthTo_8 : decode cX6_worthTo 8 = .ok (.if_icmp .ge 44, 3) := by decide +kernel
theorem dX6_worthTo_11 : decode cX6_worthTo 11 = .ok (.iload_n 3, 1) := by decide +kernel
theorem dX6_worthTo_12 : decode cX6_worthTo 12 = .ok (.aload_n 0, 1) := by decide +kernel
theorem dX6_worthTo_13 : decode cX6_worthTo 13 = .ok (.getfield 10, 3) := by decide +kernel
theorem dX6_worthTo_16 : decode cX6_worthTo 16 = .ok (.iload_n 2, 1) := by decide +kernel
theorem dX6_worthTo_17 : decode cX6_worthTo 17 = .ok (.iload 4, 2) := by decide +kernel
theorem dX6_worthTo_19 : decode cX6_worthTo 19 = .ok (.invokevirtual 152, 3) := by decide +kernel
theorem dX6_worthTo_22 : decode cX6_worthTo 22 = .ok (.aload_n 0, 1) := by decide +kernel
theorem dX6_worthTo_23 : decode cX6_worthTo 23 = .ok (.getfield 10, 3) := by decide +kernel
theorem dX6_worthTo_26 : decode cX6_worthTo 26 = .ok (.iload 4, 2) := by decide +kernel
theorem dX6_worthTo_28 : decode cX6_worthTo 28 = .ok (.invokevirtual 377, 3) := by decide +kernel
theorem dX6_worthTo_31 : decode cX6_worthTo 31 = .ok (.imul, 1) := by decide +kernel
theorem dX6_worthTo_32 : decode cX6_worthTo 32 = .ok (.aload_n 0, 1) := by decide +kernel
theorem dX6_worthTo_33 : decode cX6_worthTo 33 = .ok (.getfield 53, 3) := by decide +kernel
theorem dX6_worthTo_36 : decode cX6_worthTo 36 = .ok (.iload_n 1, 1) := by decide +kernel
theorem dX6_worthTo_37 : decode cX6_worthTo 37 = .ok (.iconst 4, 1) := by decide +kernel
theorem dX6_worthTo_38 : decode cX6_worthTo 38 = .ok (.imul, 1) := by decide +kernel
theorem dX6_worthTo_39 : decode cX6_worthTo 39 = .ok (.iload 4, 2) := by decide +kernel
theorem dX6_worthTo_41 : decode cX6_worthTo 41 = .ok (.iadd, 1) := by decide +kernel
theorem dX6_worthTo_42 : decode cX6_worthTo 42 = .ok (.iaload, 1) := by decide +kernel
theorem dX6_worthTo_43 : decode cX6_worthTo 43 = .ok (.imul, 1) := by decide +kernel
theorem dX6_worthTo_44 : decode cX6_worthTo 44 = .ok (.iadd, 1) := by decide +kernel
theorem dX6_worthTo_45 : decode cX6_worthTo 45 = .ok (.istore_n 3, 1) := by decide +kernel
theorem dX6_worthTo_46 : decode cX6_worthTo 46 = .ok (.iinc 4 1, 3) := by decide +kernel
theorem dX6_worthTo_49 : decode cX6_worthTo 49 = .ok (.goto (-44), 3) := by decide +kernel
theorem dX6_worthTo_52 : decode cX6_worthTo 52 = .ok (.iload_n 3, 1) := by decide +kernel
theorem dX6_worthTo_53 : decode cX6_worthTo 53 = .ok (.ireturn, 1) := by decide +kernel
theorem dX6_wouldRather_0 : decode cX6_wouldRather 0 = .ok (.aload_n 0, 1) := by decide +kernel
theorem dX6_wouldRather_1 : decode cX6_wouldRather 1 = .ok (.aload_n 0, 1) := by decide +kernel
theorem dX6_wouldRather_2 : decode cX6_wouldRather 2 = .ok (.getfield 49, 3) := by decide +kernel
theorem dX6_wouldRather_5 : decode cX6_wouldRather 5 = .ok (.iload_n 1, 1) := by decide +kernel
theorem dX6_wouldRather_6 : decode cX6_wouldRather 6 = .ok (.iaload, 1) := by decide +kernel
theorem dX6_wouldRather_7 : decode cX6_wouldRather 7 = .ok (.iload_n 2, 1) := by decide +kernel
theorem dX6_wouldRather_8 : decode cX6_wouldRather 8 = .ok (.invokevirtual 189, 3) := by decide +kernel
theorem dX6_wouldRather_11 : decode cX6_wouldRather 11 = .ok (.aload_n 0, 1) := by decide +kernel
theorem dX6_wouldRather_12 : decode cX6_wouldRather 12 = .ok (.aload_n 0, 1) := by decide +kernel
theorem dX6_wouldRather_13 : decode cX6_wouldRather 13 = .ok (.getfield 49, 3) := by decide +kernel
theorem dX6_wouldRather_16 : decode cX6_wouldRather 16 = .ok (.iload_n 1, 1) := by decide +kernel
theorem dX6_wouldRather_17 : decode cX6_wouldRather 17 = .ok (.iaload, 1) := by decide +kernel
theorem dX6_wouldRather_18 : decode cX6_wouldRather 18 = .ok (.iload_n 1, 1) := by decide +kernel
theorem dX6_wouldRather_19 : decode cX6_wouldRather 19 = .ok (.invokevirtual 189, 3) := by decide +kernel
theorem dX6_wouldRather_22 : decode cX6_wouldRather 22 = .ok (.if_icmp .le 7, 3) := by decide +kernel
theorem dX6_wouldRather_25 : decode cX6_wouldRather 25 = .ok (.iconst 1, 1) := by decide +kernel
theorem dX6_wouldRather_26 : decode cX6_wouldRather 26 = .ok (.goto 4, 3) := by decide +kernel
theorem dX6_wouldRather_29 : decode cX6_wouldRather 29 = .ok (.iconst 0, 1) := by decide +kernel
theorem dX6_wouldRather_30 : decode cX6_wouldRather 30 = .ok (.ireturn, 1) := by decide +kernel
theorem dX6_wouldSwap_0 : decode cX6_wouldSwap 0 = .ok (.aload_n 0, 1) := by decide +kernel
theorem dX6_wouldSwap_1 : decode cX6_wouldSwap 1 = .ok (.getfield 49, 3) := by decide +kernel
theorem dX6_wouldSwap_4 : decode cX6_wouldSwap 4 = .ok (.iload_n 1, 1) := by decide +kernel
theorem dX6_wouldSwap_5 : decode cX6_wouldSwap 5 = .ok (.iaload, 1) := by decide +kernel
theorem dX6_wouldSwap_6 : decode cX6_wouldSwap 6 = .ok (.aload_n 0, 1) := by decide +kernel
theorem dX6_wouldSwap_7 : decode cX6_wouldSwap 7 = .ok (.getfield 49, 3) := by decide +kernel
theorem dX6_wouldSwap_10 : decode cX6_wouldSwap 10 = .ok (.iload_n 2, 1) := by decide +kernel
theorem dX6_wouldSwap_11 : decode cX6_wouldSwap 11 = .ok (.iaload, 1) := by decide +kernel
theorem dX6_wouldSwap_12 : decode cX6_wouldSwap 12 = .ok (.if_icmp .eq 25, 3) := by decide +kernel
theorem dX6_wouldSwap_15 : decode cX6_wouldSwap 15 = .ok (.aload_n 0, 1) := by decide +kernel
theorem dX6_wouldSwap_16 : decode cX6_wouldSwap 16 = .ok (.iload_n 1, 1) := by decide +kernel
theorem dX6_wouldSwap_17 : decode cX6_wouldSwap 17 = .ok (.iload_n 2, 1) := by decide +kernel
theorem dX6_wouldSwap_18 : decode cX6_wouldSwap 18 = .ok (.invokevirtual 380, 3) := by decide +kernel
theorem dX6_wouldSwap_21 : decode cX6_wouldSwap 21 = .ok (.ifCond .eq 16, 3) := by decide +kernel
theorem dX6_wouldSwap_24 : decode cX6_wouldSwap 24 = .ok (.aload_n 0, 1) := by decide +kernel
theorem dX6_wouldSwap_25 : decode cX6_wouldSwap 25 = .ok (.iload_n 2, 1) := by decide +kernel
theorem dX6_wouldSwap_26 : decode cX6_wouldSwap 26 = .ok (.iload_n 1, 1) := by decide +kernel
theorem dX6_wouldSwap_27 : decode cX6_wouldSwap 27 = .ok (.invokevirtual 380, 3) := by decide +kernel
theorem dX6_wouldSwap_30 : decode cX6_wouldSwap 30 = .ok (.ifCond .eq 7, 3) := by decide +kernel
theorem dX6_wouldSwap_33 : decode cX6_wouldSwap 33 = .ok (.iconst 1, 1) := by decide +kernel
theorem dX6_wouldSwap_34 : decode cX6_wouldSwap 34 = .ok (.goto 4, 3) := by decide +kernel
theorem dX6_wouldSwap_37 : decode cX6_wouldSwap 37 = .ok (.iconst 0, 1) := by decide +kernel
theorem dX6_wouldSwap_38 : decode cX6_wouldSwap 38 = .ok (.ireturn, 1) := by decide +kernel
theorem dX6_countPairs_0 : decode cX6_countPairs 0 = .ok (.iconst 0, 1) := by decide +kernel
theorem dX6_countPairs_1 : decode cX6_countPairs 1 = .ok (.istore_n 1, 1) := by decide +kernel
theorem dX6_countPairs_2 : decode cX6_countPairs 2 = .ok (.iconst 0, 1) := by decide +kernel
theorem dX6_countPairs_3 : decode cX6_countPairs 3 = .ok (.istore_n 2, 1) := by decide +kernel
theorem dX6_countPairs_4 : decode cX6_countPairs 4 = .ok (.iload_n 2, 1) := by decide +kernel
theorem dX6_countPairs_5 : decode cX6_countPairs 5 = .ok (.aload_n 0, 1) := by decide +kernel
theorem dX6_countPairs_6 : decode cX6_countPairs 6 = .ok (.getfield 20, 3) := by decide +kernel
theorem dX6_countPairs_9 : decode cX6_countPairs 9 = .ok (.invokevirtual 155, 3) := by decide +kernel
theorem dX6_countPairs_12 : decode cX6_countPairs 12 = .ok (.if_icmp .ge 42, 3) := by decide +kernel
theorem dX6_countPairs_15 : decode cX6_countPairs 15 = .ok (.iload_n 2, 1) := by decide +kernel
theorem dX6_countPairs_16 : decode cX6_countPairs 16 = .ok (.iconst 1, 1) := by decide +kernel
theorem dX6_countPairs_17 : decode cX6_countPairs 17 = .ok (.iadd, 1) := by decide +kernel
theorem dX6_countPairs_18 : decode cX6_countPairs 18 = .ok (.istore_n 3, 1) := by decide +kernel
theorem dX6_countPairs_19 : decode cX6_countPairs 19 = .ok (.iload_n 3, 1) := by decide +kernel
theorem dX6_countPairs_20 : decode cX6_countPairs 20 = .ok (.aload_n 0, 1) := by decide +kernel
theorem dX6_countPairs_21 : decode cX6_countPairs 21 = .ok (.getfield 20, 3) := by decide +kernel
theorem dX6_countPairs_24 : decode cX6_countPairs 24 = .ok (.invokevirtual 155, 3) := by decide +kernel
theorem dX6_countPairs_27 : decode cX6_countPairs 27 = .ok (.if_icmp .ge 21, 3) := by decide +kernel
theorem dX6_countPairs_30 : decode cX6_countPairs 30 = .ok (.aload_n 0, 1) := by decide +kernel
theorem dX6_countPairs_31 : decode cX6_countPairs 31 = .ok (.iload_n 2, 1) := by decide +kernel
theorem dX6_countPairs_32 : decode cX6_countPairs 32 = .ok (.iload_n 3, 1) := by decide +kernel
theorem dX6_countPairs_33 : decode cX6_countPairs 33 = .ok (.invokevirtual 192, 3) := by decide +kernel
theorem dX6_countPairs_36 : decode cX6_countPairs 36 = .ok (.ifCond .eq 6, 3) := by decide +kernel
theorem dX6_countPairs_39 : decode cX6_countPairs 39 = .ok (.iinc 1 1, 3) := by decide +kernel
theorem dX6_countPairs_42 : decode cX6_countPairs 42 = .ok (.iinc 3 1, 3) := by decide +kernel
theorem dX6_countPairs_45 : decode cX6_countPairs 45 = .ok (.goto (-26), 3) := by decide +kernel
theorem dX6_countPairs_48 : decode cX6_countPairs 48 = .ok (.iinc 2 1, 3) := by decide +kernel
theorem dX6_countPairs_51 : decode cX6_countPairs 51 = .ok (.goto (-47), 3) := by decide +kernel
theorem dX6_countPairs_54 : decode cX6_countPairs 54 = .ok (.iload_n 1, 1) := by decide +kernel
theorem dX6_countPairs_55 : decode cX6_countPairs 55 = .ok (.ireturn, 1) := by decide +kernel
theorem dX6_countRings_0 : decode cX6_countRings 0 = .ok (.iconst 0, 1) := by decide +kernel
theorem dX6_countRings_1 : decode cX6_countRings 1 = .ok (.istore_n 1, 1) := by decide +kernel
theorem dX6_countRings_2 : decode cX6_countRings 2 = .ok (.iconst 0, 1) := by decide +kernel
theorem dX6_countRings_3 : decode cX6_countRings 3 = .ok (.istore_n 2, 1) := by decide +kernel
theorem dX6_countRings_4 : decode cX6_countRings 4 = .ok (.iload_n 2, 1) := by decide +kernel
theorem dX6_countRings_5 : decode cX6_countRings 5 = .ok (.aload_n 0, 1) := by decide +kernel
theorem dX6_countRings_6 : decode cX6_countRings 6 = .ok (.getfield 20, 3) := by decide +kernel
theorem dX6_countRings_9 : decode cX6_countRings 9 = .ok (.invokevirtual 155, 3) := by decide +kernel
theorem dX6_countRings_12 : decode cX6_countRings 12 = .ok (.if_icmp .ge 67, 3) := by decide +kernel
theorem dX6_countRings_15 : decode cX6_countRings 15 = .ok (.iload_n 2, 1) := by decide +kernel
theorem dX6_countRings_16 : decode cX6_countRings 16 = .ok (.iconst 1, 1) := by decide +kernel
theorem dX6_countRings_17 : decode cX6_countRings 17 = .ok (.iadd, 1) := by decide +kernel
theorem dX6_countRings_18 : decode cX6_countRings 18 = .ok (.istore_n 3, 1) := by decide +kernel
theorem dX6_countRings_19 : decode cX6_countRings 19 = .ok (.iload_n 3, 1) := by decide +kernel
theorem dX6_countRings_20 : decode cX6_countRings 20 = .ok (.aload_n 0, 1) := by decide +kernel
theorem dX6_countRings_21 : decode cX6_countRings 21 = .ok (.getfield 20, 3) := by decide +kernel
theorem dX6_countRings_24 : decode cX6_countRings 24 = .ok (.invokevirtual 155, 3) := by decide +kernel
theorem dX6_countRings_27 : decode cX6_countRings 27 = .ok (.if_icmp .ge 46, 3) := by decide +kernel
theorem dX6_countRings_30 : decode cX6_countRings 30 = .ok (.iload_n 2, 1) := by decide +kernel
theorem dX6_countRings_31 : decode cX6_countRings 31 = .ok (.iconst 1, 1) := by decide +kernel
theorem dX6_countRings_32 : decode cX6_countRings 32 = .ok (.iadd, 1) := by decide +kernel
theorem dX6_countRings_33 : decode cX6_countRings 33 = .ok (.istore 4, 2) := by decide +kernel
theorem dX6_countRings_35 : decode cX6_countRings 35 = .ok (.iload 4, 2) := by decide +kernel
theorem dX6_countRings_37 : decode cX6_countRings 37 = .ok (.aload_n 0, 1) := by decide +kernel
theorem dX6_countRings_38 : decode cX6_countRings 38 = .ok (.getfield 20, 3) := by decide +kernel
theorem dX6_countRings_41 : decode cX6_countRings 41 = .ok (.invokevirtual 155, 3) := by decide +kernel
theorem dX6_countRings_44 : decode cX6_countRings 44 = .ok (.if_icmp .ge 23, 3) := by decide +kernel
theorem dX6_countRings_47 : decode cX6_countRings 47 = .ok (.aload_n 0, 1) := by decide +kernel
theorem dX6_countRings_48 : decode cX6_countRings 48 = .ok (.iload_n 2, 1) := by decide +kernel
theorem dX6_countRings_49 : decode cX6_countRings 49 = .ok (.iload_n 3, 1) := by decide +kernel
theorem dX6_countRings_50 : decode cX6_countRings 50 = .ok (.iload 4, 2) := by decide +kernel
theorem dX6_countRings_52 : decode cX6_countRings 52 = .ok (.invokevirtual 383, 3) := by decide +kernel
theorem dX6_countRings_55 : decode cX6_countRings 55 = .ok (.ifCond .eq 6, 3) := by decide +kernel
theorem dX6_countRings_58 : decode cX6_countRings 58 = .ok (.iinc 1 1, 3) := by decide +kernel
theorem dX6_countRings_61 : decode cX6_countRings 61 = .ok (.iinc 4 1, 3) := by decide +kernel
theorem dX6_countRings_64 : decode cX6_countRings 64 = .ok (.goto (-29), 3) := by decide +kernel
theorem dX6_countRings_67 : decode cX6_countRings 67 = .ok (.iinc 3 1, 3) := by decide +kernel
theorem dX6_countRings_70 : decode cX6_countRings 70 = .ok (.goto (-51), 3) := by decide +kernel
theorem dX6_countRings_73 : decode cX6_countRings 73 = .ok (.iinc 2 1, 3) := by decide +kernel
theorem dX6_countRings_76 : decode cX6_countRings 76 = .ok (.goto (-72), 3) := by decide +kernel
theorem dX6_countRings_79 : decode cX6_countRings 79 = .ok (.iload_n 1, 1) := by decide +kernel
theorem dX6_countRings_80 : decode cX6_countRings 80 = .ok (.ireturn, 1) := by decide +kernel
theorem dX6_isRing_0 : decode cX6_isRing 0 = .ok (.aload_n 0, 1) := by decide +kernel
theorem dX6_isRing_1 : decode cX6_isRing 1 = .ok (.getfield 49, 3) := by decide +kernel
theorem dX6_isRing_4 : decode cX6_isRing 4 = .ok (.iload_n 1, 1) := by decide +kernel
theorem dX6_isRing_5 : decode cX6_isRing 5 = .ok (.iaload, 1) := by decide +kernel
theorem dX6_isRing_6 : decode cX6_isRing 6 = .ok (.aload_n 0, 1) := by decide +kernel
theorem dX6_isRing_7 : decode cX6_isRing 7 = .ok (.getfield 49, 3) := by decide +kernel
theorem dX6_isRing_10 : decode cX6_isRing 10 = .ok (.iload_n 2, 1) := by decide +kernel
theorem dX6_isRing_11 : decode cX6_isRing 11 = .ok (.iaload, 1) := by decide +kernel
theorem dX6_isRing_12 : decode cX6_isRing 12 = .ok (.if_icmp .eq 37, 3) := by decide +kernel
theorem dX6_isRing_15 : decode cX6_isRing 15 = .ok (.aload_n 0, 1) := by decide +kernel
theorem dX6_isRing_16 : decode cX6_isRing 16 = .ok (.getfield 49, 3) := by decide +kernel
theorem dX6_isRing_19 : decode cX6_isRing 19 = .ok (.iload_n 2, 1) := by decide +kernel
theorem dX6_isRing_20 : decode cX6_isRing 20 = .ok (.iaload, 1) := by decide +kernel
theorem dX6_isRing_21 : decode cX6_isRing 21 = .ok (.aload_n 0, 1) := by decide +kernel
theorem dX6_isRing_22 : decode cX6_isRing 22 = .ok (.getfield 49, 3) := by decide +kernel
theorem dX6_isRing_25 : decode cX6_isRing 25 = .ok (.iload_n 3, 1) := by decide +kernel
theorem dX6_isRing_26 : decode cX6_isRing 26 = .ok (.iaload, 1) := by decide +kernel
theorem dX6_isRing_27 : decode cX6_isRing 27 = .ok (.if_icmp .eq 22, 3) := by decide +kernel
theorem dX6_isRing_30 : decode cX6_isRing 30 = .ok (.aload_n 0, 1) := by decide +kernel
theorem dX6_isRing_31 : decode cX6_isRing 31 = .ok (.getfield 49, 3) := by decide +kernel
theorem dX6_isRing_34 : decode cX6_isRing 34 = .ok (.iload_n 3, 1) := by decide +kernel
theorem dX6_isRing_35 : decode cX6_isRing 35 = .ok (.iaload, 1) := by decide +kernel
theorem dX6_isRing_36 : decode cX6_isRing 36 = .ok (.aload_n 0, 1) := by decide +kernel
theorem dX6_isRing_37 : decode cX6_isRing 37 = .ok (.getfield 49, 3) := by decide +kernel
theorem dX6_isRing_40 : decode cX6_isRing 40 = .ok (.iload_n 1, 1) := by decide +kernel
theorem dX6_isRing_41 : decode cX6_isRing 41 = .ok (.iaload, 1) := by decide +kernel
theorem dX6_isRing_42 : decode cX6_isRing 42 = .ok (.if_icmp .eq 7, 3) := by decide +kernel
theorem dX6_isRing_45 : decode cX6_isRing 45 = .ok (.iconst 1, 1) := by decide +kernel
theorem dX6_isRing_46 : decode cX6_isRing 46 = .ok (.goto 4, 3) := by decide +kernel
theorem dX6_isRing_49 : decode cX6_isRing 49 = .ok (.iconst 0, 1) := by decide +kernel
theorem dX6_isRing_50 : decode cX6_isRing 50 = .ok (.istore 4, 2) := by decide +kernel
theorem dX6_isRing_52 : decode cX6_isRing 52 = .ok (.iload 4, 2) := by decide +kernel
theorem dX6_isRing_54 : decode cX6_isRing 54 = .ok (.ifCond .eq 34, 3) := by decide +kernel
theorem dX6_isRing_57 : decode cX6_isRing 57 = .ok (.aload_n 0, 1) := by decide +kernel
theorem dX6_isRing_58 : decode cX6_isRing 58 = .ok (.iload_n 1, 1) := by decide +kernel
theorem dX6_isRing_59 : decode cX6_isRing 59 = .ok (.iload_n 2, 1) := by decide +kernel
theorem dX6_isRing_60 : decode cX6_isRing 60 = .ok (.invokevirtual 380, 3) := by decide +kernel
theorem dX6_isRing_63 : decode cX6_isRing 63 = .ok (.ifCond .eq 25, 3) := by decide +kernel
theorem dX6_isRing_66 : decode cX6_isRing 66 = .ok (.aload_n 0, 1) := by decide +kernel
theorem dX6_isRing_67 : decode cX6_isRing 67 = .ok (.iload_n 2, 1) := by decide +kernel
theorem dX6_isRing_68 : decode cX6_isRing 68 = .ok (.iload_n 3, 1) := by decide +kernel
theorem dX6_isRing_69 : decode cX6_isRing 69 = .ok (.invokevirtual 380, 3) := by decide +kernel
theorem dX6_isRing_72 : decode cX6_isRing 72 = .ok (.ifCond .eq 16, 3) := by decide +kernel
theorem dX6_isRing_75 : decode cX6_isRing 75 = .ok (.aload_n 0, 1) := by decide +kernel
theorem dX6_isRing_76 : decode cX6_isRing 76 = .ok (.iload_n 3, 1) := by decide +kernel
theorem dX6_isRing_77 : decode cX6_isRing 77 = .ok (.iload_n 1, 1) := by decide +kernel
theorem dX6_isRing_78 : decode cX6_isRing 78 = .ok (.invokevirtual 380, 3) := by decide +kernel
theorem dX6_isRing_81 : decode cX6_isRing 81 = .ok (.ifCond .eq 7, 3) := by decide +kernel
theorem dX6_isRing_84 : decode cX6_isRing 84 = .ok (.iconst 1, 1) := by decide +kernel
theorem dX6_isRing_85 : decode cX6_isRing 85 = .ok (.goto 4, 3) := by decide +kernel
theorem dX6_isRing_88 : decode cX6_isRing 88 = .ok (.iconst 0, 1) := by decide +kernel
theorem dX6_isRing_89 : decode cX6_isRing 89 = .ok (.ireturn, 1) := by decide +kernel
theorem dX6_fitsAllSeen_0 : decode cX6_fitsAllSeen 0 = .ok (.iconst 0, 1) := by decide +kernel
theorem dX6_fitsAllSeen_1 : decode cX6_fitsAllSeen 1 = .ok (.istore_n 2, 1) := by decide +kernel
theorem dX6_fitsAllSeen_2 : decode cX6_fitsAllSeen 2 = .ok (.iload_n 2, 1) := by decide +kernel
theorem dX6_fitsAllSeen_3 : decode cX6_fitsAllSeen 3 = .ok (.aload_n 0, 1) := by decide +kernel
theorem dX6_fitsAllSeen_4 : decode cX6_fitsAllSeen 4 = .ok (.getfield 224, 3) := by decide +kernel
theorem dX6_fitsAllSeen_7 : decode cX6_fitsAllSeen 7 = .ok (.if_icmp .ge 37, 3) := by decide +kernel
theorem dX6_fitsAllSeen_10 : decode cX6_fitsAllSeen 10 = .ok (.aload_n 0, 1) := by decide +kernel
theorem dX6_fitsAllSeen_11 : decode cX6_fitsAllSeen 11 = .ok (.getfield 10, 3) := by decide +kernel
theorem dX6_fitsAllSeen_14 : decode cX6_fitsAllSeen 14 = .ok (.iload_n 1, 1) := by decide +kernel
theorem dX6_fitsAllSeen_15 : decode cX6_fitsAllSeen 15 = .ok (.aload_n 0, 1) := by decide +kernel
theorem dX6_fitsAllSeen_16 : decode cX6_fitsAllSeen 16 = .ok (.getfield 62, 3) := by decide +kernel
theorem dX6_fitsAllSeen_19 : decode cX6_fitsAllSeen 19 = .ok (.iload_n 2, 1) := by decide +kernel
theorem dX6_fitsAllSeen_20 : decode cX6_fitsAllSeen 20 = .ok (.iaload, 1) := by decide +kernel
theorem dX6_fitsAllSeen_21 : decode cX6_fitsAllSeen 21 = .ok (.invokevirtual 146, 3) := by decide +kernel
theorem dX6_fitsAllSeen_24 : decode cX6_fitsAllSeen 24 = .ok (.aload_n 0, 1) := by decide +kernel
theorem dX6_fitsAllSeen_25 : decode cX6_fitsAllSeen 25 = .ok (.getfield 65, 3) := by decide +kernel
theorem dX6_fitsAllSeen_28 : decode cX6_fitsAllSeen 28 = .ok (.iload_n 2, 1) := by decide +kernel
theorem dX6_fitsAllSeen_29 : decode cX6_fitsAllSeen 29 = .ok (.iaload, 1) := by decide +kernel
theorem dX6_fitsAllSeen_30 : decode cX6_fitsAllSeen 30 = .ok (.ishr, 1) := by decide +kernel
theorem dX6_fitsAllSeen_31 : decode cX6_fitsAllSeen 31 = .ok (.iconst 1, 1) := by decide +kernel
theorem dX6_fitsAllSeen_32 : decode cX6_fitsAllSeen 32 = .ok (.iand, 1) := by decide +kernel
theorem dX6_fitsAllSeen_33 : decode cX6_fitsAllSeen 33 = .ok (.ifCond .ne 5, 3) := by decide +kernel
theorem dX6_fitsAllSeen_36 : decode cX6_fitsAllSeen 36 = .ok (.iconst 0, 1) := by decide +kernel
theorem dX6_fitsAllSeen_37 : decode cX6_fitsAllSeen 37 = .ok (.ireturn, 1) := by decide +kernel
theorem dX6_fitsAllSeen_38 : decode cX6_fitsAllSeen 38 = .ok (.iinc 2 1, 3) := by decide +kernel
theorem dX6_fitsAllSeen_41 : decode cX6_fitsAllSeen 41 = .ok (.goto (-39), 3) := by decide +kernel
theorem dX6_fitsAllSeen_44 : decode cX6_fitsAllSeen 44 = .ok (.iconst 1, 1) := by decide +kernel
theorem dX6_fitsAllSeen_45 : decode cX6_fitsAllSeen 45 = .ok (.ireturn, 1) := by decide +kernel
theorem dX6_countStanding_0 : decode cX6_countStanding 0 = .ok (.iconst 0, 1) := by decide +kernel
theorem dX6_countStanding_1 : decode cX6_countStanding 1 = .ok (.istore_n 1, 1) := by decide +kernel
theorem dX6_countStanding_2 : decode cX6_countStanding 2 = .ok (.iconst 0, 1) := by decide +kernel
theorem dX6_countStanding_3 : decode cX6_countStanding 3 = .ok (.istore_n 2, 1) := by decide +kernel
theorem dX6_countStanding_4 : decode cX6_countStanding 4 = .ok (.iload_n 2, 1) := by decide +kernel
theorem dX6_countStanding_5 : decode cX6_countStanding 5 = .ok (.aload_n 0, 1) := by decide +kernel
theorem dX6_countStanding_6 : decode cX6_countStanding 6 = .ok (.getfield 20, 3) := by decide +kernel
theorem dX6_countStanding_9 : decode cX6_countStanding 9 = .ok (.invokevirtual 155, 3) := by decide +kernel
theorem dX6_countStanding_12 : decode cX6_countStanding 12 = .ok (.if_icmp .ge 23, 3) := by decide +kernel
theorem dX6_countStanding_15 : decode cX6_countStanding 15 = .ok (.aload_n 0, 1) := by decide +kernel
theorem dX6_countStanding_16 : decode cX6_countStanding 16 = .ok (.getfield 10, 3) := by decide +kernel
theorem dX6_countStanding_19 : decode cX6_countStanding 19 = .ok (.iload_n 2, 1) := by decide +kernel
theorem dX6_countStanding_20 : decode cX6_countStanding 20 = .ok (.invokevirtual 112, 3) := by decide +kernel
theorem dX6_countStanding_23 : decode cX6_countStanding 23 = .ok (.ifCond .le 6, 3) := by decide +kernel
theorem dX6_countStanding_26 : decode cX6_countStanding 26 = .ok (.iinc 1 1, 3) := by decide +kernel
theorem dX6_countStanding_29 : decode cX6_countStanding 29 = .ok (.iinc 2 1, 3) := by decide +kernel
theorem dX6_countStanding_32 : decode cX6_countStanding 32 = .ok (.goto (-28), 3) := by decide +kernel
theorem dX6_countStanding_35 : decode cX6_countStanding 35 = .ok (.iload_n 1, 1) := by decide +kernel
theorem dX6_countStanding_36 : decode cX6_countStanding 36 = .ok (.ireturn, 1) := by decide +kernel
theorem dX6_countOwners_0 : decode cX6_countOwners 0 = .ok (.iconst 0, 1) := by decide +kernel
theorem dX6_countOwners_1 : decode cX6_countOwners 1 = .ok (.istore_n 1, 1) := by decide +kernel
theorem dX6_countOwners_2 : decode cX6_countOwners 2 = .ok (.iconst 0, 1) := by decide +kernel
theorem dX6_countOwners_3 : decode cX6_countOwners 3 = .ok (.istore_n 2, 1) := by decide +kernel
theorem dX6_countOwners_4 : decode cX6_countOwners 4 = .ok (.iload_n 2, 1) := by decide +kernel
theorem dX6_countOwners_5 : decode cX6_countOwners 5 = .ok (.aload_n 0, 1) := by decide +kernel
theorem dX6_countOwners_6 : decode cX6_countOwners 6 = .ok (.getfield 20, 3) := by decide +kernel
theorem dX6_countOwners_9 : decode cX6_countOwners 9 = .ok (.invokevirtual 155, 3) := by decide +kernel
theorem dX6_countOwners_12 : decode cX6_countOwners 12 = .ok (.if_icmp .ge 20, 3) := by decide +kernel
theorem dX6_countOwners_15 : decode cX6_countOwners 15 = .ok (.iload_n 1, 1) := by decide +kernel
theorem dX6_countOwners_16 : decode cX6_countOwners 16 = .ok (.iconst 1, 1) := by decide +kernel
theorem dX6_countOwners_17 : decode cX6_countOwners 17 = .ok (.aload_n 0, 1) := by decide +kernel
theorem dX6_countOwners_18 : decode cX6_countOwners 18 = .ok (.getfield 49, 3) := by decide +kernel
theorem dX6_countOwners_21 : decode cX6_countOwners 21 = .ok (.iload_n 2, 1) := by decide +kernel
theorem dX6_countOwners_22 : decode cX6_countOwners 22 = .ok (.iaload, 1) := by decide +kernel
theorem dX6_countOwners_23 : decode cX6_countOwners 23 = .ok (.ishl, 1) := by decide +kernel
theorem dX6_countOwners_24 : decode cX6_countOwners 24 = .ok (.ior, 1) := by decide +kernel
theorem dX6_countOwners_25 : decode cX6_countOwners 25 = .ok (.istore_n 1, 1) := by decide +kernel
theorem dX6_countOwners_26 : decode cX6_countOwners 26 = .ok (.iinc 2 1, 3) := by decide +kernel
theorem dX6_countOwners_29 : decode cX6_countOwners 29 = .ok (.goto (-25), 3) := by decide +kernel
theorem dX6_countOwners_32 : decode cX6_countOwners 32 = .ok (.iload_n 1, 1) := by decide +kernel
theorem dX6_countOwners_33 : decode cX6_countOwners 33 = .ok (.invokestatic 231, 3) := by decide +kernel
theorem dX6_countOwners_36 : decode cX6_countOwners 36 = .ok (.ireturn, 1) := by decide +kernel
theorem dX7_init_0 : decode cX7_init 0 = .ok (.aload_n 0, 1) := by decide +kernel
theorem dX7_init_1 : decode cX7_init 1 = .ok (.invokespecial 1, 3) := by decide +kernel
theorem dX7_init_4 : decode cX7_init 4 = .ok (.aload_n 0, 1) := by decide +kernel
theorem dX7_init_5 : decode cX7_init 5 = .ok (.bipush 20, 2) := by decide +kernel
theorem dX7_init_7 : decode cX7_init 7 = .ok (.newarray .int, 2) := by decide +kernel
theorem dX7_init_9 : decode cX7_init 9 = .ok (.putfield 7, 3) := by decide +kernel
theorem dX7_init_12 : decode cX7_init 12 = .ok (.aload_n 0, 1) := by decide +kernel
theorem dX7_init_13 : decode cX7_init 13 = .ok (.bipush 16, 2) := by decide +kernel
theorem dX7_init_15 : decode cX7_init 15 = .ok (.newarray .int, 2) := by decide +kernel
theorem dX7_init_17 : decode cX7_init 17 = .ok (.putfield 13, 3) := by decide +kernel
theorem dX7_init_20 : decode cX7_init 20 = .ok (.aload_n 0, 1) := by decide +kernel
theorem dX7_init_21 : decode cX7_init 21 = .ok (.bipush 12, 2) := by decide +kernel
theorem dX7_init_23 : decode cX7_init 23 = .ok (.newarray .int, 2) := by decide +kernel
theorem dX7_init_25 : decode cX7_init 25 = .ok (.putfield 16, 3) := by decide +kernel
theorem dX7_init_28 : decode cX7_init 28 = .ok (.aload_n 0, 1) := by decide +kernel
theorem dX7_init_29 : decode cX7_init 29 = .ok (.bipush 12, 2) := by decide +kernel
theorem dX7_init_31 : decode cX7_init 31 = .ok (.newarray .int, 2) := by decide +kernel
theorem dX7_init_33 : decode cX7_init 33 = .ok (.putfield 19, 3) := by decide +kernel
theorem dX7_init_36 : decode cX7_init 36 = .ok (.aload_n 0, 1) := by decide +kernel
theorem dX7_init_37 : decode cX7_init 37 = .ok (.iconst 4, 1) := by decide +kernel
theorem dX7_init_38 : decode cX7_init 38 = .ok (.newarray .int, 2) := by decide +kernel
theorem dX7_init_40 : decode cX7_init 40 = .ok (.putfield 22, 3) := by decide +kernel
theorem dX7_init_43 : decode cX7_init 43 = .ok (.aload_n 0, 1) := by decide +kernel
theorem dX7_init_44 : decode cX7_init 44 = .ok (.iconst 4, 1) := by decide +kernel
theorem dX7_init_45 : decode cX7_init 45 = .ok (.newarray .int, 2) := by decide +kernel
theorem dX7_init_47 : decode cX7_init 47 = .ok (.putfield 25, 3) := by decide +kernel
theorem dX7_init_50 : decode cX7_init 50 = .ok (.aload_n 0, 1) := by decide +kernel
theorem dX7_init_51 : decode cX7_init 51 = .ok (.bipush 16, 2) := by decide +kernel
theorem dX7_init_53 : decode cX7_init 53 = .ok (.newarray .int, 2) := by decide +kernel
theorem dX7_init_55 : decode cX7_init 55 = .ok (.putfield 28, 3) := by decide +kernel
theorem dX7_init_58 : decode cX7_init 58 = .ok (.aload_n 0, 1) := by decide +kernel
theorem dX7_init_59 : decode cX7_init 59 = .ok (.iconst 3, 1) := by decide +kernel
theorem dX7_init_60 : decode cX7_init 60 = .ok (.newarray .int, 2) := by decide +kernel
theorem dX7_init_62 : decode cX7_init 62 = .ok (.putfield 31, 3) := by decide +kernel
theorem dX7_init_65 : decode cX7_init 65 = .ok (.aload_n 0, 1) := by decide +kernel
theorem dX7_init_66 : decode cX7_init 66 = .ok (.iconst 3, 1) := by decide +kernel
theorem dX7_init_67 : decode cX7_init 67 = .ok (.newarray .int, 2) := by decide +kernel
theorem dX7_init_69 : decode cX7_init 69 = .ok (.putfield 34, 3) := by decide +kernel
theorem dX7_init_72 : decode cX7_init 72 = .ok (.aload_n 0, 1) := by decide +kernel
theorem dX7_init_73 : decode cX7_init 73 = .ok (.bipush 12, 2) := by decide +kernel
theorem dX7_init_75 : decode cX7_init 75 = .ok (.newarray .int, 2) := by decide +kernel
theorem dX7_init_77 : decode cX7_init 77 = .ok (.putfield 37, 3) := by decide +kernel
theorem dX7_init_80 : decode cX7_init 80 = .ok (.aload_n 0, 1) := by decide +kernel
theorem dX7_init_81 : decode cX7_init 81 = .ok (.bipush 12, 2) := by decide +kernel
theorem dX7_init_83 : decode cX7_init 83 = .ok (.newarray .int, 2) := by decide +kernel
theorem dX7_init_85 : decode cX7_init 85 = .ok (.putfield 40, 3) := by decide +kernel
theorem dX7_init_88 : decode cX7_init 88 = .ok (.aload_n 0, 1) := by decide +kernel
theorem dX7_init_89 : decode cX7_init 89 = .ok (.sipush 1625, 3) := by decide +kernel
theorem dX7_init_92 : decode cX7_init 92 = .ok (.newarray .int, 2) := by decide +kernel
theorem dX7_init_94 : decode cX7_init 94 = .ok (.putfield 43, 3) := by decide +kernel
theorem dX7_init_97 : decode cX7_init 97 = .ok (.aload_n 0, 1) := by decide +kernel
theorem dX7_init_98 : decode cX7_init 98 = .ok (.bipush 12, 2) := by decide +kernel
theorem dX7_init_100 : decode cX7_init 100 = .ok (.newarray .int, 2) := by decide +kernel
theorem dX7_init_102 : decode cX7_init 102 = .ok (.putfield 46, 3) := by decide +kernel
theorem dX7_init_105 : decode cX7_init 105 = .ok (.aload_n 0, 1) := by decide +kernel
theorem dX7_init_106 : decode cX7_init 106 = .ok (.bipush 8, 2) := by decide +kernel
theorem dX7_init_108 : decode cX7_init 108 = .ok (.newarray .int, 2) := by decide +kernel
theorem dX7_init_110 : decode cX7_init 110 = .ok (.putfield 49, 3) := by decide +kernel
theorem dX7_init_113 : decode cX7_init 113 = .ok (.aload_n 0, 1) := by decide +kernel
theorem dX7_init_114 : decode cX7_init 114 = .ok (.bipush 8, 2) := by decide +kernel
theorem dX7_init_116 : decode cX7_init 116 = .ok (.newarray .int, 2) := by decide +kernel
theorem dX7_init_118 : decode cX7_init 118 = .ok (.putfield 52, 3) := by decide +kernel
theorem dX7_init_121 : decode cX7_init 121 = .ok (.aload_n 0, 1) := by decide +kernel
theorem dX7_init_122 : decode cX7_init 122 = .ok (.bipush 14, 2) := by decide +kernel
theorem dX7_init_124 : decode cX7_init 124 = .ok (.newarray .long, 2) := by decide +kernel
theorem dX7_init_126 : decode cX7_init 126 = .ok (.putfield 55, 3) := by decide +kernel
theorem dX7_init_129 : decode cX7_init 129 = .ok (.aload_n 0, 1) := by decide +kernel
theorem dX7_init_130 : decode cX7_init 130 = .ok (.iconst 4, 1) := by decide +kernel
theorem dX7_init_131 : decode cX7_init 131 = .ok (.newarray .boolean, 2) := by decide +kernel
theorem dX7_init_133 : decode cX7_init 133 = .ok (.putfield 59, 3) := by decide +kernel
theorem dX7_init_136 : decode cX7_init 136 = .ok (.aload_n 0, 1) := by decide +kernel
theorem dX7_init_137 : decode cX7_init 137 = .ok (.iconst 4, 1) := by decide +kernel
theorem dX7_init_138 : decode cX7_init 138 = .ok (.newarray .int, 2) := by decide +kernel
theorem dX7_init_140 : decode cX7_init 140 = .ok (.putfield 63, 3) := by decide +kernel
theorem dX7_init_143 : decode cX7_init 143 = .ok (.aload_n 0, 1) := by decide +kernel
theorem dX7_init_144 : decode cX7_init 144 = .ok (.iconst 4, 1) := by decide +kernel
theorem dX7_init_145 : decode cX7_init 145 = .ok (.newarray .int, 2) := by decide +kernel
theorem dX7_init_147 : decode cX7_init 147 = .ok (.putfield 66, 3) := by decide +kernel
theorem dX7_init_150 : decode cX7_init 150 = .ok (.aload_n 0, 1) := by decide +kernel
theorem dX7_init_151 : decode cX7_init 151 = .ok (.sipush 192, 3) := by decide +kernel
theorem dX7_init_154 : decode cX7_init 154 = .ok (.newarray .int, 2) := by decide +kernel
theorem dX7_init_156 : decode cX7_init 156 = .ok (.putfield 69, 3) := by decide +kernel
theorem dX7_init_159 : decode cX7_init 159 = .ok (.aload_n 0, 1) := by decide +kernel
theorem dX7_init_160 : decode cX7_init 160 = .ok (.bipush 48, 2) := by decide +kernel
theorem dX7_init_162 : decode cX7_init 162 = .ok (.newarray .int, 2) := by decide +kernel
theorem dX7_init_164 : decode cX7_init 164 = .ok (.putfield 72, 3) := by decide +kernel
theorem dX7_init_167 : decode cX7_init 167 = .ok (.iconst 0, 1) := by decide +kernel
theorem dX7_init_168 : decode cX7_init 168 = .ok (.istore_n 1, 1) := by decide +kernel
theorem dX7_init_169 : decode cX7_init 169 = .ok (.iload_n 1, 1) := by decide +kernel
theorem dX7_init_170 : decode cX7_init 170 = .ok (.iconst 4, 1) := by decide +kernel
theorem dX7_init_171 : decode cX7_init 171 = .ok (.if_icmp .ge 24, 3) := by decide +kernel
theorem dX7_init_174 : decode cX7_init 174 = .ok (.aload_n 0, 1) := by decide +kernel
theorem dX7_init_175 : decode cX7_init 175 = .ok (.getfield 22, 3) := by decide +kernel
theorem dX7_init_178 : decode cX7_init 178 = .ok (.iload_n 1, 1) := by decide +kernel
theorem dX7_init_179 : decode cX7_init 179 = .ok (.bipush 90, 2) := by decide +kernel
theorem dX7_init_181 : decode cX7_init 181 = .ok (.iastore, 1) := by decide +kernel
theorem dX7_init_182 : decode cX7_init 182 = .ok (.aload_n 0, 1) := by decide +kernel
theorem dX7_init_183 : decode cX7_init 183 = .ok (.getfield 25, 3) := by decide +kernel
theorem dX7_init_186 : decode cX7_init 186 = .ok (.iload_n 1, 1) := by decide +kernel
theorem dX7_init_187 : decode cX7_init 187 = .ok (.iconst 4, 1) := by decide +kernel
theorem dX7_init_188 : decode cX7_init 188 = .ok (.iastore, 1) := by decide +kernel
theorem dX7_init_189 : decode cX7_init 189 = .ok (.iinc 1 1, 3) := by decide +kernel
theorem dX7_init_192 : decode cX7_init 192 = .ok (.goto (-23), 3) := by decide +kernel
theorem dX7_init_195 : decode cX7_init 195 = .ok (.iconst 0, 1) := by decide +kernel
theorem dX7_init_196 : decode cX7_init 196 = .ok (.istore_n 1, 1) := by decide +kernel
theorem dX7_init_197 : decode cX7_init 197 = .ok (.iload_n 1, 1) := by decide +kernel
theorem dX7_init_198 : decode cX7_init 198 = .ok (.bipush 16, 2) := by decide +kernel
theorem dX7_init_200 : decode cX7_init 200 = .ok (.if_icmp .ge 16, 3) := by decide +kernel
theorem dX7_init_203 : decode cX7_init 203 = .ok (.aload_n 0, 1) := by decide +kernel
theorem dX7_init_204 : decode cX7_init 204 = .ok (.getfield 28, 3) := by decide +kernel
theorem dX7_init_207 : decode cX7_init 207 = .ok (.iload_n 1, 1) := by decide +kernel
theorem dX7_init_208 : decode cX7_init 208 = .ok (.iconst 1, 1) := by decide +kernel
theorem dX7_init_209 : decode cX7_init 209 = .ok (.iastore, 1) := by decide +kernel
theorem dX7_init_210 : decode cX7_init 210 = .ok (.iinc 1 1, 3) := by decide +kernel
theorem dX7_init_213 : decode cX7_init 213 = .ok (.goto (-16), 3) := by decide +kernel
theorem dX7_init_216 : decode cX7_init 216 = .ok (.iconst 0, 1) := by decide +kernel
theorem dX7_init_217 : decode cX7_init 217 = .ok (.istore_n 1, 1) := by decide +kernel
theorem dX7_init_218 : decode cX7_init 218 = .ok (.iload_n 1, 1) := by decide +kernel
theorem dX7_init_219 : decode cX7_init 219 = .ok (.iconst 3, 1) := by decide +kernel
theorem dX7_init_220 : decode cX7_init 220 = .ok (.if_icmp .ge 31, 3) := by decide +kernel
theorem dX7_init_223 : decode cX7_init 223 = .ok (.aload_n 0, 1) := by decide +kernel
theorem dX7_init_224 : decode cX7_init 224 = .ok (.getfield 31, 3) := by decide +kernel
theorem dX7_init_227 : decode cX7_init 227 = .ok (.iload_n 1, 1) := by decide +kernel
theorem dX7_init_228 : decode cX7_init 228 = .ok (.sipush 1000, 3) := by decide +kernel
theorem dX7_init_231 : decode cX7_init 231 = .ok (.iastore, 1) := by decide +kernel
theorem dX7_init_232 : decode cX7_init 232 = .ok (.aload_n 0, 1) := by decide +kernel
theorem dX7_init_233 : decode cX7_init 233 = .ok (.getfield 34, 3) := by decide +kernel
theorem dX7_init_236 : decode cX7_init 236 = .ok (.iload_n 1, 1) := by decide +kernel
theorem dX7_init_237 : decode cX7_init 237 = .ok (.bipush 10, 2) := by decide +kernel
theorem dX7_init_239 : decode cX7_init 239 = .ok (.iload_n 1, 1) := by decide +kernel
theorem dX7_init_240 : decode cX7_init 240 = .ok (.imul, 1) := by decide +kernel
theorem dX7_init_241 : decode cX7_init 241 = .ok (.bipush 10, 2) := by decide +kernel
theorem dX7_init_243 : decode cX7_init 243 = .ok (.iadd, 1) := by decide +kernel
theorem dX7_init_244 : decode cX7_init 244 = .ok (.iastore, 1) := by decide +kernel
theorem dX7_init_245 : decode cX7_init 245 = .ok (.iinc 1 1, 3) := by decide +kernel
theorem dX7_init_248 : decode cX7_init 248 = .ok (.goto (-30), 3) := by decide +kernel
theorem dX7_init_251 : decode cX7_init 251 = .ok (.return_, 1) := by decide +kernel
theorem dX7_in_0 : decode cX7_in 0 = .ok (.iload_n 0, 1) := by decide +kernel
theorem dX7_in_1 : decode cX7_in 1 = .ok (.iload_n 1, 1) := by decide +kernel
theorem dX7_in_2 : decode cX7_in 2 = .ok (.if_icmp .lt 12, 3) := by decide +kernel
theorem dX7_in_5 : decode cX7_in 5 = .ok (.iload_n 0, 1) := by decide +kernel
theorem dX7_in_6 : decode cX7_in 6 = .ok (.iload_n 2, 1) := by decide +kernel
theorem dX7_in_7 : decode cX7_in 7 = .ok (.if_icmp .gt 7, 3) := by decide +kernel
theorem dX7_in_10 : decode cX7_in 10 = .ok (.iconst 1, 1) := by decide +kernel
theorem dX7_in_11 : decode cX7_in 11 = .ok (.goto 4, 3) := by decide +kernel
theorem dX7_in_14 : decode cX7_in 14 = .ok (.iconst 0, 1) := by decide +kernel
theorem dX7_in_15 : decode cX7_in 15 = .ok (.ireturn, 1) := by decide +kernel
theorem dX7_isIn_0 : decode cX7_isIn 0 = .ok (.iload_n 0, 1) := by decide +kernel
theorem dX7_isIn_1 : decode cX7_isIn 1 = .ok (.iload_n 1, 1) := by decide +kernel
theorem dX7_isIn_2 : decode cX7_isIn 2 = .ok (.ishr, 1) := by decide +kernel
theorem dX7_isIn_3 : decode cX7_isIn 3 = .ok (.iconst 1, 1) := by decide +kernel
theorem dX7_isIn_4 : decode cX7_isIn 4 = .ok (.iand, 1) := by decide +kernel
theorem dX7_isIn_5 : decode cX7_isIn 5 = .ok (.iconst 1, 1) := by decide +kernel
theorem dX7_isIn_6 : decode cX7_isIn 6 = .ok (.if_icmp .ne 7, 3) := by decide +kernel
theorem dX7_isIn_9 : decode cX7_isIn 9 = .ok (.iconst 1, 1) := by decide +kernel
theorem dX7_isIn_10 : decode cX7_isIn 10 = .ok (.goto 4, 3) := by decide +kernel
theorem dX7_isIn_13 : decode cX7_isIn 13 = .ok (.iconst 0, 1) := by decide +kernel
theorem dX7_isIn_14 : decode cX7_isIn 14 = .ok (.ireturn, 1) := by decide +kernel
theorem dX7_ones_0 : decode cX7_ones 0 = .ok (.iconst 0, 1) := by decide +kernel
theorem dX7_ones_1 : decode cX7_ones 1 = .ok (.istore_n 1, 1) := by decide +kernel
theorem dX7_ones_2 : decode cX7_ones 2 = .ok (.iconst 0, 1) := by decide +kernel
theorem dX7_ones_3 : decode cX7_ones 3 = .ok (.istore_n 2, 1) := by decide +kernel
theorem dX7_ones_4 : decode cX7_ones 4 = .ok (.iload_n 2, 1) := by decide +kernel
theorem dX7_ones_5 : decode cX7_ones 5 = .ok (.bipush 12, 2) := by decide +kernel
theorem dX7_ones_7 : decode cX7_ones 7 = .ok (.if_icmp .ge 17, 3) := by decide +kernel
theorem dX7_ones_10 : decode cX7_ones 10 = .ok (.iload_n 1, 1) := by decide +kernel
theorem dX7_ones_11 : decode cX7_ones 11 = .ok (.iload_n 0, 1) := by decide +kernel
theorem dX7_ones_12 : decode cX7_ones 12 = .ok (.iload_n 2, 1) := by decide +kernel
theorem dX7_ones_13 : decode cX7_ones 13 = .ok (.ishr, 1) := by decide +kernel
theorem dX7_ones_14 : decode cX7_ones 14 = .ok (.iconst 1, 1) := by decide +kernel
theorem dX7_ones_15 : decode cX7_ones 15 = .ok (.iand, 1) := by decide +kernel
theorem dX7_ones_16 : decode cX7_ones 16 = .ok (.iadd, 1) := by decide +kernel
theorem dX7_ones_17 : decode cX7_ones 17 = .ok (.istore_n 1, 1) := by decide +kernel
theorem dX7_ones_18 : decode cX7_ones 18 = .ok (.iinc 2 1, 3) := by decide +kernel
theorem dX7_ones_21 : decode cX7_ones 21 = .ok (.goto (-17), 3) := by decide +kernel
theorem dX7_ones_24 : decode cX7_ones 24 = .ok (.iload_n 1, 1) := by decide +kernel
theorem dX7_ones_25 : decode cX7_ones 25 = .ok (.ireturn, 1) := by decide +kernel
theorem dX7_no_0 : decode cX7_no 0 = .ok (.ldc2_w 75, 3) := by decide +kernel
theorem dX7_no_3 : decode cX7_no 3 = .ok (.iload_n 0, 1) := by decide +kernel
theorem dX7_no_4 : decode cX7_no 4 = .ok (.i2l, 1) := by decide +kernel
theorem dX7_no_5 : decode cX7_no 5 = .ok (.lsub, 1) := by decide +kernel
theorem dX7_no_6 : decode cX7_no 6 = .ok (.lreturn, 1) := by decide +kernel
theorem dX7_lowest_0 : decode cX7_lowest 0 = .ok (.lload_n 0, 1) := by decide +kernel
theorem dX7_lowest_1 : decode cX7_lowest 1 = .ok (.lstore 5, 2) := by decide +kernel
theorem dX7_lowest_3 : decode cX7_lowest 3 = .ok (.lload_n 2, 1) := by decide +kernel
theorem dX7_lowest_4 : decode cX7_lowest 4 = .ok (.lstore 7, 2) := by decide +kernel
theorem dX7_lowest_6 : decode cX7_lowest 6 = .ok (.lload 7, 2) := by decide +kernel
theorem dX7_lowest_8 : decode cX7_lowest 8 = .ok (.lconst 0, 1) := by decide +kernel
theorem dX7_lowest_9 : decode cX7_lowest 9 = .ok (.lcmp, 1) := by decide +kernel
theorem dX7_lowest_10 : decode cX7_lowest 10 = .ok (.ifCond .eq 21, 3) := by decide +kernel
theorem dX7_lowest_13 : decode cX7_lowest 13 = .ok (.lload 5, 2) := by decide +kernel
theorem dX7_lowest_15 : decode cX7_lowest 15 = .ok (.lload 7, 2) := by decide +kernel
theorem dX7_lowest_17 : decode cX7_lowest 17 = .ok (.lrem, 1) := by decide +kernel
theorem dX7_lowest_18 : decode cX7_lowest 18 = .ok (.lstore 9, 2) := by decide +kernel
theorem dX7_lowest_20 : decode cX7_lowest 20 = .ok (.lload 7, 2) := by decide +kernel
theorem dX7_lowest_22 : decode cX7_lowest 22 = .ok (.lstore 5, 2) := by decide +kernel
theorem dX7_lowest_24 : decode cX7_lowest 24 = .ok (.lload 9, 2) := by decide +kernel
theorem dX7_lowest_26 : decode cX7_lowest 26 = .ok (.lstore 7, 2) := by decide +kernel
theorem dX7_lowest_28 : decode cX7_lowest 28 = .ok (.goto (-22), 3) := by decide +kernel
theorem dX7_lowest_31 : decode cX7_lowest 31 = .ok (.iload 4, 2) := by decide +kernel
theorem dX7_lowest_33 : decode cX7_lowest 33 = .ok (.ifCond .ne 10, 3) := by decide +kernel
theorem dX7_lowest_36 : decode cX7_lowest 36 = .ok (.lload_n 0, 1) := by decide +kernel
theorem dX7_lowest_37 : decode cX7_lowest 37 = .ok (.lload 5, 2) := by decide +kernel
theorem dX7_lowest_39 : decode cX7_lowest 39 = .ok (.ldiv, 1) := by decide +kernel
theorem dX7_lowest_40 : decode cX7_lowest 40 = .ok (.goto 7, 3) := by decide +kernel
theorem dX7_lowest_43 : decode cX7_lowest 43 = .ok (.lload_n 2, 1) := by decide +kernel
theorem dX7_lowest_44 : decode cX7_lowest 44 = .ok (.lload 5, 2) := by decide +kernel
theorem dX7_lowest_46 : decode cX7_lowest 46 = .ok (.ldiv, 1) := by decide +kernel
theorem dX7_lowest_47 : decode cX7_lowest 47 = .ok (.lreturn, 1) := by decide +kernel
theorem dX7_type_0 : decode cX7_type 0 = .ok (.iload_n 1, 1) := by decide +kernel
theorem dX7_type_1 : decode cX7_type 1 = .ok (.iconst 0, 1) := by decide +kernel
theorem dX7_type_2 : decode cX7_type 2 = .ok (.sipush 255, 3) := by decide +kernel
theorem dX7_type_5 : decode cX7_type 5 = .ok (.invokestatic 77, 3) := by decide +kernel
theorem dX7_type_8 : decode cX7_type 8 = .ok (.ifCond .ne 6, 3) := by decide +kernel
theorem dX7_type_11 : decode cX7_type 11 = .ok (.bipush (-2), 2) := by decide +kernel
theorem dX7_type_13 : decode cX7_type 13 = .ok (.ireturn, 1) := by decide +kernel
theorem dX7_type_14 : decode cX7_type 14 = .ok (.aload_n 0, 1) := by decide +kernel
theorem dX7_type_15 : decode cX7_type 15 = .ok (.getfield 81, 3) := by decide +kernel
theorem dX7_type_18 : decode cX7_type 18 = .ok (.bipush 20, 2) := by decide +kernel
theorem dX7_type_20 : decode cX7_type 20 = .ok (.if_icmp .ne 6, 3) := by decide +kernel
theorem dX7_type_23 : decode cX7_type 23 = .ok (.bipush (-4), 2) := by decide +kernel
theorem dX7_type_25 : decode cX7_type 25 = .ok (.ireturn, 1) := by decide +kernel
theorem dX7_type_26 : decode cX7_type 26 = .ok (.aload_n 0, 1) := by decide +kernel
theorem dX7_type_27 : decode cX7_type 27 = .ok (.getfield 7, 3) := by decide +kernel
theorem dX7_type_30 : decode cX7_type 30 = .ok (.aload_n 0, 1) := by decide +kernel
theorem dX7_type_31 : decode cX7_type 31 = .ok (.getfield 81, 3) := by decide +kernel
theorem dX7_type_34 : decode cX7_type 34 = .ok (.iload_n 1, 1) := by decide +kernel
theorem dX7_type_35 : decode cX7_type 35 = .ok (.iastore, 1) := by decide +kernel
theorem dX7_type_36 : decode cX7_type 36 = .ok (.aload_n 0, 1) := by decide +kernel
theorem dX7_type_37 : decode cX7_type 37 = .ok (.dup, 1) := by decide +kernel
theorem dX7_type_38 : decode cX7_type 38 = .ok (.getfield 81, 3) := by decide +kernel
theorem dX7_type_41 : decode cX7_type 41 = .ok (.iconst 1, 1) := by decide +kernel
theorem dX7_type_42 : decode cX7_type 42 = .ok (.iadd, 1) := by decide +kernel
theorem dX7_type_43 : decode cX7_type 43 = .ok (.putfield 81, 3) := by decide +kernel
theorem dX7_type_46 : decode cX7_type 46 = .ok (.aload_n 0, 1) := by decide +kernel
theorem dX7_type_47 : decode cX7_type 47 = .ok (.getfield 81, 3) := by decide +kernel
theorem dX7_type_50 : decode cX7_type 50 = .ok (.ireturn, 1) := by decide +kernel
theorem dX7_wipe_0 : decode cX7_wipe 0 = .ok (.aload_n 0, 1) := by decide +kernel
theorem dX7_wipe_1 : decode cX7_wipe 1 = .ok (.getfield 81, 3) := by decide +kernel
theorem dX7_wipe_4 : decode cX7_wipe 4 = .ok (.istore_n 1, 1) := by decide +kernel
theorem dX7_wipe_5 : decode cX7_wipe 5 = .ok (.aload_n 0, 1) := by decide +kernel
theorem dX7_wipe_6 : decode cX7_wipe 6 = .ok (.iconst 0, 1) := by decide +kernel
theorem dX7_wipe_7 : decode cX7_wipe 7 = .ok (.putfield 81, 3) := by decide +kernel
theorem dX7_wipe_10 : decode cX7_wipe 10 = .ok (.iload_n 1, 1) := by decide +kernel
theorem dX7_wipe_11 : decode cX7_wipe 11 = .ok (.ireturn, 1) := by decide +kernel
theorem dX7_figureAt_0 : decode cX7_figureAt 0 = .ok (.iload_n 1, 1) := by decide +kernel
theorem dX7_figureAt_1 : decode cX7_figureAt 1 = .ok (.aload_n 0, 1) := by decide +kernel
theorem dX7_figureAt_2 : decode cX7_figureAt 2 = .ok (.getfield 81, 3) := by decide +kernel
theorem dX7_figureAt_5 : decode cX7_figureAt 5 = .ok (.if_icmp .ge 15, 3) := by decide +kernel
theorem dX7_figureAt_8 : decode cX7_figureAt 8 = .ok (.aload_n 0, 1) := by decide +kernel
theorem dX7_figureAt_9 : decode cX7_figureAt 9 = .ok (.getfield 7, 3) := by decide +kernel
theorem dX7_figureAt_12 : decode cX7_figureAt 12 = .ok (.iload_n 1, 1) := by decide +kernel
theorem dX7_figureAt_13 : decode cX7_figureAt 13 = .ok (.iaload, 1) := by decide +kernel
theorem dX7_figureAt_14 : decode cX7_figureAt 14 = .ok (.bipush 48, 2) := by decide +kernel
theorem dX7_figureAt_16 : decode cX7_figureAt 16 = .ok (.isub, 1) := by decide +kernel
theorem dX7_figureAt_17 : decode cX7_figureAt 17 = .ok (.goto 4, 3) := by decide +kernel
theorem dX7_figureAt_20 : decode cX7_figureAt 20 = .ok (.iconst (-1), 1) := by decide +kernel
theorem dX7_figureAt_21 : decode cX7_figureAt 21 = .ok (.istore_n 2, 1) := by decide +kernel
theorem dX7_figureAt_22 : decode cX7_figureAt 22 = .ok (.iload_n 2, 1) := by decide +kernel
theorem dX7_figureAt_23 : decode cX7_figureAt 23 = .ok (.iconst 0, 1) := by decide +kernel
theorem dX7_figureAt_24 : decode cX7_figureAt 24 = .ok (.bipush 9, 2) := by decide +kernel
theorem dX7_figureAt_26 : decode cX7_figureAt 26 = .ok (.invokestatic 77, 3) := by decide +kernel
theorem dX7_figureAt_29 : decode cX7_figureAt 29 = .ok (.ifCond .eq 7, 3) := by decide +kernel
theorem dX7_figureAt_32 : decode cX7_figureAt 32 = .ok (.iload_n 2, 1) := by decide +kernel
theorem dX7_figureAt_33 : decode cX7_figureAt 33 = .ok (.goto 4, 3) := by decide +kernel
theorem dX7_figureAt_36 : decode cX7_figureAt 36 = .ok (.iconst (-1), 1) := by decide +kernel
theorem dX7_figureAt_37 : decode cX7_figureAt 37 = .ok (.ireturn, 1) := by decide +kernel
theorem dX7_faultNow_0 : decode cX7_faultNow 0 = .ok (.aload_n 0, 1) := by decide +kernel
theorem dX7_faultNow_1 : decode cX7_faultNow 1 = .ok (.iconst 0, 1) := by decide +kernel
theorem dX7_faultNow_2 : decode cX7_faultNow 2 = .ok (.putfield 85, 3) := by decide +kernel
theorem dX7_faultNow_5 : decode cX7_faultNow 5 = .ok (.aload_n 0, 1) := by decide +kernel
theorem dX7_faultNow_6 : decode cX7_faultNow 6 = .ok (.iconst 0, 1) := by decide +kernel
theorem dX7_faultNow_7 : decode cX7_faultNow 7 = .ok (.putfield 88, 3) := by decide +kernel
theorem dX7_faultNow_10 : decode cX7_faultNow 10 = .ok (.aload_n 0, 1) := by decide +kernel
theorem dX7_faultNow_11 : decode cX7_faultNow 11 = .ok (.iconst 0, 1) := by decide +kernel
theorem dX7_faultNow_12 : decode cX7_faultNow 12 = .ok (.putfield 91, 3) := by decide +kernel
theorem dX7_faultNow_15 : decode cX7_faultNow 15 = .ok (.aload_n 0, 1) := by decide +kernel
theorem dX7_faultNow_16 : decode cX7_faultNow 16 = .ok (.getfield 81, 3) := by decide +kernel
theorem dX7_faultNow_19 : decode cX7_faultNow 19 = .ok (.ifCond .ne 5, 3) := by decide +kernel
theorem dX7_faultNow_22 : decode cX7_faultNow 22 = .ok (.iconst (-1), 1) := by decide +kernel
theorem dX7_faultNow_23 : decode cX7_faultNow 23 = .ok (.ireturn, 1) := by decide +kernel
theorem dX7_faultNow_24 : decode cX7_faultNow 24 = .ok (.iconst 0, 1) := by decide +kernel
theorem dX7_faultNow_25 : decode cX7_faultNow 25 = .ok (.istore_n 1, 1) := by decide +kernel
theorem dX7_faultNow_26 : decode cX7_faultNow 26 = .ok (.iconst 0, 1) := by decide +kernel
theorem dX7_faultNow_27 : decode cX7_faultNow 27 = .ok (.istore_n 2, 1) := by decide +kernel
theorem dX7_faultNow_28 : decode cX7_faultNow 28 = .ok (.iconst 0, 1) := by decide +kernel
theorem dX7_faultNow_29 : decode cX7_faultNow 29 = .ok (.istore_n 3, 1) := by decide +kernel
theorem dX7_faultNow_30 : decode cX7_faultNow 30 = .ok (.iconst 0, 1) := by decide +kernel
theorem dX7_faultNow_31 : decode cX7_faultNow 31 = .ok (.istore 4, 2) := by decide +kernel
theorem dX7_faultNow_33 : decode cX7_faultNow 33 = .ok (.iload 4, 2) := by decide +kernel
theorem dX7_faultNow_35 : decode cX7_faultNow 35 = .ok (.iconst 4, 1) := by decide +kernel
theorem dX7_faultNow_36 : decode cX7_faultNow 36 = .ok (.if_icmp .ge 136, 3) := by decide +kernel
theorem dX7_faultNow_39 : decode cX7_faultNow 39 = .ok (.iload 4, 2) := by decide +kernel
theorem dX7_faultNow_41 : decode cX7_faultNow 41 = .ok (.iconst 3, 1) := by decide +kernel
theorem dX7_faultNow_42 : decode cX7_faultNow 42 = .ok (.if_icmp .ne 5, 3) := by decide +kernel
theorem dX7_faultNow_45 : decode cX7_faultNow 45 = .ok (.iload_n 1, 1) := by decide +kernel
theorem dX7_faultNow_46 : decode cX7_faultNow 46 = .ok (.ireturn, 1) := by decide +kernel
theorem dX7_faultNow_47 : decode cX7_faultNow 47 = .ok (.iconst 0, 1) := by decide +kernel
theorem dX7_faultNow_48 : decode cX7_faultNow 48 = .ok (.istore 5, 2) := by decide +kernel
theorem dX7_faultNow_50 : decode cX7_faultNow 50 = .ok (.aload_n 0, 1) := by decide +kernel
theorem dX7_faultNow_51 : decode cX7_faultNow 51 = .ok (.iload_n 1, 1) := by decide +kernel
theorem dX7_faultNow_52 : decode cX7_faultNow 52 = .ok (.invokevirtual 94, 3) := by decide +kernel
theorem dX7_faultNow_55 : decode cX7_faultNow 55 = .ok (.iconst (-1), 1) := by decide +kernel
theorem dX7_faultNow_56 : decode cX7_faultNow 56 = .ok (.if_icmp .eq 41, 3) := by decide +kernel
theorem dX7_faultNow_59 : decode cX7_faultNow 59 = .ok (.iload 5, 2) := by decide +kernel
theorem dX7_faultNow_61 : decode cX7_faultNow 61 = .ok (.iload 4, 2) := by decide +kernel
theorem dX7_faultNow_63 : decode cX7_faultNow 63 = .ok (.ifCond .ne 7, 3) := by decide +kernel
theorem dX7_faultNow_66 : decode cX7_faultNow 66 = .ok (.iconst 4, 1) := by decide +kernel
theorem dX7_faultNow_67 : decode cX7_faultNow 67 = .ok (.goto 4, 3) := by decide +kernel
theorem dX7_faultNow_70 : decode cX7_faultNow 70 = .ok (.iload_n 3, 1) := by decide +kernel
theorem dX7_faultNow_71 : decode cX7_faultNow 71 = .ok (.if_icmp .ge 26, 3) := by decide +kernel
theorem dX7_faultNow_74 : decode cX7_faultNow 74 = .ok (.aload_n 0, 1) := by decide +kernel
theorem dX7_faultNow_75 : decode cX7_faultNow 75 = .ok (.getfield 13, 3) := by decide +kernel
theorem dX7_faultNow_78 : decode cX7_faultNow 78 = .ok (.iload_n 2, 1) := by decide +kernel
theorem dX7_faultNow_79 : decode cX7_faultNow 79 = .ok (.aload_n 0, 1) := by decide +kernel
theorem dX7_faultNow_80 : decode cX7_faultNow 80 = .ok (.iload_n 1, 1) := by decide +kernel
theorem dX7_faultNow_81 : decode cX7_faultNow 81 = .ok (.invokevirtual 94, 3) := by decide +kernel
theorem dX7_faultNow_84 : decode cX7_faultNow 84 = .ok (.iastore, 1) := by decide +kernel
theorem dX7_faultNow_85 : decode cX7_faultNow 85 = .ok (.iinc 2 1, 3) := by decide +kernel
theorem dX7_faultNow_88 : decode cX7_faultNow 88 = .ok (.iinc 5 1, 3) := by decide +kernel
theorem dX7_faultNow_91 : decode cX7_faultNow 91 = .ok (.iinc 1 1, 3) := by decide +kernel
theorem dX7_faultNow_94 : decode cX7_faultNow 94 = .ok (.goto (-44), 3) := by decide +kernel
theorem dX7_faultNow_97 : decode cX7_faultNow 97 = .ok (.iload 4, 2) := by decide +kernel
theorem dX7_faultNow_99 : decode cX7_faultNow 99 = .ok (.ifCond .ne 8, 3) := by decide +kernel
theorem dX7_faultNow_102 : decode cX7_faultNow 102 = .ok (.iload 5, 2) := by decide +kernel
theorem dX7_faultNow_104 : decode cX7_faultNow 104 = .ok (.goto 4, 3) := by decide +kernel
theorem dX7_faultNow_107 : decode cX7_faultNow 107 = .ok (.iload_n 3, 1) := by decide +kernel
theorem dX7_faultNow_108 : decode cX7_faultNow 108 = .ok (.istore_n 3, 1) := by decide +kernel
theorem dX7_faultNow_109 : decode cX7_faultNow 109 = .ok (.iload 5, 2) := by decide +kernel
theorem dX7_faultNow_111 : decode cX7_faultNow 111 = .ok (.ifCond .eq 9, 3) := by decide +kernel
theorem dX7_faultNow_114 : decode cX7_faultNow 114 = .ok (.iload 5, 2) := by decide +kernel
theorem dX7_faultNow_116 : decode cX7_faultNow 116 = .ok (.iload_n 3, 1) := by decide +kernel
theorem dX7_faultNow_117 : decode cX7_faultNow 117 = .ok (.if_icmp .ge 5, 3) := by decide +kernel
theorem dX7_faultNow_120 : decode cX7_faultNow 120 = .ok (.iload_n 1, 1) := by decide +kernel
theorem dX7_faultNow_121 : decode cX7_faultNow 121 = .ok (.ireturn, 1) := by decide +kernel
theorem dX7_faultNow_122 : decode cX7_faultNow 122 = .ok (.iload_n 1, 1) := by decide +kernel
theorem dX7_faultNow_123 : decode cX7_faultNow 123 = .ok (.aload_n 0, 1) := by decide +kernel
theorem dX7_faultNow_124 : decode cX7_faultNow 124 = .ok (.getfield 81, 3) := by decide +kernel
theorem dX7_faultNow_127 : decode cX7_faultNow 127 = .ok (.if_icmp .ne 23, 3) := by decide +kernel
theorem dX7_faultNow_130 : decode cX7_faultNow 130 = .ok (.aload_n 0, 1) := by decide +kernel
theorem dX7_faultNow_131 : decode cX7_faultNow 131 = .ok (.iload_n 2, 1) := by decide +kernel
theorem dX7_faultNow_132 : decode cX7_faultNow 132 = .ok (.putfield 85, 3) := by decide +kernel
theorem dX7_faultNow_135 : decode cX7_faultNow 135 = .ok (.aload_n 0, 1) := by decide +kernel
theorem dX7_faultNow_136 : decode cX7_faultNow 136 = .ok (.iload_n 3, 1) := by decide +kernel
theorem dX7_faultNow_137 : decode cX7_faultNow 137 = .ok (.putfield 88, 3) := by decide +kernel
theorem dX7_faultNow_140 : decode cX7_faultNow 140 = .ok (.aload_n 0, 1) := by decide +kernel
theorem dX7_faultNow_141 : decode cX7_faultNow 141 = .ok (.iload 4, 2) := by decide +kernel
theorem dX7_faultNow_143 : decode cX7_faultNow 143 = .ok (.iconst 1, 1) := by decide +kernel
theorem dX7_faultNow_144 : decode cX7_faultNow 144 = .ok (.iadd, 1) := by decide +kernel
theorem dX7_faultNow_145 : decode cX7_faultNow 145 = .ok (.putfield 91, 3) := by decide +kernel
theorem dX7_faultNow_148 : decode cX7_faultNow 148 = .ok (.iconst (-1), 1) := by decide +kernel
theorem dX7_faultNow_149 : decode cX7_faultNow 149 = .ok (.ireturn, 1) := by decide +kernel
theorem dX7_faultNow_150 : decode cX7_faultNow 150 = .ok (.aload_n 0, 1) := by decide +kernel
theorem dX7_faultNow_151 : decode cX7_faultNow 151 = .ok (.getfield 7, 3) := by decide +kernel
theorem dX7_faultNow_154 : decode cX7_faultNow 154 = .ok (.iload_n 1, 1) := by decide +kernel
theorem dX7_faultNow_155 : decode cX7_faultNow 155 = .ok (.iaload, 1) := by decide +kernel
theorem dX7_faultNow_156 : decode cX7_faultNow 156 = .ok (.bipush 59, 2) := by decide +kernel
theorem dX7_faultNow_158 : decode cX7_faultNow 158 = .ok (.if_icmp .eq 5, 3) := by decide +kernel
theorem dX7_faultNow_161 : decode cX7_faultNow 161 = .ok (.iload_n 1, 1) := by decide +kernel
theorem dX7_faultNow_162 : decode cX7_faultNow 162 = .ok (.ireturn, 1) := by decide +kernel
theorem dX7_faultNow_163 : decode cX7_faultNow 163 = .ok (.iinc 1 1, 3) := by decide +kernel
theorem dX7_faultNow_166 : decode cX7_faultNow 166 = .ok (.iinc 4 1, 3) := by decide +kernel
theorem dX7_faultNow_169 : decode cX7_faultNow 169 = .ok (.goto (-136), 3) := by decide +kernel
theorem dX7_faultNow_172 : decode cX7_faultNow 172 = .ok (.iconst (-1), 1) := by decide +kernel
theorem dX7_faultNow_173 : decode cX7_faultNow 173 = .ok (.ireturn, 1) := by decide +kernel
theorem dX7_fault_0 : decode cX7_fault 0 = .ok (.aload_n 0, 1) := by decide +kernel
theorem dX7_fault_1 : decode cX7_fault 1 = .ok (.invokevirtual 98, 3) := by decide +kernel
theorem dX7_fault_4 : decode cX7_fault 4 = .ok (.ireturn, 1) := by decide +kernel
theorem dX7_isCell_0 : decode cX7_isCell 0 = .ok (.aload_n 0, 1) := by decide +kernel
theorem dX7_isCell_1 : decode cX7_isCell 1 = .ok (.invokevirtual 98, 3) := by decide +kernel
theorem dX7_isCell_4 : decode cX7_isCell 4 = .ok (.istore_n 2, 1) := by decide +kernel
theorem dX7_isCell_5 : decode cX7_isCell 5 = .ok (.iload_n 1, 1) := by decide +kernel
theorem dX7_isCell_6 : decode cX7_isCell 6 = .ok (.iconst 0, 1) := by decide +kernel
theorem dX7_isCell_7 : decode cX7_isCell 7 = .ok (.aload_n 0, 1) := by decide +kernel
theorem dX7_isCell_8 : decode cX7_isCell 8 = .ok (.getfield 85, 3) := by decide +kernel
theorem dX7_isCell_11 : decode cX7_isCell 11 = .ok (.iconst 1, 1) := by decide +kernel
theorem dX7_isCell_12 : decode cX7_isCell 12 = .ok (.isub, 1) := by decide +kernel
theorem dX7_isCell_13 : decode cX7_isCell 13 = .ok (.invokestatic 77, 3) := by decide +kernel
theorem dX7_isCell_16 : decode cX7_isCell 16 = .ok (.ireturn, 1) := by decide +kernel
theorem dX7_isTwelve_0 : decode cX7_isTwelve 0 = .ok (.iload_n 0, 1) := by decide +kernel
theorem dX7_isTwelve_1 : decode cX7_isTwelve 1 = .ok (.iconst 0, 1) := by decide +kernel
theorem dX7_isTwelve_2 : decode cX7_isTwelve 2 = .ok (.bipush 11, 2) := by decide +kernel
theorem dX7_isTwelve_4 : decode cX7_isTwelve 4 = .ok (.invokestatic 77, 3) := by decide +kernel
theorem dX7_isTwelve_7 : decode cX7_isTwelve 7 = .ok (.ireturn, 1) := by decide +kernel
theorem dX7_isFour_0 : decode cX7_isFour 0 = .ok (.iload_n 0, 1) := by decide +kernel
theorem dX7_isFour_1 : decode cX7_isFour 1 = .ok (.iconst 0, 1) := by decide +kernel
theorem dX7_isFour_2 : decode cX7_isFour 2 = .ok (.iconst 3, 1) := by decide +kernel
theorem dX7_isFour_3 : decode cX7_isFour 3 = .ok (.invokestatic 77, 3) := by decide +kernel
theorem dX7_isFour_6 : decode cX7_isFour 6 = .ok (.ireturn, 1) := by decide +kernel
theorem dX7_cellOf_0 : decode cX7_cellOf 0 = .ok (.iload_n 2, 1) := by decide +kernel
theorem dX7_cellOf_1 : decode cX7_cellOf 1 = .ok (.ifCond .ne 12, 3) := by decide +kernel
theorem dX7_cellOf_4 : decode cX7_cellOf 4 = .ok (.aload_n 0, 1) := by decide +kernel
theorem dX7_cellOf_5 : decode cX7_cellOf 5 = .ok (.getfield 13, 3) := by decide +kernel
theorem dX7_cellOf_8 : decode cX7_cellOf 8 = .ok (.iload_n 1, 1) := by decide +kernel
theorem dX7_cellOf_9 : decode cX7_cellOf 9 = .ok (.iaload, 1) := by decide +kernel
theorem dX7_cellOf_10 : decode cX7_cellOf 10 = .ok (.goto 23, 3) := by decide +kernel
theorem dX7_cellOf_13 : decode cX7_cellOf 13 = .ok (.iload_n 2, 1) := by decide +kernel
theorem dX7_cellOf_14 : decode cX7_cellOf 14 = .ok (.iconst 1, 1) := by decide +kernel
theorem dX7_cellOf_15 : decode cX7_cellOf 15 = .ok (.if_icmp .ne 12, 3) := by decide +kernel
theorem dX7_cellOf_18 : decode cX7_cellOf 18 = .ok (.aload_n 0, 1) := by decide +kernel
theorem dX7_cellOf_19 : decode cX7_cellOf 19 = .ok (.getfield 16, 3) := by decide +kernel
theorem dX7_cellOf_22 : decode cX7_cellOf 22 = .ok (.iload_n 1, 1) := by decide +kernel
theorem dX7_cellOf_23 : decode cX7_cellOf 23 = .ok (.iaload, 1) := by decide +kernel
theorem dX7_cellOf_24 : decode cX7_cellOf 24 = .ok (.goto 9, 3) := by decide +kernel
theorem dX7_cellOf_27 : decode cX7_cellOf 27 = .ok (.aload_n 0, 1) := by decide +kernel
theorem dX7_cellOf_28 : decode cX7_cellOf 28 = .ok (.getfield 19, 3) := by decide +kernel
theorem dX7_cellOf_31 : decode cX7_cellOf 31 = .ok (.iload_n 1, 1) := by decide +kernel
theorem dX7_cellOf_32 : decode cX7_cellOf 32 = .ok (.iaload, 1) := by decide +kernel
theorem dX7_cellOf_33 : decode cX7_cellOf 33 = .ok (.ireturn, 1) := by decide +kernel
theorem dX7_cell_0 : decode cX7_cell 0 = .ok (.aload_n 0, 1) := by decide +kernel
theorem dX7_cell_1 : decode cX7_cell 1 = .ok (.iload_n 1, 1) := by decide +kernel
theorem dX7_cell_2 : decode cX7_cell 2 = .ok (.invokevirtual 102, 3) := by decide +kernel
theorem dX7_cell_5 : decode cX7_cell 5 = .ok (.ifCond .eq 21, 3) := by decide +kernel
theorem dX7_cell_8 : decode cX7_cell 8 = .ok (.iload_n 2, 1) := by decide +kernel
theorem dX7_cell_9 : decode cX7_cell 9 = .ok (.iconst 0, 1) := by decide +kernel
theorem dX7_cell_10 : decode cX7_cell 10 = .ok (.iconst 2, 1) := by decide +kernel
theorem dX7_cell_11 : decode cX7_cell 11 = .ok (.invokestatic 77, 3) := by decide +kernel
theorem dX7_cell_14 : decode cX7_cell 14 = .ok (.ifCond .eq 12, 3) := by decide +kernel
theorem dX7_cell_17 : decode cX7_cell 17 = .ok (.aload_n 0, 1) := by decide +kernel
theorem dX7_cell_18 : decode cX7_cell 18 = .ok (.iload_n 1, 1) := by decide +kernel
theorem dX7_cell_19 : decode cX7_cell 19 = .ok (.iload_n 2, 1) := by decide +kernel
theorem dX7_cell_20 : decode cX7_cell 20 = .ok (.invokevirtual 106, 3) := by decide +kernel
theorem dX7_cell_23 : decode cX7_cell 23 = .ok (.goto 5, 3) := by decide +kernel
theorem dX7_cell_26 : decode cX7_cell 26 = .ok (.bipush (-2), 2) := by decide +kernel
theorem dX7_cell_28 : decode cX7_cell 28 = .ok (.ireturn, 1) := by decide +kernel
theorem dX7_stand_0 : decode cX7_stand 0 = .ok (.iload_n 1, 1) := by decide +kernel
theorem dX7_stand_1 : decode cX7_stand 1 = .ok (.invokestatic 110, 3) := by decide +kernel
theorem dX7_stand_4 : decode cX7_stand 4 = .ok (.ifCond .eq 13, 3) := by decide +kernel
theorem dX7_stand_7 : decode cX7_stand 7 = .ok (.iload_n 2, 1) := by decide +kernel
theorem dX7_stand_8 : decode cX7_stand 8 = .ok (.iconst 0, 1) := by decide +kernel
theorem dX7_stand_9 : decode cX7_stand 9 = .ok (.bipush 20, 2) := by decide +kernel
theorem dX7_stand_11 : decode cX7_stand 11 = .ok (.invokestatic 77, 3) := by decide +kernel
theorem dX7_stand_14 : decode cX7_stand 14 = .ok (.ifCond .ne 6, 3) := by decide +kernel
theorem dX7_stand_17 : decode cX7_stand 17 = .ok (.bipush (-2), 2) := by decide +kernel
theorem dX7_stand_19 : decode cX7_stand 19 = .ok (.ireturn, 1) := by decide +kernel
theorem dX7_stand_20 : decode cX7_stand 20 = .ok (.aload_n 0, 1) := by decide +kernel
theorem dX7_stand_21 : decode cX7_stand 21 = .ok (.getfield 16, 3) := by decide +kernel
theorem dX7_stand_24 : decode cX7_stand 24 = .ok (.iload_n 1, 1) := by decide +kernel
theorem dX7_stand_25 : decode cX7_stand 25 = .ok (.iaload, 1) := by decide +kernel
theorem dX7_stand_26 : decode cX7_stand 26 = .ok (.istore_n 3, 1) := by decide +kernel
theorem dX7_stand_27 : decode cX7_stand 27 = .ok (.aload_n 0, 1) := by decide +kernel
theorem dX7_stand_28 : decode cX7_stand 28 = .ok (.getfield 16, 3) := by decide +kernel
theorem dX7_stand_31 : decode cX7_stand 31 = .ok (.iload_n 1, 1) := by decide +kernel
theorem dX7_stand_32 : decode cX7_stand 32 = .ok (.iload_n 2, 1) := by decide +kernel
theorem dX7_stand_33 : decode cX7_stand 33 = .ok (.iastore, 1) := by decide +kernel
theorem dX7_stand_34 : decode cX7_stand 34 = .ok (.iload_n 3, 1) := by decide +kernel
theorem dX7_stand_35 : decode cX7_stand 35 = .ok (.ireturn, 1) := by decide +kernel
theorem dX7_owner_0 : decode cX7_owner 0 = .ok (.iload_n 1, 1) := by decide +kernel
theorem dX7_owner_1 : decode cX7_owner 1 = .ok (.invokestatic 110, 3) := by decide +kernel
theorem dX7_owner_4 : decode cX7_owner 4 = .ok (.ifCond .eq 10, 3) := by decide +kernel
theorem dX7_owner_7 : decode cX7_owner 7 = .ok (.iload_n 2, 1) := by decide +kernel
theorem dX7_owner_8 : decode cX7_owner 8 = .ok (.invokestatic 113, 3) := by decide +kernel
theorem dX7_owner_11 : decode cX7_owner 11 = .ok (.ifCond .ne 6, 3) := by decide +kernel
theorem dX7_owner_14 : decode cX7_owner 14 = .ok (.bipush (-2), 2) := by decide +kernel
theorem dX7_owner_16 : decode cX7_owner 16 = .ok (.ireturn, 1) := by decide +kernel
theorem dX7_owner_17 : decode cX7_owner 17 = .ok (.aload_n 0, 1) := by decide +kernel
theorem dX7_owner_18 : decode cX7_owner 18 = .ok (.getfield 19, 3) := by decide +kernel
theorem dX7_owner_21 : decode cX7_owner 21 = .ok (.iload_n 1, 1) := by decide +kernel
theorem dX7_owner_22 : decode cX7_owner 22 = .ok (.iaload, 1) := by decide +kernel
theorem dX7_owner_23 : decode cX7_owner 23 = .ok (.istore_n 3, 1) := by decide +kernel
theorem dX7_owner_24 : decode cX7_owner 24 = .ok (.aload_n 0, 1) := by decide +kernel
theorem dX7_owner_25 : decode cX7_owner 25 = .ok (.getfield 19, 3) := by decide +kernel
theorem dX7_owner_28 : decode cX7_owner 28 = .ok (.iload_n 1, 1) := by decide +kernel
theorem dX7_owner_29 : decode cX7_owner 29 = .ok (.iload_n 2, 1) := by decide +kernel
theorem dX7_owner_30 : decode cX7_owner 30 = .ok (.iastore, 1) := by decide +kernel
theorem dX7_owner_31 : decode cX7_owner 31 = .ok (.iload_n 3, 1) := by decide +kernel
theorem dX7_owner_32 : decode cX7_owner 32 = .ok (.ireturn, 1) := by decide +kernel
theorem dX7_read_0 : decode cX7_read 0 = .ok (.iload_n 1, 1) := by decide +kernel
theorem dX7_read_1 : decode cX7_read 1 = .ok (.invokestatic 116, 3) := by decide +kernel
theorem dX7_read_4 : decode cX7_read 4 = .ok (.ifCond .ne 6, 3) := by decide +kernel
theorem dX7_read_7 : decode cX7_read 7 = .ok (.bipush (-2), 2) := by decide +kernel
theorem dX7_read_9 : decode cX7_read 9 = .ok (.ireturn, 1) := by decide +kernel
theorem dX7_read_10 : decode cX7_read 10 = .ok (.aload_n 0, 1) := by decide +kernel
theorem dX7_read_11 : decode cX7_read 11 = .ok (.getfield 59, 3) := by decide +kernel
theorem dX7_read_14 : decode cX7_read 14 = .ok (.iload_n 1, 1) := by decide +kernel
theorem dX7_read_15 : decode cX7_read 15 = .ok (.baload, 1) := by decide +kernel
theorem dX7_read_16 : decode cX7_read 16 = .ok (.ifCond .ne 9, 3) := by decide +kernel
theorem dX7_read_19 : decode cX7_read 19 = .ok (.aload_n 0, 1) := by decide +kernel
theorem dX7_read_20 : decode cX7_read 20 = .ok (.iconst 1, 1) := by decide +kernel
theorem dX7_read_21 : decode cX7_read 21 = .ok (.invokevirtual 119, 3) := by decide +kernel
theorem dX7_read_24 : decode cX7_read 24 = .ok (.ireturn, 1) := by decide +kernel
theorem dX7_read_25 : decode cX7_read 25 = .ok (.iconst 0, 1) := by decide +kernel
theorem dX7_read_26 : decode cX7_read 26 = .ok (.istore_n 2, 1) := by decide +kernel
theorem dX7_read_27 : decode cX7_read 27 = .ok (.iload_n 2, 1) := by decide +kernel
theorem dX7_read_28 : decode cX7_read 28 = .ok (.aload_n 0, 1) := by decide +kernel
theorem dX7_read_29 : decode cX7_read 29 = .ok (.getfield 66, 3) := by decide +kernel
theorem dX7_read_32 : decode cX7_read 32 = .ok (.iload_n 1, 1) := by decide +kernel
theorem dX7_read_33 : decode cX7_read 33 = .ok (.iaload, 1) := by decide +kernel
theorem dX7_read_34 : decode cX7_read 34 = .ok (.if_icmp .ge 49, 3) := by decide +kernel
theorem dX7_read_37 : decode cX7_read 37 = .ok (.iload_n 2, 1) := by decide +kernel
theorem dX7_read_38 : decode cX7_read 38 = .ok (.bipush 12, 2) := by decide +kernel
theorem dX7_read_40 : decode cX7_read 40 = .ok (.if_icmp .ge 43, 3) := by decide +kernel
theorem dX7_read_43 : decode cX7_read 43 = .ok (.aload_n 0, 1) := by decide +kernel
theorem dX7_read_44 : decode cX7_read 44 = .ok (.getfield 69, 3) := by decide +kernel
theorem dX7_read_47 : decode cX7_read 47 = .ok (.bipush 48, 2) := by decide +kernel
theorem dX7_read_49 : decode cX7_read 49 = .ok (.iload_n 1, 1) := by decide +kernel
theorem dX7_read_50 : decode cX7_read 50 = .ok (.imul, 1) := by decide +kernel
theorem dX7_read_51 : decode cX7_read 51 = .ok (.iload_n 2, 1) := by decide +kernel
theorem dX7_read_52 : decode cX7_read 52 = .ok (.iadd, 1) := by decide +kernel
theorem dX7_read_53 : decode cX7_read 53 = .ok (.iaload, 1) := by decide +kernel
theorem dX7_read_54 : decode cX7_read 54 = .ok (.invokestatic 113, 3) := by decide +kernel
theorem dX7_read_57 : decode cX7_read 57 = .ok (.ifCond .eq 26, 3) := by decide +kernel
theorem dX7_read_60 : decode cX7_read 60 = .ok (.aload_n 0, 1) := by decide +kernel
theorem dX7_read_61 : decode cX7_read 61 = .ok (.getfield 19, 3) := by decide +kernel
theorem dX7_read_64 : decode cX7_read 64 = .ok (.iload_n 2, 1) := by decide +kernel
theorem dX7_read_65 : decode cX7_read 65 = .ok (.aload_n 0, 1) := by decide +kernel
theorem dX7_read_66 : decode cX7_read 66 = .ok (.getfield 69, 3) := by decide +kernel
theorem dX7_read_69 : decode cX7_read 69 = .ok (.bipush 48, 2) := by decide +kernel
theorem dX7_read_71 : decode cX7_read 71 = .ok (.iload_n 1, 1) := by decide +kernel
theorem dX7_read_72 : decode cX7_read 72 = .ok (.imul, 1) := by decide +kernel
theorem dX7_read_73 : decode cX7_read 73 = .ok (.iload_n 2, 1) := by decide +kernel
theorem dX7_read_74 : decode cX7_read 74 = .ok (.iadd, 1) := by decide +kernel
theorem dX7_read_75 : decode cX7_read 75 = .ok (.iaload, 1) := by decide +kernel
theorem dX7_read_76 : decode cX7_read 76 = .ok (.iastore, 1) := by decide +kernel
theorem dX7_read_77 : decode cX7_read 77 = .ok (.iinc 2 1, 3) := by decide +kernel
theorem dX7_read_80 : decode cX7_read 80 = .ok (.goto (-53), 3) := by decide +kernel
theorem dX7_read_83 : decode cX7_read 83 = .ok (.iload_n 2, 1) := by decide +kernel
theorem dX7_read_84 : decode cX7_read 84 = .ok (.ireturn, 1) := by decide +kernel
theorem dX7_days_0 : decode cX7_days 0 = .ok (.iload_n 1, 1) := by decide +kernel
theorem dX7_days_1 : decode cX7_days 1 = .ok (.invokestatic 113, 3) := by decide +kernel
theorem dX7_days_4 : decode cX7_days 4 = .ok (.ifCond .eq 13, 3) := by decide +kernel
theorem dX7_days_7 : decode cX7_days 7 = .ok (.iload_n 2, 1) := by decide +kernel
theorem dX7_days_8 : decode cX7_days 8 = .ok (.iconst 0, 1) := by decide +kernel
theorem dX7_days_9 : decode cX7_days 9 = .ok (.bipush 99, 2) := by decide +kernel
theorem dX7_days_11 : decode cX7_days 11 = .ok (.invokestatic 77, 3) := by decide +kernel
theorem dX7_days_14 : decode cX7_days 14 = .ok (.ifCond .ne 6, 3) := by decide +kernel
theorem dX7_days_17 : decode cX7_days 17 = .ok (.bipush (-2), 2) := by decide +kernel
theorem dX7_days_19 : decode cX7_days 19 = .ok (.ireturn, 1) := by decide +kernel
theorem dX7_days_20 : decode cX7_days 20 = .ok (.aload_n 0, 1) := by decide +kernel
theorem dX7_days_21 : decode cX7_days 21 = .ok (.getfield 22, 3) := by decide +kernel
theorem dX7_days_24 : decode cX7_days 24 = .ok (.iload_n 1, 1) := by decide +kernel
theorem dX7_days_25 : decode cX7_days 25 = .ok (.iaload, 1) := by decide +kernel
theorem dX7_days_26 : decode cX7_days 26 = .ok (.istore_n 3, 1) := by decide +kernel
theorem dX7_days_27 : decode cX7_days 27 = .ok (.aload_n 0, 1) := by decide +kernel
theorem dX7_days_28 : decode cX7_days 28 = .ok (.getfield 22, 3) := by decide +kernel
theorem dX7_days_31 : decode cX7_days 31 = .ok (.iload_n 1, 1) := by decide +kernel
theorem dX7_days_32 : decode cX7_days 32 = .ok (.iload_n 2, 1) := by decide +kernel
theorem dX7_days_33 : decode cX7_days 33 = .ok (.iastore, 1) := by decide +kernel
theorem dX7_days_34 : decode cX7_days 34 = .ok (.iload_n 3, 1) := by decide +kernel
theorem dX7_days_35 : decode cX7_days 35 = .ok (.ireturn, 1) := by decide +kernel
theorem dX7_steepOf_0 : decode cX7_steepOf 0 = .ok (.iload_n 0, 1) := by decide +kernel
theorem dX7_steepOf_1 : decode cX7_steepOf 1 = .ok (.iconst 1, 1) := by decide +kernel
theorem dX7_steepOf_2 : decode cX7_steepOf 2 = .ok (.iadd, 1) := by decide +kernel
theorem dX7_steepOf_3 : decode cX7_steepOf 3 = .ok (.iload_n 1, 1) := by decide +kernel
theorem dX7_steepOf_4 : decode cX7_steepOf 4 = .ok (.bipush 6, 2) := by decide +kernel
theorem dX7_steepOf_6 : decode cX7_steepOf 6 = .ok (.if_icmp .ge 9, 3) := by decide +kernel
theorem dX7_steepOf_9 : decode cX7_steepOf 9 = .ok (.iload_n 1, 1) := by decide +kernel
theorem dX7_steepOf_10 : decode cX7_steepOf 10 = .ok (.iconst 1, 1) := by decide +kernel
theorem dX7_steepOf_11 : decode cX7_steepOf 11 = .ok (.iadd, 1) := by decide +kernel
theorem dX7_steepOf_12 : decode cX7_steepOf 12 = .ok (.goto 7, 3) := by decide +kernel
theorem dX7_steepOf_15 : decode cX7_steepOf 15 = .ok (.bipush 12, 2) := by decide +kernel
theorem dX7_steepOf_17 : decode cX7_steepOf 17 = .ok (.iload_n 1, 1) := by decide +kernel
theorem dX7_steepOf_18 : decode cX7_steepOf 18 = .ok (.isub, 1) := by decide +kernel
theorem dX7_steepOf_19 : decode cX7_steepOf 19 = .ok (.imul, 1) := by decide +kernel
theorem dX7_steepOf_20 : decode cX7_steepOf 20 = .ok (.ireturn, 1) := by decide +kernel
theorem dX7_steep_0 : decode cX7_steep 0 = .ok (.iload_n 1, 1) := by decide +kernel
theorem dX7_steep_1 : decode cX7_steep 1 = .ok (.invokestatic 113, 3) := by decide +kernel
theorem dX7_steep_4 : decode cX7_steep 4 = .ok (.ifCond .eq 18, 3) := by decide +kernel
theorem dX7_steep_7 : decode cX7_steep 7 = .ok (.iload_n 2, 1) := by decide +kernel
theorem dX7_steep_8 : decode cX7_steep 8 = .ok (.invokestatic 110, 3) := by decide +kernel
theorem dX7_steep_11 : decode cX7_steep 11 = .ok (.ifCond .eq 11, 3) := by decide +kernel
theorem dX7_steep_14 : decode cX7_steep 14 = .ok (.iload_n 1, 1) := by decide +kernel
theorem dX7_steep_15 : decode cX7_steep 15 = .ok (.iload_n 2, 1) := by decide +kernel
theorem dX7_steep_16 : decode cX7_steep 16 = .ok (.invokestatic 122, 3) := by decide +kernel
theorem dX7_steep_19 : decode cX7_steep 19 = .ok (.goto 5, 3) := by decide +kernel
theorem dX7_steep_22 : decode cX7_steep 22 = .ok (.bipush (-2), 2) := by decide +kernel
theorem dX7_steep_24 : decode cX7_steep 24 = .ok (.ireturn, 1) := by decide +kernel
theorem dX7_shadeOf_0 : decode cX7_shadeOf 0 = .ok (.iload_n 3, 1) := by decide +kernel
theorem dX7_shadeOf_1 : decode cX7_shadeOf 1 = .ok (.bipush 6, 2) := by decide +kernel
theorem dX7_shadeOf_3 : decode cX7_shadeOf 3 = .ok (.if_icmp .ge 7, 3) := by decide +kernel
theorem dX7_shadeOf_6 : decode cX7_shadeOf 6 = .ok (.iconst (-1), 1) := by decide +kernel
theorem dX7_shadeOf_7 : decode cX7_shadeOf 7 = .ok (.goto 4, 3) := by decide +kernel
theorem dX7_shadeOf_10 : decode cX7_shadeOf 10 = .ok (.iconst 1, 1) := by decide +kernel
theorem dX7_shadeOf_11 : decode cX7_shadeOf 11 = .ok (.istore 4, 2) := by decide +kernel
theorem dX7_shadeOf_13 : decode cX7_shadeOf 13 = .ok (.iload_n 1, 1) := by decide +kernel
theorem dX7_shadeOf_14 : decode cX7_shadeOf 14 = .ok (.aload_n 0, 1) := by decide +kernel
theorem dX7_shadeOf_15 : decode cX7_shadeOf 15 = .ok (.getfield 88, 3) := by decide +kernel
theorem dX7_shadeOf_18 : decode cX7_shadeOf 18 = .ok (.idiv, 1) := by decide +kernel
theorem dX7_shadeOf_19 : decode cX7_shadeOf 19 = .ok (.istore 5, 2) := by decide +kernel
theorem dX7_shadeOf_21 : decode cX7_shadeOf 21 = .ok (.iconst 1, 1) := by decide +kernel
theorem dX7_shadeOf_22 : decode cX7_shadeOf 22 = .ok (.istore 6, 2) := by decide +kernel
theorem dX7_shadeOf_24 : decode cX7_shadeOf 24 = .ok (.iload_n 1, 1) := by decide +kernel
theorem dX7_shadeOf_25 : decode cX7_shadeOf 25 = .ok (.iload 4, 2) := by decide +kernel
theorem dX7_shadeOf_27 : decode cX7_shadeOf 27 = .ok (.iadd, 1) := by decide +kernel
theorem dX7_shadeOf_28 : decode cX7_shadeOf 28 = .ok (.istore 7, 2) := by decide +kernel
theorem dX7_shadeOf_30 : decode cX7_shadeOf 30 = .ok (.iload 7, 2) := by decide +kernel
theorem dX7_shadeOf_32 : decode cX7_shadeOf 32 = .ok (.iload 5, 2) := by decide +kernel
theorem dX7_shadeOf_34 : decode cX7_shadeOf 34 = .ok (.aload_n 0, 1) := by decide +kernel
theorem dX7_shadeOf_35 : decode cX7_shadeOf 35 = .ok (.getfield 88, 3) := by decide +kernel
theorem dX7_shadeOf_38 : decode cX7_shadeOf 38 = .ok (.imul, 1) := by decide +kernel
theorem dX7_shadeOf_39 : decode cX7_shadeOf 39 = .ok (.if_icmp .lt 66, 3) := by decide +kernel
theorem dX7_shadeOf_42 : decode cX7_shadeOf 42 = .ok (.iload 7, 2) := by decide +kernel
theorem dX7_shadeOf_44 : decode cX7_shadeOf 44 = .ok (.iload 5, 2) := by decide +kernel
theorem dX7_shadeOf_46 : decode cX7_shadeOf 46 = .ok (.iconst 1, 1) := by decide +kernel
theorem dX7_shadeOf_47 : decode cX7_shadeOf 47 = .ok (.iadd, 1) := by decide +kernel
theorem dX7_shadeOf_48 : decode cX7_shadeOf 48 = .ok (.aload_n 0, 1) := by decide +kernel
theorem dX7_shadeOf_49 : decode cX7_shadeOf 49 = .ok (.getfield 88, 3) := by decide +kernel
theorem dX7_shadeOf_52 : decode cX7_shadeOf 52 = .ok (.imul, 1) := by decide +kernel
theorem dX7_shadeOf_53 : decode cX7_shadeOf 53 = .ok (.if_icmp .ge 52, 3) := by decide +kernel
theorem dX7_shadeOf_56 : decode cX7_shadeOf 56 = .ok (.aload_n 0, 1) := by decide +kernel
theorem dX7_shadeOf_57 : decode cX7_shadeOf 57 = .ok (.getfield 13, 3) := by decide +kernel
theorem dX7_shadeOf_60 : decode cX7_shadeOf 60 = .ok (.iload 7, 2) := by decide +kernel
theorem dX7_shadeOf_62 : decode cX7_shadeOf 62 = .ok (.iaload, 1) := by decide +kernel
theorem dX7_shadeOf_63 : decode cX7_shadeOf 63 = .ok (.aload_n 0, 1) := by decide +kernel
theorem dX7_shadeOf_64 : decode cX7_shadeOf 64 = .ok (.getfield 16, 3) := by decide +kernel
theorem dX7_shadeOf_67 : decode cX7_shadeOf 67 = .ok (.iload 7, 2) := by decide +kernel
theorem dX7_shadeOf_69 : decode cX7_shadeOf 69 = .ok (.iaload, 1) := by decide +kernel
theorem dX7_shadeOf_70 : decode cX7_shadeOf 70 = .ok (.iadd, 1) := by decide +kernel
theorem dX7_shadeOf_71 : decode cX7_shadeOf 71 = .ok (.aload_n 0, 1) := by decide +kernel
theorem dX7_shadeOf_72 : decode cX7_shadeOf 72 = .ok (.getfield 13, 3) := by decide +kernel
theorem dX7_shadeOf_75 : decode cX7_shadeOf 75 = .ok (.iload_n 1, 1) := by decide +kernel
theorem dX7_shadeOf_76 : decode cX7_shadeOf 76 = .ok (.iaload, 1) := by decide +kernel
theorem dX7_shadeOf_77 : decode cX7_shadeOf 77 = .ok (.isub, 1) := by decide +kernel
theorem dX7_shadeOf_78 : decode cX7_shadeOf 78 = .ok (.iload 6, 2) := by decide +kernel
theorem dX7_shadeOf_80 : decode cX7_shadeOf 80 = .ok (.iload_n 2, 1) := by decide +kernel
theorem dX7_shadeOf_81 : decode cX7_shadeOf 81 = .ok (.iload_n 3, 1) := by decide +kernel
theorem dX7_shadeOf_82 : decode cX7_shadeOf 82 = .ok (.invokestatic 122, 3) := by decide +kernel
theorem dX7_shadeOf_85 : decode cX7_shadeOf 85 = .ok (.imul, 1) := by decide +kernel
theorem dX7_shadeOf_86 : decode cX7_shadeOf 86 = .ok (.if_icmp .le 6, 3) := by decide +kernel
theorem dX7_shadeOf_89 : decode cX7_shadeOf 89 = .ok (.iload 7, 2) := by decide +kernel
theorem dX7_shadeOf_91 : decode cX7_shadeOf 91 = .ok (.ireturn, 1) := by decide +kernel
theorem dX7_shadeOf_92 : decode cX7_shadeOf 92 = .ok (.iinc 6 1, 3) := by decide +kernel
theorem dX7_shadeOf_95 : decode cX7_shadeOf 95 = .ok (.iload 7, 2) := by decide +kernel
theorem dX7_shadeOf_97 : decode cX7_shadeOf 97 = .ok (.iload 4, 2) := by decide +kernel
theorem dX7_shadeOf_99 : decode cX7_shadeOf 99 = .ok (.iadd, 1) := by decide +kernel
theorem dX7_shadeOf_100 : decode cX7_shadeOf 100 = .ok (.istore 7, 2) := by decide +kernel
theorem dX7_shadeOf_102 : decode cX7_shadeOf 102 = .ok (.goto (-72), 3) := by decide +kernel
theorem dX7_shadeOf_105 : decode cX7_shadeOf 105 = .ok (.iconst (-1), 1) := by decide +kernel
theorem dX7_shadeOf_106 : decode cX7_shadeOf 106 = .ok (.ireturn, 1) := by decide +kernel
theorem dX7_shade_0 : decode cX7_shade 0 = .ok (.aload_n 0, 1) := by decide +kernel
theorem dX7_shade_1 : decode cX7_shade 1 = .ok (.iload_n 1, 1) := by decide +kernel
theorem dX7_shade_2 : decode cX7_shade 2 = .ok (.invokevirtual 102, 3) := by decide +kernel
theorem dX7_shade_5 : decode cX7_shade 5 = .ok (.ifCond .eq 27, 3) := by decide +kernel
theorem dX7_shade_8 : decode cX7_shade 8 = .ok (.iload_n 2, 1) := by decide +kernel
theorem dX7_shade_9 : decode cX7_shade 9 = .ok (.invokestatic 113, 3) := by decide +kernel
theorem dX7_shade_12 : decode cX7_shade 12 = .ok (.ifCond .eq 20, 3) := by decide +kernel
theorem dX7_shade_15 : decode cX7_shade 15 = .ok (.iload_n 3, 1) := by decide +kernel
theorem dX7_shade_16 : decode cX7_shade 16 = .ok (.invokestatic 110, 3) := by decide +kernel
theorem dX7_shade_19 : decode cX7_shade 19 = .ok (.ifCond .eq 13, 3) := by decide +kernel
theorem dX7_shade_22 : decode cX7_shade 22 = .ok (.aload_n 0, 1) := by decide +kernel
theorem dX7_shade_23 : decode cX7_shade 23 = .ok (.iload_n 1, 1) := by decide +kernel
theorem dX7_shade_24 : decode cX7_shade 24 = .ok (.iload_n 2, 1) := by decide +kernel
theorem dX7_shade_25 : decode cX7_shade 25 = .ok (.iload_n 3, 1) := by decide +kernel
theorem dX7_shade_26 : decode cX7_shade 26 = .ok (.invokevirtual 125, 3) := by decide +kernel
theorem dX7_shade_29 : decode cX7_shade 29 = .ok (.goto 5, 3) := by decide +kernel
theorem dX7_shade_32 : decode cX7_shade 32 = .ok (.bipush (-2), 2) := by decide +kernel
theorem dX7_shade_34 : decode cX7_shade 34 = .ok (.ireturn, 1) := by decide +kernel
theorem dX7_lightOf_0 : decode cX7_lightOf 0 = .ok (.iconst 0, 1) := by decide +kernel
theorem dX7_lightOf_1 : decode cX7_lightOf 1 = .ok (.istore_n 3, 1) := by decide +kernel
theorem dX7_lightOf_2 : decode cX7_lightOf 2 = .ok (.iconst 0, 1) := by decide +kernel
theorem dX7_lightOf_3 : decode cX7_lightOf 3 = .ok (.istore 4, 2) := by decide +kernel
theorem dX7_lightOf_5 : decode cX7_lightOf 5 = .ok (.iload 4, 2) := by decide +kernel
theorem dX7_lightOf_7 : decode cX7_lightOf 7 = .ok (.bipush 12, 2) := by decide +kernel
theorem dX7_lightOf_9 : decode cX7_lightOf 9 = .ok (.if_icmp .ge 32, 3) := by decide +kernel
theorem dX7_lightOf_12 : decode cX7_lightOf 12 = .ok (.iload_n 3, 1) := by decide +kernel
theorem dX7_lightOf_13 : decode cX7_lightOf 13 = .ok (.aload_n 0, 1) := by decide +kernel
theorem dX7_lightOf_14 : decode cX7_lightOf 14 = .ok (.iload_n 1, 1) := by decide +kernel
theorem dX7_lightOf_15 : decode cX7_lightOf 15 = .ok (.iload_n 2, 1) := by decide +kernel
theorem dX7_lightOf_16 : decode cX7_lightOf 16 = .ok (.iload 4, 2) := by decide +kernel
theorem dX7_lightOf_18 : decode cX7_lightOf 18 = .ok (.invokevirtual 125, 3) := by decide +kernel
theorem dX7_lightOf_21 : decode cX7_lightOf 21 = .ok (.iconst (-1), 1) := by decide +kernel
theorem dX7_lightOf_22 : decode cX7_lightOf 22 = .ok (.if_icmp .ne 10, 3) := by decide +kernel
theorem dX7_lightOf_25 : decode cX7_lightOf 25 = .ok (.iconst 1, 1) := by decide +kernel
theorem dX7_lightOf_26 : decode cX7_lightOf 26 = .ok (.iload 4, 2) := by decide +kernel
theorem dX7_lightOf_28 : decode cX7_lightOf 28 = .ok (.ishl, 1) := by decide +kernel
theorem dX7_lightOf_29 : decode cX7_lightOf 29 = .ok (.goto 4, 3) := by decide +kernel
theorem dX7_lightOf_32 : decode cX7_lightOf 32 = .ok (.iconst 0, 1) := by decide +kernel
theorem dX7_lightOf_33 : decode cX7_lightOf 33 = .ok (.ior, 1) := by decide +kernel
theorem dX7_lightOf_34 : decode cX7_lightOf 34 = .ok (.istore_n 3, 1) := by decide +kernel
theorem dX7_lightOf_35 : decode cX7_lightOf 35 = .ok (.iinc 4 1, 3) := by decide +kernel
theorem dX7_lightOf_38 : decode cX7_lightOf 38 = .ok (.goto (-33), 3) := by decide +kernel
theorem dX7_lightOf_41 : decode cX7_lightOf 41 = .ok (.iload_n 3, 1) := by decide +kernel
theorem dX7_lightOf_42 : decode cX7_lightOf 42 = .ok (.ireturn, 1) := by decide +kernel
theorem dX7_light_0 : decode cX7_light 0 = .ok (.aload_n 0, 1) := by decide +kernel
theorem dX7_light_1 : decode cX7_light 1 = .ok (.iload_n 1, 1) := by decide +kernel
theorem dX7_light_2 : decode cX7_light 2 = .ok (.invokevirtual 102, 3) := by decide +kernel
theorem dX7_light_5 : decode cX7_light 5 = .ok (.ifCond .eq 19, 3) := by decide +kernel
theorem dX7_light_8 : decode cX7_light 8 = .ok (.iload_n 2, 1) := by decide +kernel
theorem dX7_light_9 : decode cX7_light 9 = .ok (.invokestatic 113, 3) := by decide +kernel
theorem dX7_light_12 : decode cX7_light 12 = .ok (.ifCond .eq 12, 3) := by decide +kernel
theorem dX7_light_15 : decode cX7_light 15 = .ok (.aload_n 0, 1) := by decide +kernel
theorem dX7_light_16 : decode cX7_light 16 = .ok (.iload_n 1, 1) := by decide +kernel
theorem dX7_light_17 : decode cX7_light 17 = .ok (.iload_n 2, 1) := by decide +kernel
theorem dX7_light_18 : decode cX7_light 18 = .ok (.invokevirtual 129, 3) := by decide +kernel
theorem dX7_light_21 : decode cX7_light 21 = .ok (.goto 5, 3) := by decide +kernel
theorem dX7_light_24 : decode cX7_light 24 = .ok (.bipush (-2), 2) := by decide +kernel
theorem dX7_light_26 : decode cX7_light 26 = .ok (.ireturn, 1) := by decide +kernel
theorem dX7_yearOf_0 : decode cX7_yearOf 0 = .ok (.iconst 0, 1) := by decide +kernel
theorem dX7_yearOf_1 : decode cX7_yearOf 1 = .ok (.istore_n 2, 1) := by decide +kernel
theorem dX7_yearOf_2 : decode cX7_yearOf 2 = .ok (.iconst 0, 1) := by decide +kernel
theorem dX7_yearOf_3 : decode cX7_yearOf 3 = .ok (.istore_n 3, 1) := by decide +kernel
theorem dX7_yearOf_4 : decode cX7_yearOf 4 = .ok (.iload_n 3, 1) := by decide +kernel
theorem dX7_yearOf_5 : decode cX7_yearOf 5 = .ok (.iconst 4, 1) := by decide +kernel
theorem dX7_yearOf_6 : decode cX7_yearOf 6 = .ok (.if_icmp .ge 28, 3) := by decide +kernel
theorem dX7_yearOf_9 : decode cX7_yearOf 9 = .ok (.iload_n 2, 1) := by decide +kernel
theorem dX7_yearOf_10 : decode cX7_yearOf 10 = .ok (.aload_n 0, 1) := by decide +kernel
theorem dX7_yearOf_11 : decode cX7_yearOf 11 = .ok (.iload_n 1, 1) := by decide +kernel
theorem dX7_yearOf_12 : decode cX7_yearOf 12 = .ok (.iload_n 3, 1) := by decide +kernel
theorem dX7_yearOf_13 : decode cX7_yearOf 13 = .ok (.invokevirtual 129, 3) := by decide +kernel
theorem dX7_yearOf_16 : decode cX7_yearOf 16 = .ok (.invokestatic 132, 3) := by decide +kernel
theorem dX7_yearOf_19 : decode cX7_yearOf 19 = .ok (.aload_n 0, 1) := by decide +kernel
theorem dX7_yearOf_20 : decode cX7_yearOf 20 = .ok (.getfield 22, 3) := by decide +kernel
theorem dX7_yearOf_23 : decode cX7_yearOf 23 = .ok (.iload_n 3, 1) := by decide +kernel
theorem dX7_yearOf_24 : decode cX7_yearOf 24 = .ok (.iaload, 1) := by decide +kernel
theorem dX7_yearOf_25 : decode cX7_yearOf 25 = .ok (.imul, 1) := by decide +kernel
theorem dX7_yearOf_26 : decode cX7_yearOf 26 = .ok (.iadd, 1) := by decide +kernel
theorem dX7_yearOf_27 : decode cX7_yearOf 27 = .ok (.istore_n 2, 1) := by decide +kernel
theorem dX7_yearOf_28 : decode cX7_yearOf 28 = .ok (.iinc 3 1, 3) := by decide +kernel
theorem dX7_yearOf_31 : decode cX7_yearOf 31 = .ok (.goto (-27), 3) := by decide +kernel
theorem dX7_yearOf_34 : decode cX7_yearOf 34 = .ok (.iload_n 2, 1) := by decide +kernel
theorem dX7_yearOf_35 : decode cX7_yearOf 35 = .ok (.ireturn, 1) := by decide +kernel
theorem dX7_hoursOf_0 : decode cX7_hoursOf 0 = .ok (.iload_n 2, 1) := by decide +kernel
theorem dX7_hoursOf_1 : decode cX7_hoursOf 1 = .ok (.iconst (-1), 1) := by decide +kernel
theorem dX7_hoursOf_2 : decode cX7_hoursOf 2 = .ok (.if_icmp .ne 11, 3) := by decide +kernel
theorem dX7_hoursOf_5 : decode cX7_hoursOf 5 = .ok (.aload_n 0, 1) := by decide +kernel
theorem dX7_hoursOf_6 : decode cX7_hoursOf 6 = .ok (.iload_n 1, 1) := by decide +kernel
theorem dX7_hoursOf_7 : decode cX7_hoursOf 7 = .ok (.invokevirtual 135, 3) := by decide +kernel
theorem dX7_hoursOf_10 : decode cX7_hoursOf 10 = .ok (.goto 12, 3) := by decide +kernel
theorem dX7_hoursOf_13 : decode cX7_hoursOf 13 = .ok (.aload_n 0, 1) := by decide +kernel
theorem dX7_hoursOf_14 : decode cX7_hoursOf 14 = .ok (.iload_n 1, 1) := by decide +kernel
theorem dX7_hoursOf_15 : decode cX7_hoursOf 15 = .ok (.iload_n 2, 1) := by decide +kernel
theorem dX7_hoursOf_16 : decode cX7_hoursOf 16 = .ok (.invokevirtual 129, 3) := by decide +kernel
theorem dX7_hoursOf_19 : decode cX7_hoursOf 19 = .ok (.invokestatic 132, 3) := by decide +kernel
theorem dX7_hoursOf_22 : decode cX7_hoursOf 22 = .ok (.ireturn, 1) := by decide +kernel
theorem dX7_hours_0 : decode cX7_hours 0 = .ok (.aload_n 0, 1) := by decide +kernel
theorem dX7_hours_1 : decode cX7_hours 1 = .ok (.iload_n 1, 1) := by decide +kernel
theorem dX7_hours_2 : decode cX7_hours 2 = .ok (.invokevirtual 102, 3) := by decide +kernel
theorem dX7_hours_5 : decode cX7_hours 5 = .ok (.ifCond .eq 24, 3) := by decide +kernel
theorem dX7_hours_8 : decode cX7_hours 8 = .ok (.iload_n 2, 1) := by decide +kernel
theorem dX7_hours_9 : decode cX7_hours 9 = .ok (.iconst (-1), 1) := by decide +kernel
theorem dX7_hours_10 : decode cX7_hours 10 = .ok (.if_icmp .eq 10, 3) := by decide +kernel
theorem dX7_hours_13 : decode cX7_hours 13 = .ok (.iload_n 2, 1) := by decide +kernel
theorem dX7_hours_14 : decode cX7_hours 14 = .ok (.invokestatic 113, 3) := by decide +kernel
theorem dX7_hours_17 : decode cX7_hours 17 = .ok (.ifCond .eq 12, 3) := by decide +kernel
theorem dX7_hours_20 : decode cX7_hours 20 = .ok (.aload_n 0, 1) := by decide +kernel
theorem dX7_hours_21 : decode cX7_hours 21 = .ok (.iload_n 1, 1) := by decide +kernel
theorem dX7_hours_22 : decode cX7_hours 22 = .ok (.iload_n 2, 1) := by decide +kernel
theorem dX7_hours_23 : decode cX7_hours 23 = .ok (.invokevirtual 138, 3) := by decide +kernel
theorem dX7_hours_26 : decode cX7_hours 26 = .ok (.goto 5, 3) := by decide +kernel
theorem dX7_hours_29 : decode cX7_hours 29 = .ok (.bipush (-2), 2) := by decide +kernel
theorem dX7_hours_31 : decode cX7_hours 31 = .ok (.ireturn, 1) := by decide +kernel
theorem dX7_hasOf_0 : decode cX7_hasOf 0 = .ok (.aload_n 0, 1) := by decide +kernel
theorem dX7_hasOf_1 : decode cX7_hasOf 1 = .ok (.invokevirtual 98, 3) := by decide +kernel
theorem dX7_hasOf_4 : decode cX7_hasOf 4 = .ok (.istore_n 3, 1) := by decide +kernel
theorem dX7_hasOf_5 : decode cX7_hasOf 5 = .ok (.iconst 0, 1) := by decide +kernel
theorem dX7_hasOf_6 : decode cX7_hasOf 6 = .ok (.istore 4, 2) := by decide +kernel
theorem dX7_hasOf_8 : decode cX7_hasOf 8 = .ok (.iconst 0, 1) := by decide +kernel
theorem dX7_hasOf_9 : decode cX7_hasOf 9 = .ok (.istore 5, 2) := by decide +kernel
theorem dX7_hasOf_11 : decode cX7_hasOf 11 = .ok (.iconst 0, 1) := by decide +kernel
theorem dX7_hasOf_12 : decode cX7_hasOf 12 = .ok (.istore 6, 2) := by decide +kernel
theorem dX7_hasOf_14 : decode cX7_hasOf 14 = .ok (.iload 6, 2) := by decide +kernel
theorem dX7_hasOf_16 : decode cX7_hasOf 16 = .ok (.aload_n 0, 1) := by decide +kernel
theorem dX7_hasOf_17 : decode cX7_hasOf 17 = .ok (.getfield 85, 3) := by decide +kernel
theorem dX7_hasOf_20 : decode cX7_hasOf 20 = .ok (.if_icmp .ge 59, 3) := by decide +kernel
theorem dX7_hasOf_23 : decode cX7_hasOf 23 = .ok (.iload 4, 2) := by decide +kernel
theorem dX7_hasOf_25 : decode cX7_hasOf 25 = .ok (.aload_n 0, 1) := by decide +kernel
theorem dX7_hasOf_26 : decode cX7_hasOf 26 = .ok (.getfield 19, 3) := by decide +kernel
theorem dX7_hasOf_29 : decode cX7_hasOf 29 = .ok (.iload 6, 2) := by decide +kernel
theorem dX7_hasOf_31 : decode cX7_hasOf 31 = .ok (.iaload, 1) := by decide +kernel
theorem dX7_hasOf_32 : decode cX7_hasOf 32 = .ok (.iload_n 1, 1) := by decide +kernel
theorem dX7_hasOf_33 : decode cX7_hasOf 33 = .ok (.if_icmp .ne 10, 3) := by decide +kernel
theorem dX7_hasOf_36 : decode cX7_hasOf 36 = .ok (.iconst 1, 1) := by decide +kernel
theorem dX7_hasOf_37 : decode cX7_hasOf 37 = .ok (.iload 6, 2) := by decide +kernel
theorem dX7_hasOf_39 : decode cX7_hasOf 39 = .ok (.ishl, 1) := by decide +kernel
theorem dX7_hasOf_40 : decode cX7_hasOf 40 = .ok (.goto 4, 3) := by decide +kernel
theorem dX7_hasOf_43 : decode cX7_hasOf 43 = .ok (.iconst 0, 1) := by decide +kernel
theorem dX7_hasOf_44 : decode cX7_hasOf 44 = .ok (.ior, 1) := by decide +kernel
theorem dX7_hasOf_45 : decode cX7_hasOf 45 = .ok (.istore 4, 2) := by decide +kernel
theorem dX7_hasOf_47 : decode cX7_hasOf 47 = .ok (.iload 5, 2) := by decide +kernel
theorem dX7_hasOf_49 : decode cX7_hasOf 49 = .ok (.aload_n 0, 1) := by decide +kernel
theorem dX7_hasOf_50 : decode cX7_hasOf 50 = .ok (.getfield 19, 3) := by decide +kernel
theorem dX7_hasOf_53 : decode cX7_hasOf 53 = .ok (.iload 6, 2) := by decide +kernel
theorem dX7_hasOf_55 : decode cX7_hasOf 55 = .ok (.iaload, 1) := by decide +kernel
theorem dX7_hasOf_56 : decode cX7_hasOf 56 = .ok (.iload_n 1, 1) := by decide +kernel
theorem dX7_hasOf_57 : decode cX7_hasOf 57 = .ok (.if_icmp .ne 12, 3) := by decide +kernel
theorem dX7_hasOf_60 : decode cX7_hasOf 60 = .ok (.aload_n 0, 1) := by decide +kernel
theorem dX7_hasOf_61 : decode cX7_hasOf 61 = .ok (.iload 6, 2) := by decide +kernel
theorem dX7_hasOf_63 : decode cX7_hasOf 63 = .ok (.invokevirtual 135, 3) := by decide +kernel
theorem dX7_hasOf_66 : decode cX7_hasOf 66 = .ok (.goto 4, 3) := by decide +kernel
theorem dX7_hasOf_69 : decode cX7_hasOf 69 = .ok (.iconst 0, 1) := by decide +kernel
theorem dX7_hasOf_70 : decode cX7_hasOf 70 = .ok (.iadd, 1) := by decide +kernel
theorem dX7_hasOf_71 : decode cX7_hasOf 71 = .ok (.istore 5, 2) := by decide +kernel
theorem dX7_hasOf_73 : decode cX7_hasOf 73 = .ok (.iinc 6 1, 3) := by decide +kernel
theorem dX7_hasOf_76 : decode cX7_hasOf 76 = .ok (.goto (-62), 3) := by decide +kernel
theorem dX7_hasOf_79 : decode cX7_hasOf 79 = .ok (.iload_n 2, 1) := by decide +kernel
theorem dX7_hasOf_80 : decode cX7_hasOf 80 = .ok (.ifCond .ne 8, 3) := by decide +kernel
theorem dX7_hasOf_83 : decode cX7_hasOf 83 = .ok (.iload 4, 2) := by decide +kernel
theorem dX7_hasOf_85 : decode cX7_hasOf 85 = .ok (.goto 5, 3) := by decide +kernel
theorem dX7_hasOf_88 : decode cX7_hasOf 88 = .ok (.iload 5, 2) := by decide +kernel
theorem dX7_hasOf_90 : decode cX7_hasOf 90 = .ok (.ireturn, 1) := by decide +kernel
theorem dX7_has_0 : decode cX7_has 0 = .ok (.iload_n 1, 1) := by decide +kernel
theorem dX7_has_1 : decode cX7_has 1 = .ok (.invokestatic 113, 3) := by decide +kernel
theorem dX7_has_4 : decode cX7_has 4 = .ok (.ifCond .eq 21, 3) := by decide +kernel
theorem dX7_has_7 : decode cX7_has 7 = .ok (.iload_n 2, 1) := by decide +kernel
theorem dX7_has_8 : decode cX7_has 8 = .ok (.iconst 0, 1) := by decide +kernel
theorem dX7_has_9 : decode cX7_has 9 = .ok (.iconst 1, 1) := by decide +kernel
theorem dX7_has_10 : decode cX7_has 10 = .ok (.invokestatic 77, 3) := by decide +kernel
theorem dX7_has_13 : decode cX7_has 13 = .ok (.ifCond .eq 12, 3) := by decide +kernel
theorem dX7_has_16 : decode cX7_has 16 = .ok (.aload_n 0, 1) := by decide +kernel
theorem dX7_has_17 : decode cX7_has 17 = .ok (.iload_n 1, 1) := by decide +kernel
theorem dX7_has_18 : decode cX7_has 18 = .ok (.iload_n 2, 1) := by decide +kernel
theorem dX7_has_19 : decode cX7_has 19 = .ok (.invokevirtual 141, 3) := by decide +kernel
theorem dX7_has_22 : decode cX7_has 22 = .ok (.goto 5, 3) := by decide +kernel
theorem dX7_has_25 : decode cX7_has 25 = .ok (.bipush (-2), 2) := by decide +kernel
theorem dX7_has_27 : decode cX7_has 27 = .ok (.ireturn, 1) := by decide +kernel
theorem dX7_laysYears_0 : decode cX7_laysYears 0 = .ok (.iconst 0, 1) := by decide +kernel
theorem dX7_laysYears_1 : decode cX7_laysYears 1 = .ok (.istore_n 1, 1) := by decide +kernel
theorem dX7_laysYears_2 : decode cX7_laysYears 2 = .ok (.iload_n 1, 1) := by decide +kernel
theorem dX7_laysYears_3 : decode cX7_laysYears 3 = .ok (.aload_n 0, 1) := by decide +kernel
theorem dX7_laysYears_4 : decode cX7_laysYears 4 = .ok (.getfield 85, 3) := by decide +kernel
theorem dX7_laysYears_7 : decode cX7_laysYears 7 = .ok (.if_icmp .ge 20, 3) := by decide +kernel
theorem dX7_laysYears_10 : decode cX7_laysYears 10 = .ok (.aload_n 0, 1) := by decide +kernel
theorem dX7_laysYears_11 : decode cX7_laysYears 11 = .ok (.getfield 37, 3) := by decide +kernel
theorem dX7_laysYears_14 : decode cX7_laysYears 14 = .ok (.iload_n 1, 1) := by decide +kernel
theorem dX7_laysYears_15 : decode cX7_laysYears 15 = .ok (.aload_n 0, 1) := by decide +kernel
theorem dX7_laysYears_16 : decode cX7_laysYears 16 = .ok (.iload_n 1, 1) := by decide +kernel
theorem dX7_laysYears_17 : decode cX7_laysYears 17 = .ok (.invokevirtual 135, 3) := by decide +kernel
theorem dX7_laysYears_20 : decode cX7_laysYears 20 = .ok (.iastore, 1) := by decide +kernel
theorem dX7_laysYears_21 : decode cX7_laysYears 21 = .ok (.iinc 1 1, 3) := by decide +kernel
theorem dX7_laysYears_24 : decode cX7_laysYears 24 = .ok (.goto (-22), 3) := by decide +kernel
theorem dX7_laysYears_27 : decode cX7_laysYears 27 = .ok (.return_, 1) := by decide +kernel
theorem dX7_isNext_0 : decode cX7_isNext 0 = .ok (.iload_n 1, 1) := by decide +kernel
theorem dX7_isNext_1 : decode cX7_isNext 1 = .ok (.iload_n 2, 1) := by decide +kernel
theorem dX7_isNext_2 : decode cX7_isNext 2 = .ok (.if_icmp .ge 9, 3) := by decide +kernel
theorem dX7_isNext_5 : decode cX7_isNext 5 = .ok (.iload_n 2, 1) := by decide +kernel
theorem dX7_isNext_6 : decode cX7_isNext 6 = .ok (.iload_n 1, 1) := by decide +kernel
theorem dX7_isNext_7 : decode cX7_isNext 7 = .ok (.isub, 1) := by decide +kernel
theorem dX7_isNext_8 : decode cX7_isNext 8 = .ok (.goto 6, 3) := by decide +kernel
theorem dX7_isNext_11 : decode cX7_isNext 11 = .ok (.iload_n 1, 1) := by decide +kernel
theorem dX7_isNext_12 : decode cX7_isNext 12 = .ok (.iload_n 2, 1) := by decide +kernel
theorem dX7_isNext_13 : decode cX7_isNext 13 = .ok (.isub, 1) := by decide +kernel
theorem dX7_isNext_14 : decode cX7_isNext 14 = .ok (.istore_n 3, 1) := by decide +kernel
theorem dX7_isNext_15 : decode cX7_isNext 15 = .ok (.iload_n 3, 1) := by decide +kernel
theorem dX7_isNext_16 : decode cX7_isNext 16 = .ok (.aload_n 0, 1) := by decide +kernel
theorem dX7_isNext_17 : decode cX7_isNext 17 = .ok (.getfield 88, 3) := by decide +kernel
theorem dX7_isNext_20 : decode cX7_isNext 20 = .ok (.if_icmp .eq 23, 3) := by decide +kernel
theorem dX7_isNext_23 : decode cX7_isNext 23 = .ok (.iload_n 3, 1) := by decide +kernel
theorem dX7_isNext_24 : decode cX7_isNext 24 = .ok (.iconst 1, 1) := by decide +kernel
theorem dX7_isNext_25 : decode cX7_isNext 25 = .ok (.if_icmp .ne 22, 3) := by decide +kernel
theorem dX7_isNext_28 : decode cX7_isNext 28 = .ok (.iload_n 1, 1) := by decide +kernel
theorem dX7_isNext_29 : decode cX7_isNext 29 = .ok (.aload_n 0, 1) := by decide +kernel
theorem dX7_isNext_30 : decode cX7_isNext 30 = .ok (.getfield 88, 3) := by decide +kernel
theorem dX7_isNext_33 : decode cX7_isNext 33 = .ok (.idiv, 1) := by decide +kernel
theorem dX7_isNext_34 : decode cX7_isNext 34 = .ok (.iload_n 2, 1) := by decide +kernel
theorem dX7_isNext_35 : decode cX7_isNext 35 = .ok (.aload_n 0, 1) := by decide +kernel
theorem dX7_isNext_36 : decode cX7_isNext 36 = .ok (.getfield 88, 3) := by decide +kernel
theorem dX7_isNext_39 : decode cX7_isNext 39 = .ok (.idiv, 1) := by decide +kernel
theorem dX7_isNext_40 : decode cX7_isNext 40 = .ok (.if_icmp .ne 7, 3) := by decide +kernel
theorem dX7_isNext_43 : decode cX7_isNext 43 = .ok (.iconst 1, 1) := by decide +kernel
theorem dX7_isNext_44 : decode cX7_isNext 44 = .ok (.goto 4, 3) := by decide +kernel
theorem dX7_isNext_47 : decode cX7_isNext 47 = .ok (.iconst 0, 1) := by decide +kernel
theorem dX7_isNext_48 : decode cX7_isNext 48 = .ok (.ireturn, 1) := by decide +kernel
theorem dX7_hangs_0 : decode cX7_hangs 0 = .ok (.iload_n 1, 1) := by decide +kernel
theorem dX7_hangs_1 : decode cX7_hangs 1 = .ok (.ifCond .ne 5, 3) := by decide +kernel
theorem dX7_hangs_4 : decode cX7_hangs 4 = .ok (.iconst 0, 1) := by decide +kernel
theorem dX7_hangs_5 : decode cX7_hangs 5 = .ok (.ireturn, 1) := by decide +kernel
theorem dX7_hangs_6 : decode cX7_hangs 6 = .ok (.iload_n 1, 1) := by decide +kernel
theorem dX7_hangs_7 : decode cX7_hangs 7 = .ok (.iload_n 1, 1) := by decide +kernel
theorem dX7_hangs_8 : decode cX7_hangs 8 = .ok (.ineg, 1) := by decide +kernel
theorem dX7_hangs_9 : decode cX7_hangs 9 = .ok (.iand, 1) := by decide +kernel
theorem dX7_hangs_10 : decode cX7_hangs 10 = .ok (.istore_n 2, 1) := by decide +kernel
theorem dX7_hangs_11 : decode cX7_hangs 11 = .ok (.iconst 0, 1) := by decide +kernel
theorem dX7_hangs_12 : decode cX7_hangs 12 = .ok (.istore_n 3, 1) := by decide +kernel
theorem dX7_hangs_13 : decode cX7_hangs 13 = .ok (.iload_n 3, 1) := by decide +kernel
theorem dX7_hangs_14 : decode cX7_hangs 14 = .ok (.bipush 12, 2) := by decide +kernel
theorem dX7_hangs_16 : decode cX7_hangs 16 = .ok (.if_icmp .ge 85, 3) := by decide +kernel
theorem dX7_hangs_19 : decode cX7_hangs 19 = .ok (.iconst 0, 1) := by decide +kernel
theorem dX7_hangs_20 : decode cX7_hangs 20 = .ok (.istore 4, 2) := by decide +kernel
theorem dX7_hangs_22 : decode cX7_hangs 22 = .ok (.iload 4, 2) := by decide +kernel
theorem dX7_hangs_24 : decode cX7_hangs 24 = .ok (.aload_n 0, 1) := by decide +kernel
theorem dX7_hangs_25 : decode cX7_hangs 25 = .ok (.getfield 85, 3) := by decide +kernel
theorem dX7_hangs_28 : decode cX7_hangs 28 = .ok (.if_icmp .ge 67, 3) := by decide +kernel
theorem dX7_hangs_31 : decode cX7_hangs 31 = .ok (.iconst 0, 1) := by decide +kernel
theorem dX7_hangs_32 : decode cX7_hangs 32 = .ok (.istore 5, 2) := by decide +kernel
theorem dX7_hangs_34 : decode cX7_hangs 34 = .ok (.iload 5, 2) := by decide +kernel
theorem dX7_hangs_36 : decode cX7_hangs 36 = .ok (.aload_n 0, 1) := by decide +kernel
theorem dX7_hangs_37 : decode cX7_hangs 37 = .ok (.getfield 85, 3) := by decide +kernel
theorem dX7_hangs_40 : decode cX7_hangs 40 = .ok (.if_icmp .ge 49, 3) := by decide +kernel
theorem dX7_hangs_43 : decode cX7_hangs 43 = .ok (.iload_n 2, 1) := by decide +kernel
theorem dX7_hangs_44 : decode cX7_hangs 44 = .ok (.iload_n 2, 1) := by decide +kernel
theorem dX7_hangs_45 : decode cX7_hangs 45 = .ok (.iload 4, 2) := by decide +kernel
theorem dX7_hangs_47 : decode cX7_hangs 47 = .ok (.invokestatic 144, 3) := by decide +kernel
theorem dX7_hangs_50 : decode cX7_hangs 50 = .ok (.ifCond .eq 30, 3) := by decide +kernel
theorem dX7_hangs_53 : decode cX7_hangs 53 = .ok (.iload_n 1, 1) := by decide +kernel
theorem dX7_hangs_54 : decode cX7_hangs 54 = .ok (.iload 5, 2) := by decide +kernel
theorem dX7_hangs_56 : decode cX7_hangs 56 = .ok (.invokestatic 144, 3) := by decide +kernel
theorem dX7_hangs_59 : decode cX7_hangs 59 = .ok (.ifCond .eq 21, 3) := by decide +kernel
theorem dX7_hangs_62 : decode cX7_hangs 62 = .ok (.aload_n 0, 1) := by decide +kernel
theorem dX7_hangs_63 : decode cX7_hangs 63 = .ok (.iload 4, 2) := by decide +kernel
theorem dX7_hangs_65 : decode cX7_hangs 65 = .ok (.iload 5, 2) := by decide +kernel
theorem dX7_hangs_67 : decode cX7_hangs 67 = .ok (.invokevirtual 148, 3) := by decide +kernel
theorem dX7_hangs_70 : decode cX7_hangs 70 = .ok (.ifCond .eq 10, 3) := by decide +kernel
theorem dX7_hangs_73 : decode cX7_hangs 73 = .ok (.iconst 1, 1) := by decide +kernel
theorem dX7_hangs_74 : decode cX7_hangs 74 = .ok (.iload 5, 2) := by decide +kernel
theorem dX7_hangs_76 : decode cX7_hangs 76 = .ok (.ishl, 1) := by decide +kernel
theorem dX7_hangs_77 : decode cX7_hangs 77 = .ok (.goto 4, 3) := by decide +kernel
theorem dX7_hangs_80 : decode cX7_hangs 80 = .ok (.iconst 0, 1) := by decide +kernel
theorem dX7_hangs_81 : decode cX7_hangs 81 = .ok (.ior, 1) := by decide +kernel
theorem dX7_hangs_82 : decode cX7_hangs 82 = .ok (.istore_n 2, 1) := by decide +kernel
theorem dX7_hangs_83 : decode cX7_hangs 83 = .ok (.iinc 5 1, 3) := by decide +kernel
theorem dX7_hangs_86 : decode cX7_hangs 86 = .ok (.goto (-52), 3) := by decide +kernel
theorem dX7_hangs_89 : decode cX7_hangs 89 = .ok (.iinc 4 1, 3) := by decide +kernel
theorem dX7_hangs_92 : decode cX7_hangs 92 = .ok (.goto (-70), 3) := by decide +kernel
theorem dX7_hangs_95 : decode cX7_hangs 95 = .ok (.iinc 3 1, 3) := by decide +kernel
theorem dX7_hangs_98 : decode cX7_hangs 98 = .ok (.goto (-85), 3) := by decide +kernel
theorem dX7_hangs_101 : decode cX7_hangs 101 = .ok (.iload_n 2, 1) := by decide +kernel
theorem dX7_hangs_102 : decode cX7_hangs 102 = .ok (.iload_n 1, 1) := by decide +kernel
theorem dX7_hangs_103 : decode cX7_hangs 103 = .ok (.if_icmp .ne 7, 3) := by decide +kernel
theorem dX7_hangs_106 : decode cX7_hangs 106 = .ok (.iconst 1, 1) := by decide +kernel
theorem dX7_hangs_107 : decode cX7_hangs 107 = .ok (.goto 4, 3) := by decide +kernel
theorem dX7_hangs_110 : decode cX7_hangs 110 = .ok (.iconst 0, 1) := by decide +kernel
theorem dX7_hangs_111 : decode cX7_hangs 111 = .ok (.ireturn, 1) := by decide +kernel
theorem dX7_all_0 : decode cX7_all 0 = .ok (.iconst 1, 1) := by decide +kernel
theorem dX7_all_1 : decode cX7_all 1 = .ok (.aload_n 0, 1) := by decide +kernel
theorem dX7_all_2 : decode cX7_all 2 = .ok (.getfield 85, 3) := by decide +kernel
theorem dX7_all_5 : decode cX7_all 5 = .ok (.ishl, 1) := by decide +kernel
theorem dX7_all_6 : decode cX7_all 6 = .ok (.iconst 1, 1) := by decide +kernel
theorem dX7_all_7 : decode cX7_all 7 = .ok (.isub, 1) := by decide +kernel
theorem dX7_all_8 : decode cX7_all 8 = .ok (.ireturn, 1) := by decide +kernel
theorem dX7_isParting_0 : decode cX7_isParting 0 = .ok (.iload_n 1, 1) := by decide +kernel
theorem dX7_isParting_1 : decode cX7_isParting 1 = .ok (.iconst 0, 1) := by decide +kernel
theorem dX7_isParting_2 : decode cX7_isParting 2 = .ok (.invokestatic 144, 3) := by decide +kernel
theorem dX7_isParting_5 : decode cX7_isParting 5 = .ok (.ifCond .eq 30, 3) := by decide +kernel
theorem dX7_isParting_8 : decode cX7_isParting 8 = .ok (.aload_n 0, 1) := by decide +kernel
theorem dX7_isParting_9 : decode cX7_isParting 9 = .ok (.iload_n 1, 1) := by decide +kernel
theorem dX7_isParting_10 : decode cX7_isParting 10 = .ok (.invokevirtual 151, 3) := by decide +kernel
theorem dX7_isParting_13 : decode cX7_isParting 13 = .ok (.ifCond .eq 22, 3) := by decide +kernel
theorem dX7_isParting_16 : decode cX7_isParting 16 = .ok (.aload_n 0, 1) := by decide +kernel
theorem dX7_isParting_17 : decode cX7_isParting 17 = .ok (.aload_n 0, 1) := by decide +kernel
theorem dX7_isParting_18 : decode cX7_isParting 18 = .ok (.invokevirtual 154, 3) := by decide +kernel
theorem dX7_isParting_21 : decode cX7_isParting 21 = .ok (.iload_n 1, 1) := by decide +kernel
theorem dX7_isParting_22 : decode cX7_isParting 22 = .ok (.iconst (-1), 1) := by decide +kernel
theorem dX7_isParting_23 : decode cX7_isParting 23 = .ok (.ixor, 1) := by decide +kernel
theorem dX7_isParting_24 : decode cX7_isParting 24 = .ok (.iand, 1) := by decide +kernel
theorem dX7_isParting_25 : decode cX7_isParting 25 = .ok (.invokevirtual 151, 3) := by decide +kernel
theorem dX7_isParting_28 : decode cX7_isParting 28 = .ok (.ifCond .eq 7, 3) := by decide +kernel
theorem dX7_isParting_31 : decode cX7_isParting 31 = .ok (.iconst 1, 1) := by decide +kernel
theorem dX7_isParting_32 : decode cX7_isParting 32 = .ok (.goto 4, 3) := by decide +kernel
theorem dX7_isParting_35 : decode cX7_isParting 35 = .ok (.iconst 0, 1) := by decide +kernel
theorem dX7_isParting_36 : decode cX7_isParting 36 = .ok (.ireturn, 1) := by decide +kernel
theorem dX7_differs_0 : decode cX7_differs 0 = .ok (.iconst 0, 1) := by decide +kernel
theorem dX7_differs_1 : decode cX7_differs 1 = .ok (.istore_n 2, 1) := by decide +kernel
theorem dX7_differs_2 : decode cX7_differs 2 = .ok (.iconst 0, 1) := by decide +kernel
theorem dX7_differs_3 : decode cX7_differs 3 = .ok (.istore_n 3, 1) := by decide +kernel
theorem dX7_differs_4 : decode cX7_differs 4 = .ok (.iload_n 3, 1) := by decide +kernel
theorem dX7_differs_5 : decode cX7_differs 5 = .ok (.aload_n 0, 1) := by decide +kernel
theorem dX7_differs_6 : decode cX7_differs 6 = .ok (.getfield 85, 3) := by decide +kernel
theorem dX7_differs_9 : decode cX7_differs 9 = .ok (.if_icmp .ge 36, 3) := by decide +kernel
theorem dX7_differs_12 : decode cX7_differs 12 = .ok (.iload_n 2, 1) := by decide +kernel
theorem dX7_differs_13 : decode cX7_differs 13 = .ok (.iload_n 1, 1) := by decide +kernel
theorem dX7_differs_14 : decode cX7_differs 14 = .ok (.iload_n 3, 1) := by decide +kernel
theorem dX7_differs_15 : decode cX7_differs 15 = .ok (.invokestatic 144, 3) := by decide +kernel
theorem dX7_differs_18 : decode cX7_differs 18 = .ok (.ifCond .eq 12, 3) := by decide +kernel
theorem dX7_differs_21 : decode cX7_differs 21 = .ok (.aload_n 0, 1) := by decide +kernel
theorem dX7_differs_22 : decode cX7_differs 22 = .ok (.getfield 37, 3) := by decide +kernel
theorem dX7_differs_25 : decode cX7_differs 25 = .ok (.iload_n 3, 1) := by decide +kernel
theorem dX7_differs_26 : decode cX7_differs 26 = .ok (.iaload, 1) := by decide +kernel
theorem dX7_differs_27 : decode cX7_differs 27 = .ok (.goto 10, 3) := by decide +kernel
theorem dX7_differs_30 : decode cX7_differs 30 = .ok (.aload_n 0, 1) := by decide +kernel
theorem dX7_differs_31 : decode cX7_differs 31 = .ok (.getfield 37, 3) := by decide +kernel
theorem dX7_differs_34 : decode cX7_differs 34 = .ok (.iload_n 3, 1) := by decide +kernel
theorem dX7_differs_35 : decode cX7_differs 35 = .ok (.iaload, 1) := by decide +kernel
theorem dX7_differs_36 : decode cX7_differs 36 = .ok (.ineg, 1) := by decide +kernel
theorem dX7_differs_37 : decode cX7_differs 37 = .ok (.iadd, 1) := by decide +kernel
theorem dX7_differs_38 : decode cX7_differs 38 = .ok (.istore_n 2, 1) := by decide +kernel
theorem dX7_differs_39 : decode cX7_differs 39 = .ok (.iinc 3 1, 3) := by decide +kernel
theorem dX7_differs_42 : decode cX7_differs 42 = .ok (.goto (-38), 3) := by decide +kernel
theorem dX7_differs_45 : decode cX7_differs 45 = .ok (.iload_n 2, 1) := by decide +kernel
theorem dX7_differs_46 : decode cX7_differs 46 = .ok (.ifCond .ge 8, 3) := by decide +kernel
theorem dX7_differs_49 : decode cX7_differs 49 = .ok (.iload_n 2, 1) := by decide +kernel
theorem dX7_differs_50 : decode cX7_differs 50 = .ok (.ineg, 1) := by decide +kernel
theorem dX7_differs_51 : decode cX7_differs 51 = .ok (.goto 4, 3) := by decide +kernel
theorem dX7_differs_54 : decode cX7_differs 54 = .ok (.iload_n 2, 1) := by decide +kernel
theorem dX7_differs_55 : decode cX7_differs 55 = .ok (.ireturn, 1) := by decide +kernel
theorem dX7_partsNow_0 : decode cX7_partsNow 0 = .ok (.aload_n 0, 1) := by decide +kernel
theorem dX7_partsNow_1 : decode cX7_partsNow 1 = .ok (.invokevirtual 98, 3) := by decide +kernel
theorem dX7_partsNow_4 : decode cX7_partsNow 4 = .ok (.istore_n 1, 1) := by decide +kernel
theorem dX7_partsNow_5 : decode cX7_partsNow 5 = .ok (.aload_n 0, 1) := by decide +kernel
theorem dX7_partsNow_6 : decode cX7_partsNow 6 = .ok (.invokevirtual 157, 3) := by decide +kernel
theorem dX7_partsNow_9 : decode cX7_partsNow 9 = .ok (.iconst (-1), 1) := by decide +kernel
theorem dX7_partsNow_10 : decode cX7_partsNow 10 = .ok (.istore_n 2, 1) := by decide +kernel
theorem dX7_partsNow_11 : decode cX7_partsNow 11 = .ok (.iconst 1, 1) := by decide +kernel
theorem dX7_partsNow_12 : decode cX7_partsNow 12 = .ok (.istore_n 3, 1) := by decide +kernel
theorem dX7_partsNow_13 : decode cX7_partsNow 13 = .ok (.iload_n 3, 1) := by decide +kernel
theorem dX7_partsNow_14 : decode cX7_partsNow 14 = .ok (.aload_n 0, 1) := by decide +kernel
theorem dX7_partsNow_15 : decode cX7_partsNow 15 = .ok (.invokevirtual 154, 3) := by decide +kernel
theorem dX7_partsNow_18 : decode cX7_partsNow 18 = .ok (.if_icmp .ge 53, 3) := by decide +kernel
theorem dX7_partsNow_21 : decode cX7_partsNow 21 = .ok (.iload_n 2, 1) := by decide +kernel
theorem dX7_partsNow_22 : decode cX7_partsNow 22 = .ok (.iconst (-1), 1) := by decide +kernel
theorem dX7_partsNow_23 : decode cX7_partsNow 23 = .ok (.if_icmp .eq 16, 3) := by decide +kernel
theorem dX7_partsNow_26 : decode cX7_partsNow 26 = .ok (.aload_n 0, 1) := by decide +kernel
theorem dX7_partsNow_27 : decode cX7_partsNow 27 = .ok (.iload_n 3, 1) := by decide +kernel
theorem dX7_partsNow_28 : decode cX7_partsNow 28 = .ok (.invokevirtual 160, 3) := by decide +kernel
theorem dX7_partsNow_31 : decode cX7_partsNow 31 = .ok (.aload_n 0, 1) := by decide +kernel
theorem dX7_partsNow_32 : decode cX7_partsNow 32 = .ok (.iload_n 2, 1) := by decide +kernel
theorem dX7_partsNow_33 : decode cX7_partsNow 33 = .ok (.invokevirtual 160, 3) := by decide +kernel
theorem dX7_partsNow_36 : decode cX7_partsNow 36 = .ok (.if_icmp .ge 7, 3) := by decide +kernel
theorem dX7_partsNow_39 : decode cX7_partsNow 39 = .ok (.iconst 1, 1) := by decide +kernel
theorem dX7_partsNow_40 : decode cX7_partsNow 40 = .ok (.goto 4, 3) := by decide +kernel
theorem dX7_partsNow_43 : decode cX7_partsNow 43 = .ok (.iconst 0, 1) := by decide +kernel
theorem dX7_partsNow_44 : decode cX7_partsNow 44 = .ok (.istore 4, 2) := by decide +kernel
theorem dX7_partsNow_46 : decode cX7_partsNow 46 = .ok (.iload 4, 2) := by decide +kernel
theorem dX7_partsNow_48 : decode cX7_partsNow 48 = .ok (.ifCond .eq 15, 3) := by decide +kernel
theorem dX7_partsNow_51 : decode cX7_partsNow 51 = .ok (.aload_n 0, 1) := by decide +kernel
theorem dX7_partsNow_52 : decode cX7_partsNow 52 = .ok (.iload_n 3, 1) := by decide +kernel
theorem dX7_partsNow_53 : decode cX7_partsNow 53 = .ok (.invokevirtual 163, 3) := by decide +kernel
theorem dX7_partsNow_56 : decode cX7_partsNow 56 = .ok (.ifCond .eq 7, 3) := by decide +kernel
theorem dX7_partsNow_59 : decode cX7_partsNow 59 = .ok (.iload_n 3, 1) := by decide +kernel
theorem dX7_partsNow_60 : decode cX7_partsNow 60 = .ok (.goto 4, 3) := by decide +kernel
theorem dX7_partsNow_63 : decode cX7_partsNow 63 = .ok (.iload_n 2, 1) := by decide +kernel
theorem dX7_partsNow_64 : decode cX7_partsNow 64 = .ok (.istore_n 2, 1) := by decide +kernel
theorem dX7_partsNow_65 : decode cX7_partsNow 65 = .ok (.iinc 3 2, 3) := by decide +kernel
theorem dX7_partsNow_68 : decode cX7_partsNow 68 = .ok (.goto (-55), 3) := by decide +kernel
theorem dX7_partsNow_71 : decode cX7_partsNow 71 = .ok (.iload_n 2, 1) := by decide +kernel
theorem dX7_partsNow_72 : decode cX7_partsNow 72 = .ok (.ireturn, 1) := by decide +kernel
theorem dX7_partsOf_0 : decode cX7_partsOf 0 = .ok (.aload_n 0, 1) := by decide +kernel
theorem dX7_partsOf_1 : decode cX7_partsOf 1 = .ok (.invokevirtual 166, 3) := by decide +kernel
theorem dX7_partsOf_4 : decode cX7_partsOf 4 = .ok (.istore_n 2, 1) := by decide +kernel
theorem dX7_partsOf_5 : decode cX7_partsOf 5 = .ok (.iload_n 2, 1) := by decide +kernel
theorem dX7_partsOf_6 : decode cX7_partsOf 6 = .ok (.iconst (-1), 1) := by decide +kernel
theorem dX7_partsOf_7 : decode cX7_partsOf 7 = .ok (.if_icmp .eq 8, 3) := by decide +kernel
theorem dX7_partsOf_10 : decode cX7_partsOf 10 = .ok (.iload_n 1, 1) := by decide +kernel
theorem dX7_partsOf_11 : decode cX7_partsOf 11 = .ok (.iconst 1, 1) := by decide +kernel
theorem dX7_partsOf_12 : decode cX7_partsOf 12 = .ok (.if_icmp .ne 7, 3) := by decide +kernel
theorem dX7_partsOf_15 : decode cX7_partsOf 15 = .ok (.iload_n 2, 1) := by decide +kernel
theorem dX7_partsOf_16 : decode cX7_partsOf 16 = .ok (.goto 8, 3) := by decide +kernel

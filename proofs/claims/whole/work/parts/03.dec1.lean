theorem dX0_init_0 : decode cX0_init 0 = .ok (.aload_n 0, 1) := by decide +kernel
theorem dX0_init_1 : decode cX0_init 1 = .ok (.invokespecial 3, 3) := by decide +kernel
theorem dX0_init_4 : decode cX0_init 4 = .ok (.aload_n 0, 1) := by decide +kernel
theorem dX0_init_5 : decode cX0_init 5 = .ok (.bipush 13, 2) := by decide +kernel
theorem dX0_init_7 : decode cX0_init 7 = .ok (.newarray .long, 2) := by decide +kernel
theorem dX0_init_9 : decode cX0_init 9 = .ok (.putfield 9, 3) := by decide +kernel
theorem dX0_init_12 : decode cX0_init 12 = .ok (.aload_n 0, 1) := by decide +kernel
theorem dX0_init_13 : decode cX0_init 13 = .ok (.lconst 1, 1) := by decide +kernel
theorem dX0_init_14 : decode cX0_init 14 = .ok (.putfield 15, 3) := by decide +kernel
theorem dX0_init_17 : decode cX0_init 17 = .ok (.return_, 1) := by decide +kernel
theorem dX0_above_0 : decode cX0_above 0 = .ok (.aload_n 0, 1) := by decide +kernel
theorem dX0_above_1 : decode cX0_above 1 = .ok (.getfield 19, 3) := by decide +kernel
theorem dX0_above_4 : decode cX0_above 4 = .ok (.lreturn, 1) := by decide +kernel
theorem dX0_below_0 : decode cX0_below 0 = .ok (.aload_n 0, 1) := by decide +kernel
theorem dX0_below_1 : decode cX0_below 1 = .ok (.getfield 15, 3) := by decide +kernel
theorem dX0_below_4 : decode cX0_below 4 = .ok (.lreturn, 1) := by decide +kernel
theorem dX0_takeMean_0 : decode cX0_takeMean 0 = .ok (.aload_n 0, 1) := by decide +kernel
theorem dX0_takeMean_1 : decode cX0_takeMean 1 = .ok (.iload_n 1, 1) := by decide +kernel
theorem dX0_takeMean_2 : decode cX0_takeMean 2 = .ok (.bipush 16, 2) := by decide +kernel
theorem dX0_takeMean_4 : decode cX0_takeMean 4 = .ok (.iload_n 2, 1) := by decide +kernel
theorem dX0_takeMean_5 : decode cX0_takeMean 5 = .ok (.isub, 1) := by decide +kernel
theorem dX0_takeMean_6 : decode cX0_takeMean 6 = .ok (.imul, 1) := by decide +kernel
theorem dX0_takeMean_7 : decode cX0_takeMean 7 = .ok (.i2l, 1) := by decide +kernel
theorem dX0_takeMean_8 : decode cX0_takeMean 8 = .ok (.putfield 19, 3) := by decide +kernel
theorem dX0_takeMean_11 : decode cX0_takeMean 11 = .ok (.aload_n 0, 1) := by decide +kernel
theorem dX0_takeMean_12 : decode cX0_takeMean 12 = .ok (.ldc2_w 22, 3) := by decide +kernel
theorem dX0_takeMean_15 : decode cX0_takeMean 15 = .ok (.putfield 15, 3) := by decide +kernel
theorem dX0_takeMean_18 : decode cX0_takeMean 18 = .ok (.aload_n 0, 1) := by decide +kernel
theorem dX0_takeMean_19 : decode cX0_takeMean 19 = .ok (.invokevirtual 24, 3) := by decide +kernel
theorem dX0_takeMean_22 : decode cX0_takeMean 22 = .ok (.return_, 1) := by decide +kernel
theorem dX0_takeAtLeast_0 : decode cX0_takeAtLeast 0 = .ok (.aload_n 0, 1) := by decide +kernel
theorem dX0_takeAtLeast_1 : decode cX0_takeAtLeast 1 = .ok (.iload_n 1, 1) := by decide +kernel
theorem dX0_takeAtLeast_2 : decode cX0_takeAtLeast 2 = .ok (.iload_n 2, 1) := by decide +kernel
theorem dX0_takeAtLeast_3 : decode cX0_takeAtLeast 3 = .ok (.invokevirtual 27, 3) := by decide +kernel
theorem dX0_takeAtLeast_6 : decode cX0_takeAtLeast 6 = .ok (.aload_n 0, 1) := by decide +kernel
theorem dX0_takeAtLeast_7 : decode cX0_takeAtLeast 7 = .ok (.lconst 0, 1) := by decide +kernel
theorem dX0_takeAtLeast_8 : decode cX0_takeAtLeast 8 = .ok (.putfield 19, 3) := by decide +kernel
theorem dX0_takeAtLeast_11 : decode cX0_takeAtLeast 11 = .ok (.iload_n 3, 1) := by decide +kernel
theorem dX0_takeAtLeast_12 : decode cX0_takeAtLeast 12 = .ok (.istore 4, 2) := by decide +kernel
theorem dX0_takeAtLeast_14 : decode cX0_takeAtLeast 14 = .ok (.iload 4, 2) := by decide +kernel
theorem dX0_takeAtLeast_16 : decode cX0_takeAtLeast 16 = .ok (.bipush 12, 2) := by decide +kernel
theorem dX0_takeAtLeast_18 : decode cX0_takeAtLeast 18 = .ok (.if_icmp .gt 25, 3) := by decide +kernel
theorem dX0_takeAtLeast_21 : decode cX0_takeAtLeast 21 = .ok (.aload_n 0, 1) := by decide +kernel
theorem dX0_takeAtLeast_22 : decode cX0_takeAtLeast 22 = .ok (.dup, 1) := by decide +kernel
theorem dX0_takeAtLeast_23 : decode cX0_takeAtLeast 23 = .ok (.getfield 19, 3) := by decide +kernel
theorem dX0_takeAtLeast_26 : decode cX0_takeAtLeast 26 = .ok (.aload_n 0, 1) := by decide +kernel
theorem dX0_takeAtLeast_27 : decode cX0_takeAtLeast 27 = .ok (.getfield 9, 3) := by decide +kernel
theorem dX0_takeAtLeast_30 : decode cX0_takeAtLeast 30 = .ok (.iload 4, 2) := by decide +kernel
theorem dX0_takeAtLeast_32 : decode cX0_takeAtLeast 32 = .ok (.laload, 1) := by decide +kernel
theorem dX0_takeAtLeast_33 : decode cX0_takeAtLeast 33 = .ok (.ladd, 1) := by decide +kernel
theorem dX0_takeAtLeast_34 : decode cX0_takeAtLeast 34 = .ok (.putfield 19, 3) := by decide +kernel
theorem dX0_takeAtLeast_37 : decode cX0_takeAtLeast 37 = .ok (.iinc 4 1, 3) := by decide +kernel
theorem dX0_takeAtLeast_40 : decode cX0_takeAtLeast 40 = .ok (.goto (-26), 3) := by decide +kernel
theorem dX0_takeAtLeast_43 : decode cX0_takeAtLeast 43 = .ok (.aload_n 0, 1) := by decide +kernel
theorem dX0_takeAtLeast_44 : decode cX0_takeAtLeast 44 = .ok (.invokevirtual 24, 3) := by decide +kernel
theorem dX0_takeAtLeast_47 : decode cX0_takeAtLeast 47 = .ok (.return_, 1) := by decide +kernel
theorem dX0_countWays_0 : decode cX0_countWays 0 = .ok (.aload_n 0, 1) := by decide +kernel
theorem dX0_countWays_1 : decode cX0_countWays 1 = .ok (.getfield 9, 3) := by decide +kernel
theorem dX0_countWays_4 : decode cX0_countWays 4 = .ok (.lconst 0, 1) := by decide +kernel
theorem dX0_countWays_5 : decode cX0_countWays 5 = .ok (.invokestatic 31, 3) := by decide +kernel
theorem dX0_countWays_8 : decode cX0_countWays 8 = .ok (.aload_n 0, 1) := by decide +kernel
theorem dX0_countWays_9 : decode cX0_countWays 9 = .ok (.getfield 9, 3) := by decide +kernel
theorem dX0_countWays_12 : decode cX0_countWays 12 = .ok (.iconst 0, 1) := by decide +kernel
theorem dX0_countWays_13 : decode cX0_countWays 13 = .ok (.lconst 1, 1) := by decide +kernel
theorem dX0_countWays_14 : decode cX0_countWays 14 = .ok (.lastore, 1) := by decide +kernel
theorem dX0_countWays_15 : decode cX0_countWays 15 = .ok (.aload_n 0, 1) := by decide +kernel
theorem dX0_countWays_16 : decode cX0_countWays 16 = .ok (.lconst 1, 1) := by decide +kernel
theorem dX0_countWays_17 : decode cX0_countWays 17 = .ok (.putfield 15, 3) := by decide +kernel
theorem dX0_countWays_20 : decode cX0_countWays 20 = .ok (.iconst 0, 1) := by decide +kernel
theorem dX0_countWays_21 : decode cX0_countWays 21 = .ok (.istore_n 3, 1) := by decide +kernel
theorem dX0_countWays_22 : decode cX0_countWays 22 = .ok (.iload_n 3, 1) := by decide +kernel
theorem dX0_countWays_23 : decode cX0_countWays 23 = .ok (.iload_n 1, 1) := by decide +kernel
theorem dX0_countWays_24 : decode cX0_countWays 24 = .ok (.if_icmp .ge 80, 3) := by decide +kernel
theorem dX0_countWays_27 : decode cX0_countWays 27 = .ok (.bipush 12, 2) := by decide +kernel
theorem dX0_countWays_29 : decode cX0_countWays 29 = .ok (.istore 4, 2) := by decide +kernel
theorem dX0_countWays_31 : decode cX0_countWays 31 = .ok (.iload 4, 2) := by decide +kernel
theorem dX0_countWays_33 : decode cX0_countWays 33 = .ok (.ifCond .le 42, 3) := by decide +kernel
theorem dX0_countWays_36 : decode cX0_countWays 36 = .ok (.aload_n 0, 1) := by decide +kernel
theorem dX0_countWays_37 : decode cX0_countWays 37 = .ok (.getfield 9, 3) := by decide +kernel
theorem dX0_countWays_40 : decode cX0_countWays 40 = .ok (.iload 4, 2) := by decide +kernel
theorem dX0_countWays_42 : decode cX0_countWays 42 = .ok (.aload_n 0, 1) := by decide +kernel
theorem dX0_countWays_43 : decode cX0_countWays 43 = .ok (.getfield 9, 3) := by decide +kernel
theorem dX0_countWays_46 : decode cX0_countWays 46 = .ok (.iload 4, 2) := by decide +kernel
theorem dX0_countWays_48 : decode cX0_countWays 48 = .ok (.laload, 1) := by decide +kernel
theorem dX0_countWays_49 : decode cX0_countWays 49 = .ok (.iload_n 2, 1) := by decide +kernel
theorem dX0_countWays_50 : decode cX0_countWays 50 = .ok (.i2l, 1) := by decide +kernel
theorem dX0_countWays_51 : decode cX0_countWays 51 = .ok (.lmul, 1) := by decide +kernel
theorem dX0_countWays_52 : decode cX0_countWays 52 = .ok (.aload_n 0, 1) := by decide +kernel
theorem dX0_countWays_53 : decode cX0_countWays 53 = .ok (.getfield 9, 3) := by decide +kernel
theorem dX0_countWays_56 : decode cX0_countWays 56 = .ok (.iload 4, 2) := by decide +kernel
theorem dX0_countWays_58 : decode cX0_countWays 58 = .ok (.iconst 1, 1) := by decide +kernel
theorem dX0_countWays_59 : decode cX0_countWays 59 = .ok (.isub, 1) := by decide +kernel
theorem dX0_countWays_60 : decode cX0_countWays 60 = .ok (.laload, 1) := by decide +kernel
theorem dX0_countWays_61 : decode cX0_countWays 61 = .ok (.bipush 16, 2) := by decide +kernel
theorem dX0_countWays_63 : decode cX0_countWays 63 = .ok (.iload_n 2, 1) := by decide +kernel
theorem dX0_countWays_64 : decode cX0_countWays 64 = .ok (.isub, 1) := by decide +kernel
theorem dX0_countWays_65 : decode cX0_countWays 65 = .ok (.i2l, 1) := by decide +kernel
theorem dX0_countWays_66 : decode cX0_countWays 66 = .ok (.lmul, 1) := by decide +kernel
theorem dX0_countWays_67 : decode cX0_countWays 67 = .ok (.ladd, 1) := by decide +kernel
theorem dX0_countWays_68 : decode cX0_countWays 68 = .ok (.lastore, 1) := by decide +kernel
theorem dX0_countWays_69 : decode cX0_countWays 69 = .ok (.iinc 4 (-1), 3) := by decide +kernel
theorem dX0_countWays_72 : decode cX0_countWays 72 = .ok (.goto (-41), 3) := by decide +kernel
theorem dX0_countWays_75 : decode cX0_countWays 75 = .ok (.aload_n 0, 1) := by decide +kernel
theorem dX0_countWays_76 : decode cX0_countWays 76 = .ok (.getfield 9, 3) := by decide +kernel
theorem dX0_countWays_79 : decode cX0_countWays 79 = .ok (.iconst 0, 1) := by decide +kernel
theorem dX0_countWays_80 : decode cX0_countWays 80 = .ok (.dup2, 1) := by decide +kernel
theorem dX0_countWays_81 : decode cX0_countWays 81 = .ok (.laload, 1) := by decide +kernel
theorem dX0_countWays_82 : decode cX0_countWays 82 = .ok (.iload_n 2, 1) := by decide +kernel
theorem dX0_countWays_83 : decode cX0_countWays 83 = .ok (.i2l, 1) := by decide +kernel
theorem dX0_countWays_84 : decode cX0_countWays 84 = .ok (.lmul, 1) := by decide +kernel
theorem dX0_countWays_85 : decode cX0_countWays 85 = .ok (.lastore, 1) := by decide +kernel
theorem dX0_countWays_86 : decode cX0_countWays 86 = .ok (.aload_n 0, 1) := by decide +kernel
theorem dX0_countWays_87 : decode cX0_countWays 87 = .ok (.dup, 1) := by decide +kernel
theorem dX0_countWays_88 : decode cX0_countWays 88 = .ok (.getfield 15, 3) := by decide +kernel
theorem dX0_countWays_91 : decode cX0_countWays 91 = .ok (.ldc2_w 22, 3) := by decide +kernel
theorem dX0_countWays_94 : decode cX0_countWays 94 = .ok (.lmul, 1) := by decide +kernel
theorem dX0_countWays_95 : decode cX0_countWays 95 = .ok (.putfield 15, 3) := by decide +kernel
theorem dX0_countWays_98 : decode cX0_countWays 98 = .ok (.iinc 3 1, 3) := by decide +kernel
theorem dX0_countWays_101 : decode cX0_countWays 101 = .ok (.goto (-79), 3) := by decide +kernel
theorem dX0_countWays_104 : decode cX0_countWays 104 = .ok (.return_, 1) := by decide +kernel
theorem dX0_reduce_0 : decode cX0_reduce 0 = .ok (.iconst 0, 1) := by decide +kernel
theorem dX0_reduce_1 : decode cX0_reduce 1 = .ok (.istore_n 1, 1) := by decide +kernel
theorem dX0_reduce_2 : decode cX0_reduce 2 = .ok (.iload_n 1, 1) := by decide +kernel
theorem dX0_reduce_3 : decode cX0_reduce 3 = .ok (.bipush 48, 2) := by decide +kernel
theorem dX0_reduce_5 : decode cX0_reduce 5 = .ok (.if_icmp .ge 49, 3) := by decide +kernel
theorem dX0_reduce_8 : decode cX0_reduce 8 = .ok (.aload_n 0, 1) := by decide +kernel
theorem dX0_reduce_9 : decode cX0_reduce 9 = .ok (.getfield 15, 3) := by decide +kernel
theorem dX0_reduce_12 : decode cX0_reduce 12 = .ok (.lconst 1, 1) := by decide +kernel
theorem dX0_reduce_13 : decode cX0_reduce 13 = .ok (.lcmp, 1) := by decide +kernel
theorem dX0_reduce_14 : decode cX0_reduce 14 = .ok (.ifCond .le 40, 3) := by decide +kernel
theorem dX0_reduce_17 : decode cX0_reduce 17 = .ok (.aload_n 0, 1) := by decide +kernel
theorem dX0_reduce_18 : decode cX0_reduce 18 = .ok (.getfield 19, 3) := by decide +kernel
theorem dX0_reduce_21 : decode cX0_reduce 21 = .ok (.lconst 1, 1) := by decide +kernel
theorem dX0_reduce_22 : decode cX0_reduce 22 = .ok (.land, 1) := by decide +kernel
theorem dX0_reduce_23 : decode cX0_reduce 23 = .ok (.lconst 0, 1) := by decide +kernel
theorem dX0_reduce_24 : decode cX0_reduce 24 = .ok (.lcmp, 1) := by decide +kernel
theorem dX0_reduce_25 : decode cX0_reduce 25 = .ok (.ifCond .ne 29, 3) := by decide +kernel
theorem dX0_reduce_28 : decode cX0_reduce 28 = .ok (.aload_n 0, 1) := by decide +kernel
theorem dX0_reduce_29 : decode cX0_reduce 29 = .ok (.dup, 1) := by decide +kernel
theorem dX0_reduce_30 : decode cX0_reduce 30 = .ok (.getfield 19, 3) := by decide +kernel
theorem dX0_reduce_33 : decode cX0_reduce 33 = .ok (.iconst 1, 1) := by decide +kernel
theorem dX0_reduce_34 : decode cX0_reduce 34 = .ok (.lshr, 1) := by decide +kernel
theorem dX0_reduce_35 : decode cX0_reduce 35 = .ok (.putfield 19, 3) := by decide +kernel
theorem dX0_reduce_38 : decode cX0_reduce 38 = .ok (.aload_n 0, 1) := by decide +kernel
theorem dX0_reduce_39 : decode cX0_reduce 39 = .ok (.dup, 1) := by decide +kernel
theorem dX0_reduce_40 : decode cX0_reduce 40 = .ok (.getfield 15, 3) := by decide +kernel
theorem dX0_reduce_43 : decode cX0_reduce 43 = .ok (.iconst 1, 1) := by decide +kernel
theorem dX0_reduce_44 : decode cX0_reduce 44 = .ok (.lshr, 1) := by decide +kernel
theorem dX0_reduce_45 : decode cX0_reduce 45 = .ok (.putfield 15, 3) := by decide +kernel
theorem dX0_reduce_48 : decode cX0_reduce 48 = .ok (.iinc 1 1, 3) := by decide +kernel
theorem dX0_reduce_51 : decode cX0_reduce 51 = .ok (.goto (-49), 3) := by decide +kernel
theorem dX0_reduce_54 : decode cX0_reduce 54 = .ok (.return_, 1) := by decide +kernel
theorem dX1_init_0 : decode cX1_init 0 = .ok (.aload_n 0, 1) := by decide +kernel
theorem dX1_init_1 : decode cX1_init 1 = .ok (.invokespecial 3, 3) := by decide +kernel
theorem dX1_init_4 : decode cX1_init 4 = .ok (.aload_n 0, 1) := by decide +kernel
theorem dX1_init_5 : decode cX1_init 5 = .ok (.bipush 20, 2) := by decide +kernel
theorem dX1_init_7 : decode cX1_init 7 = .ok (.newarray .int, 2) := by decide +kernel
theorem dX1_init_9 : decode cX1_init 9 = .ok (.putfield 11, 3) := by decide +kernel
theorem dX1_init_12 : decode cX1_init 12 = .ok (.aload_n 0, 1) := by decide +kernel
theorem dX1_init_13 : decode cX1_init 13 = .ok (.bipush 12, 2) := by decide +kernel
theorem dX1_init_15 : decode cX1_init 15 = .ok (.newarray .int, 2) := by decide +kernel
theorem dX1_init_17 : decode cX1_init 17 = .ok (.putfield 15, 3) := by decide +kernel
theorem dX1_init_20 : decode cX1_init 20 = .ok (.aload_n 0, 1) := by decide +kernel
theorem dX1_init_21 : decode cX1_init 21 = .ok (.bipush 12, 2) := by decide +kernel
theorem dX1_init_23 : decode cX1_init 23 = .ok (.newarray .int, 2) := by decide +kernel
theorem dX1_init_25 : decode cX1_init 25 = .ok (.putfield 18, 3) := by decide +kernel
theorem dX1_init_28 : decode cX1_init 28 = .ok (.aload_n 0, 1) := by decide +kernel
theorem dX1_init_29 : decode cX1_init 29 = .ok (.iconst (-1), 1) := by decide +kernel
theorem dX1_init_30 : decode cX1_init 30 = .ok (.putfield 21, 3) := by decide +kernel
theorem dX1_init_33 : decode cX1_init 33 = .ok (.return_, 1) := by decide +kernel
theorem dX1_bytes_0 : decode cX1_bytes 0 = .ok (.aload_n 0, 1) := by decide +kernel
theorem dX1_bytes_1 : decode cX1_bytes 1 = .ok (.getfield 25, 3) := by decide +kernel
theorem dX1_bytes_4 : decode cX1_bytes 4 = .ok (.ireturn, 1) := by decide +kernel
theorem dX1_rows_0 : decode cX1_rows 0 = .ok (.aload_n 0, 1) := by decide +kernel
theorem dX1_rows_1 : decode cX1_rows 1 = .ok (.getfield 28, 3) := by decide +kernel
theorem dX1_rows_4 : decode cX1_rows 4 = .ok (.ireturn, 1) := by decide +kernel
theorem dX1_columns_0 : decode cX1_columns 0 = .ok (.aload_n 0, 1) := by decide +kernel
theorem dX1_columns_1 : decode cX1_columns 1 = .ok (.getfield 31, 3) := by decide +kernel
theorem dX1_columns_4 : decode cX1_columns 4 = .ok (.ireturn, 1) := by decide +kernel
theorem dX1_cells_0 : decode cX1_cells 0 = .ok (.aload_n 0, 1) := by decide +kernel
theorem dX1_cells_1 : decode cX1_cells 1 = .ok (.getfield 34, 3) := by decide +kernel
theorem dX1_cells_4 : decode cX1_cells 4 = .ok (.ireturn, 1) := by decide +kernel
theorem dX1_faultPlace_0 : decode cX1_faultPlace 0 = .ok (.aload_n 0, 1) := by decide +kernel
theorem dX1_faultPlace_1 : decode cX1_faultPlace 1 = .ok (.getfield 21, 3) := by decide +kernel
theorem dX1_faultPlace_4 : decode cX1_faultPlace 4 = .ok (.ireturn, 1) := by decide +kernel
theorem dX1_heightOf_0 : decode cX1_heightOf 0 = .ok (.aload_n 0, 1) := by decide +kernel
theorem dX1_heightOf_1 : decode cX1_heightOf 1 = .ok (.getfield 15, 3) := by decide +kernel
theorem dX1_heightOf_4 : decode cX1_heightOf 4 = .ok (.iload_n 1, 1) := by decide +kernel
theorem dX1_heightOf_5 : decode cX1_heightOf 5 = .ok (.iaload, 1) := by decide +kernel
theorem dX1_heightOf_6 : decode cX1_heightOf 6 = .ok (.ireturn, 1) := by decide +kernel
theorem dX1_columnOf_0 : decode cX1_columnOf 0 = .ok (.aload_n 0, 1) := by decide +kernel
theorem dX1_columnOf_1 : decode cX1_columnOf 1 = .ok (.getfield 18, 3) := by decide +kernel
theorem dX1_columnOf_4 : decode cX1_columnOf 4 = .ok (.iload_n 1, 1) := by decide +kernel
theorem dX1_columnOf_5 : decode cX1_columnOf 5 = .ok (.iaload, 1) := by decide +kernel
theorem dX1_columnOf_6 : decode cX1_columnOf 6 = .ok (.ireturn, 1) := by decide +kernel
theorem dX1_rowStart_0 : decode cX1_rowStart 0 = .ok (.iload_n 1, 1) := by decide +kernel
theorem dX1_rowStart_1 : decode cX1_rowStart 1 = .ok (.aload_n 0, 1) := by decide +kernel
theorem dX1_rowStart_2 : decode cX1_rowStart 2 = .ok (.getfield 18, 3) := by decide +kernel
theorem dX1_rowStart_5 : decode cX1_rowStart 5 = .ok (.iload_n 1, 1) := by decide +kernel
theorem dX1_rowStart_6 : decode cX1_rowStart 6 = .ok (.iaload, 1) := by decide +kernel
theorem dX1_rowStart_7 : decode cX1_rowStart 7 = .ok (.isub, 1) := by decide +kernel
theorem dX1_rowStart_8 : decode cX1_rowStart 8 = .ok (.ireturn, 1) := by decide +kernel
theorem dX1_isFull_0 : decode cX1_isFull 0 = .ok (.aload_n 0, 1) := by decide +kernel
theorem dX1_isFull_1 : decode cX1_isFull 1 = .ok (.getfield 25, 3) := by decide +kernel
theorem dX1_isFull_4 : decode cX1_isFull 4 = .ok (.bipush 20, 2) := by decide +kernel
theorem dX1_isFull_6 : decode cX1_isFull 6 = .ok (.if_icmp .lt 7, 3) := by decide +kernel
theorem dX1_isFull_9 : decode cX1_isFull 9 = .ok (.iconst 1, 1) := by decide +kernel
theorem dX1_isFull_10 : decode cX1_isFull 10 = .ok (.goto 4, 3) := by decide +kernel
theorem dX1_isFull_13 : decode cX1_isFull 13 = .ok (.iconst 0, 1) := by decide +kernel
theorem dX1_isFull_14 : decode cX1_isFull 14 = .ok (.ireturn, 1) := by decide +kernel
theorem dX1_append_0 : decode cX1_append 0 = .ok (.aload_n 0, 1) := by decide +kernel
theorem dX1_append_1 : decode cX1_append 1 = .ok (.invokevirtual 37, 3) := by decide +kernel
theorem dX1_append_4 : decode cX1_append 4 = .ok (.ifCond .ne 27, 3) := by decide +kernel
theorem dX1_append_7 : decode cX1_append 7 = .ok (.aload_n 0, 1) := by decide +kernel
theorem dX1_append_8 : decode cX1_append 8 = .ok (.getfield 11, 3) := by decide +kernel
theorem dX1_append_11 : decode cX1_append 11 = .ok (.aload_n 0, 1) := by decide +kernel
theorem dX1_append_12 : decode cX1_append 12 = .ok (.getfield 25, 3) := by decide +kernel
theorem dX1_append_15 : decode cX1_append 15 = .ok (.iload_n 1, 1) := by decide +kernel
theorem dX1_append_16 : decode cX1_append 16 = .ok (.iastore, 1) := by decide +kernel
theorem dX1_append_17 : decode cX1_append 17 = .ok (.aload_n 0, 1) := by decide +kernel
theorem dX1_append_18 : decode cX1_append 18 = .ok (.dup, 1) := by decide +kernel
theorem dX1_append_19 : decode cX1_append 19 = .ok (.getfield 25, 3) := by decide +kernel
theorem dX1_append_22 : decode cX1_append 22 = .ok (.iconst 1, 1) := by decide +kernel
theorem dX1_append_23 : decode cX1_append 23 = .ok (.iadd, 1) := by decide +kernel
theorem dX1_append_24 : decode cX1_append 24 = .ok (.putfield 25, 3) := by decide +kernel
theorem dX1_append_27 : decode cX1_append 27 = .ok (.aload_n 0, 1) := by decide +kernel
theorem dX1_append_28 : decode cX1_append 28 = .ok (.invokevirtual 41, 3) := by decide +kernel
theorem dX1_append_31 : decode cX1_append 31 = .ok (.return_, 1) := by decide +kernel
theorem dX1_empty_0 : decode cX1_empty 0 = .ok (.aload_n 0, 1) := by decide +kernel
theorem dX1_empty_1 : decode cX1_empty 1 = .ok (.iconst 0, 1) := by decide +kernel
theorem dX1_empty_2 : decode cX1_empty 2 = .ok (.putfield 25, 3) := by decide +kernel
theorem dX1_empty_5 : decode cX1_empty 5 = .ok (.aload_n 0, 1) := by decide +kernel
theorem dX1_empty_6 : decode cX1_empty 6 = .ok (.invokevirtual 41, 3) := by decide +kernel
theorem dX1_empty_9 : decode cX1_empty 9 = .ok (.return_, 1) := by decide +kernel
theorem dX1_survey_0 : decode cX1_survey 0 = .ok (.aload_n 0, 1) := by decide +kernel
theorem dX1_survey_1 : decode cX1_survey 1 = .ok (.iconst 0, 1) := by decide +kernel
theorem dX1_survey_2 : decode cX1_survey 2 = .ok (.putfield 28, 3) := by decide +kernel
theorem dX1_survey_5 : decode cX1_survey 5 = .ok (.aload_n 0, 1) := by decide +kernel
theorem dX1_survey_6 : decode cX1_survey 6 = .ok (.iconst 0, 1) := by decide +kernel
theorem dX1_survey_7 : decode cX1_survey 7 = .ok (.putfield 31, 3) := by decide +kernel
theorem dX1_survey_10 : decode cX1_survey 10 = .ok (.aload_n 0, 1) := by decide +kernel
theorem dX1_survey_11 : decode cX1_survey 11 = .ok (.iconst 0, 1) := by decide +kernel
theorem dX1_survey_12 : decode cX1_survey 12 = .ok (.putfield 34, 3) := by decide +kernel
theorem dX1_survey_15 : decode cX1_survey 15 = .ok (.aload_n 0, 1) := by decide +kernel
theorem dX1_survey_16 : decode cX1_survey 16 = .ok (.aload_n 0, 1) := by decide +kernel
theorem dX1_survey_17 : decode cX1_survey 17 = .ok (.invokevirtual 44, 3) := by decide +kernel
theorem dX1_survey_20 : decode cX1_survey 20 = .ok (.putfield 21, 3) := by decide +kernel
theorem dX1_survey_23 : decode cX1_survey 23 = .ok (.aload_n 0, 1) := by decide +kernel
theorem dX1_survey_24 : decode cX1_survey 24 = .ok (.getfield 21, 3) := by decide +kernel
theorem dX1_survey_27 : decode cX1_survey 27 = .ok (.iconst (-1), 1) := by decide +kernel
theorem dX1_survey_28 : decode cX1_survey 28 = .ok (.if_icmp .ne 14, 3) := by decide +kernel
theorem dX1_survey_31 : decode cX1_survey 31 = .ok (.aload_n 0, 1) := by decide +kernel
theorem dX1_survey_32 : decode cX1_survey 32 = .ok (.getfield 25, 3) := by decide +kernel
theorem dX1_survey_35 : decode cX1_survey 35 = .ok (.ifCond .le 7, 3) := by decide +kernel
theorem dX1_survey_38 : decode cX1_survey 38 = .ok (.aload_n 0, 1) := by decide +kernel
theorem dX1_survey_39 : decode cX1_survey 39 = .ok (.invokevirtual 48, 3) := by decide +kernel
theorem dX1_survey_42 : decode cX1_survey 42 = .ok (.return_, 1) := by decide +kernel
theorem dX1_findFault_0 : decode cX1_findFault 0 = .ok (.iconst 0, 1) := by decide +kernel
theorem dX1_findFault_1 : decode cX1_findFault 1 = .ok (.istore_n 1, 1) := by decide +kernel
theorem dX1_findFault_2 : decode cX1_findFault 2 = .ok (.iconst 0, 1) := by decide +kernel
theorem dX1_findFault_3 : decode cX1_findFault 3 = .ok (.istore_n 2, 1) := by decide +kernel
theorem dX1_findFault_4 : decode cX1_findFault 4 = .ok (.iconst 4, 1) := by decide +kernel
theorem dX1_findFault_5 : decode cX1_findFault 5 = .ok (.istore_n 3, 1) := by decide +kernel
theorem dX1_findFault_6 : decode cX1_findFault 6 = .ok (.iconst 0, 1) := by decide +kernel
theorem dX1_findFault_7 : decode cX1_findFault 7 = .ok (.istore 4, 2) := by decide +kernel
theorem dX1_findFault_9 : decode cX1_findFault 9 = .ok (.iload 4, 2) := by decide +kernel
theorem dX1_findFault_11 : decode cX1_findFault 11 = .ok (.aload_n 0, 1) := by decide +kernel
theorem dX1_findFault_12 : decode cX1_findFault 12 = .ok (.getfield 25, 3) := by decide +kernel
theorem dX1_findFault_15 : decode cX1_findFault 15 = .ok (.if_icmp .ge 75, 3) := by decide +kernel
theorem dX1_findFault_18 : decode cX1_findFault 18 = .ok (.iload_n 1, 1) := by decide +kernel
theorem dX1_findFault_19 : decode cX1_findFault 19 = .ok (.iconst 3, 1) := by decide +kernel
theorem dX1_findFault_20 : decode cX1_findFault 20 = .ok (.if_icmp .ne 6, 3) := by decide +kernel
theorem dX1_findFault_23 : decode cX1_findFault 23 = .ok (.iload 4, 2) := by decide +kernel
theorem dX1_findFault_25 : decode cX1_findFault 25 = .ok (.ireturn, 1) := by decide +kernel
theorem dX1_findFault_26 : decode cX1_findFault 26 = .ok (.aload_n 0, 1) := by decide +kernel
theorem dX1_findFault_27 : decode cX1_findFault 27 = .ok (.getfield 11, 3) := by decide +kernel
theorem dX1_findFault_30 : decode cX1_findFault 30 = .ok (.iload 4, 2) := by decide +kernel
theorem dX1_findFault_32 : decode cX1_findFault 32 = .ok (.iaload, 1) := by decide +kernel
theorem dX1_findFault_33 : decode cX1_findFault 33 = .ok (.invokestatic 51, 3) := by decide +kernel
theorem dX1_findFault_36 : decode cX1_findFault 36 = .ok (.ifCond .eq 14, 3) := by decide +kernel
theorem dX1_findFault_39 : decode cX1_findFault 39 = .ok (.iload_n 2, 1) := by decide +kernel
theorem dX1_findFault_40 : decode cX1_findFault 40 = .ok (.iload_n 3, 1) := by decide +kernel
theorem dX1_findFault_41 : decode cX1_findFault 41 = .ok (.if_icmp .ge 9, 3) := by decide +kernel
theorem dX1_findFault_44 : decode cX1_findFault 44 = .ok (.iinc 2 1, 3) := by decide +kernel
theorem dX1_findFault_47 : decode cX1_findFault 47 = .ok (.goto 37, 3) := by decide +kernel
theorem dX1_findFault_50 : decode cX1_findFault 50 = .ok (.aload_n 0, 1) := by decide +kernel
theorem dX1_findFault_51 : decode cX1_findFault 51 = .ok (.getfield 11, 3) := by decide +kernel
theorem dX1_findFault_54 : decode cX1_findFault 54 = .ok (.iload 4, 2) := by decide +kernel
theorem dX1_findFault_56 : decode cX1_findFault 56 = .ok (.iaload, 1) := by decide +kernel
theorem dX1_findFault_57 : decode cX1_findFault 57 = .ok (.bipush 59, 2) := by decide +kernel
theorem dX1_findFault_59 : decode cX1_findFault 59 = .ok (.if_icmp .ne 22, 3) := by decide +kernel
theorem dX1_findFault_62 : decode cX1_findFault 62 = .ok (.iload_n 1, 1) := by decide +kernel
theorem dX1_findFault_63 : decode cX1_findFault 63 = .ok (.iload_n 2, 1) := by decide +kernel
theorem dX1_findFault_64 : decode cX1_findFault 64 = .ok (.iload_n 3, 1) := by decide +kernel
theorem dX1_findFault_65 : decode cX1_findFault 65 = .ok (.invokestatic 55, 3) := by decide +kernel
theorem dX1_findFault_68 : decode cX1_findFault 68 = .ok (.ifCond .eq 13, 3) := by decide +kernel
theorem dX1_findFault_71 : decode cX1_findFault 71 = .ok (.iload_n 2, 1) := by decide +kernel
theorem dX1_findFault_72 : decode cX1_findFault 72 = .ok (.istore_n 3, 1) := by decide +kernel
theorem dX1_findFault_73 : decode cX1_findFault 73 = .ok (.iconst 0, 1) := by decide +kernel
theorem dX1_findFault_74 : decode cX1_findFault 74 = .ok (.istore_n 2, 1) := by decide +kernel
theorem dX1_findFault_75 : decode cX1_findFault 75 = .ok (.iinc 1 1, 3) := by decide +kernel
theorem dX1_findFault_78 : decode cX1_findFault 78 = .ok (.goto 6, 3) := by decide +kernel
theorem dX1_findFault_81 : decode cX1_findFault 81 = .ok (.iload 4, 2) := by decide +kernel
theorem dX1_findFault_83 : decode cX1_findFault 83 = .ok (.ireturn, 1) := by decide +kernel
theorem dX1_findFault_84 : decode cX1_findFault 84 = .ok (.iinc 4 1, 3) := by decide +kernel
theorem dX1_findFault_87 : decode cX1_findFault 87 = .ok (.goto (-78), 3) := by decide +kernel
theorem dX1_findFault_90 : decode cX1_findFault 90 = .ok (.aload_n 0, 1) := by decide +kernel
theorem dX1_findFault_91 : decode cX1_findFault 91 = .ok (.getfield 25, 3) := by decide +kernel
theorem dX1_findFault_94 : decode cX1_findFault 94 = .ok (.ifCond .eq 17, 3) := by decide +kernel
theorem dX1_findFault_97 : decode cX1_findFault 97 = .ok (.iload_n 1, 1) := by decide +kernel
theorem dX1_findFault_98 : decode cX1_findFault 98 = .ok (.iconst 3, 1) := by decide +kernel
theorem dX1_findFault_99 : decode cX1_findFault 99 = .ok (.if_icmp .ge 16, 3) := by decide +kernel
theorem dX1_findFault_102 : decode cX1_findFault 102 = .ok (.iload_n 1, 1) := by decide +kernel
theorem dX1_findFault_103 : decode cX1_findFault 103 = .ok (.iload_n 2, 1) := by decide +kernel
theorem dX1_findFault_104 : decode cX1_findFault 104 = .ok (.iload_n 3, 1) := by decide +kernel
theorem dX1_findFault_105 : decode cX1_findFault 105 = .ok (.invokestatic 55, 3) := by decide +kernel
theorem dX1_findFault_108 : decode cX1_findFault 108 = .ok (.ifCond .eq 7, 3) := by decide +kernel
theorem dX1_findFault_111 : decode cX1_findFault 111 = .ok (.iconst 1, 1) := by decide +kernel
theorem dX1_findFault_112 : decode cX1_findFault 112 = .ok (.goto 4, 3) := by decide +kernel
theorem dX1_findFault_115 : decode cX1_findFault 115 = .ok (.iconst 0, 1) := by decide +kernel
theorem dX1_findFault_116 : decode cX1_findFault 116 = .ok (.istore 4, 2) := by decide +kernel
theorem dX1_findFault_118 : decode cX1_findFault 118 = .ok (.iload 4, 2) := by decide +kernel
theorem dX1_findFault_120 : decode cX1_findFault 120 = .ok (.ifCond .eq 7, 3) := by decide +kernel
theorem dX1_findFault_123 : decode cX1_findFault 123 = .ok (.iconst (-1), 1) := by decide +kernel
theorem dX1_findFault_124 : decode cX1_findFault 124 = .ok (.goto 7, 3) := by decide +kernel
theorem dX1_findFault_127 : decode cX1_findFault 127 = .ok (.aload_n 0, 1) := by decide +kernel
theorem dX1_findFault_128 : decode cX1_findFault 128 = .ok (.getfield 25, 3) := by decide +kernel
theorem dX1_findFault_131 : decode cX1_findFault 131 = .ok (.ireturn, 1) := by decide +kernel
theorem dX1_endsRow_0 : decode cX1_endsRow 0 = .ok (.iload_n 0, 1) := by decide +kernel
theorem dX1_endsRow_1 : decode cX1_endsRow 1 = .ok (.ifCond .ne 15, 3) := by decide +kernel
theorem dX1_endsRow_4 : decode cX1_endsRow 4 = .ok (.iload_n 1, 1) := by decide +kernel
theorem dX1_endsRow_5 : decode cX1_endsRow 5 = .ok (.ifCond .le 7, 3) := by decide +kernel
theorem dX1_endsRow_8 : decode cX1_endsRow 8 = .ok (.iconst 1, 1) := by decide +kernel
theorem dX1_endsRow_9 : decode cX1_endsRow 9 = .ok (.goto 17, 3) := by decide +kernel
theorem dX1_endsRow_12 : decode cX1_endsRow 12 = .ok (.iconst 0, 1) := by decide +kernel
theorem dX1_endsRow_13 : decode cX1_endsRow 13 = .ok (.goto 13, 3) := by decide +kernel
theorem dX1_endsRow_16 : decode cX1_endsRow 16 = .ok (.iload_n 1, 1) := by decide +kernel
theorem dX1_endsRow_17 : decode cX1_endsRow 17 = .ok (.iload_n 2, 1) := by decide +kernel
theorem dX1_endsRow_18 : decode cX1_endsRow 18 = .ok (.if_icmp .ne 7, 3) := by decide +kernel
theorem dX1_endsRow_21 : decode cX1_endsRow 21 = .ok (.iconst 1, 1) := by decide +kernel
theorem dX1_endsRow_22 : decode cX1_endsRow 22 = .ok (.goto 4, 3) := by decide +kernel
theorem dX1_endsRow_25 : decode cX1_endsRow 25 = .ok (.iconst 0, 1) := by decide +kernel
theorem dX1_endsRow_26 : decode cX1_endsRow 26 = .ok (.ireturn, 1) := by decide +kernel
theorem dX1_layCells_0 : decode cX1_layCells 0 = .ok (.iconst 0, 1) := by decide +kernel
theorem dX1_layCells_1 : decode cX1_layCells 1 = .ok (.istore_n 1, 1) := by decide +kernel
theorem dX1_layCells_2 : decode cX1_layCells 2 = .ok (.aload_n 0, 1) := by decide +kernel
theorem dX1_layCells_3 : decode cX1_layCells 3 = .ok (.iconst 1, 1) := by decide +kernel
theorem dX1_layCells_4 : decode cX1_layCells 4 = .ok (.putfield 28, 3) := by decide +kernel
theorem dX1_layCells_7 : decode cX1_layCells 7 = .ok (.iconst 0, 1) := by decide +kernel
theorem dX1_layCells_8 : decode cX1_layCells 8 = .ok (.istore_n 2, 1) := by decide +kernel
theorem dX1_layCells_9 : decode cX1_layCells 9 = .ok (.iload_n 2, 1) := by decide +kernel
theorem dX1_layCells_10 : decode cX1_layCells 10 = .ok (.aload_n 0, 1) := by decide +kernel
theorem dX1_layCells_11 : decode cX1_layCells 11 = .ok (.getfield 25, 3) := by decide +kernel
theorem dX1_layCells_14 : decode cX1_layCells 14 = .ok (.if_icmp .ge 85, 3) := by decide +kernel
theorem dX1_layCells_17 : decode cX1_layCells 17 = .ok (.aload_n 0, 1) := by decide +kernel
theorem dX1_layCells_18 : decode cX1_layCells 18 = .ok (.getfield 11, 3) := by decide +kernel
theorem dX1_layCells_21 : decode cX1_layCells 21 = .ok (.iload_n 2, 1) := by decide +kernel
theorem dX1_layCells_22 : decode cX1_layCells 22 = .ok (.iaload, 1) := by decide +kernel
theorem dX1_layCells_23 : decode cX1_layCells 23 = .ok (.bipush 59, 2) := by decide +kernel
theorem dX1_layCells_25 : decode cX1_layCells 25 = .ok (.if_icmp .ne 18, 3) := by decide +kernel
theorem dX1_layCells_28 : decode cX1_layCells 28 = .ok (.aload_n 0, 1) := by decide +kernel
theorem dX1_layCells_29 : decode cX1_layCells 29 = .ok (.dup, 1) := by decide +kernel
theorem dX1_layCells_30 : decode cX1_layCells 30 = .ok (.getfield 28, 3) := by decide +kernel
theorem dX1_layCells_33 : decode cX1_layCells 33 = .ok (.iconst 1, 1) := by decide +kernel
theorem dX1_layCells_34 : decode cX1_layCells 34 = .ok (.iadd, 1) := by decide +kernel
theorem dX1_layCells_35 : decode cX1_layCells 35 = .ok (.putfield 28, 3) := by decide +kernel
theorem dX1_layCells_38 : decode cX1_layCells 38 = .ok (.iconst 0, 1) := by decide +kernel
theorem dX1_layCells_39 : decode cX1_layCells 39 = .ok (.istore_n 1, 1) := by decide +kernel
theorem dX1_layCells_40 : decode cX1_layCells 40 = .ok (.goto 53, 3) := by decide +kernel
theorem dX1_layCells_43 : decode cX1_layCells 43 = .ok (.aload_n 0, 1) := by decide +kernel
theorem dX1_layCells_44 : decode cX1_layCells 44 = .ok (.getfield 34, 3) := by decide +kernel
theorem dX1_layCells_47 : decode cX1_layCells 47 = .ok (.bipush 12, 2) := by decide +kernel
theorem dX1_layCells_49 : decode cX1_layCells 49 = .ok (.if_icmp .ge 44, 3) := by decide +kernel
theorem dX1_layCells_52 : decode cX1_layCells 52 = .ok (.aload_n 0, 1) := by decide +kernel
theorem dX1_layCells_53 : decode cX1_layCells 53 = .ok (.getfield 15, 3) := by decide +kernel
theorem dX1_layCells_56 : decode cX1_layCells 56 = .ok (.aload_n 0, 1) := by decide +kernel
theorem dX1_layCells_57 : decode cX1_layCells 57 = .ok (.getfield 34, 3) := by decide +kernel
theorem dX1_layCells_60 : decode cX1_layCells 60 = .ok (.aload_n 0, 1) := by decide +kernel
theorem dX1_layCells_61 : decode cX1_layCells 61 = .ok (.getfield 11, 3) := by decide +kernel
theorem dX1_layCells_64 : decode cX1_layCells 64 = .ok (.iload_n 2, 1) := by decide +kernel
theorem dX1_layCells_65 : decode cX1_layCells 65 = .ok (.iaload, 1) := by decide +kernel
theorem dX1_layCells_66 : decode cX1_layCells 66 = .ok (.bipush 48, 2) := by decide +kernel
theorem dX1_layCells_68 : decode cX1_layCells 68 = .ok (.isub, 1) := by decide +kernel
theorem dX1_layCells_69 : decode cX1_layCells 69 = .ok (.iastore, 1) := by decide +kernel
theorem dX1_layCells_70 : decode cX1_layCells 70 = .ok (.aload_n 0, 1) := by decide +kernel
theorem dX1_layCells_71 : decode cX1_layCells 71 = .ok (.getfield 18, 3) := by decide +kernel
theorem dX1_layCells_74 : decode cX1_layCells 74 = .ok (.aload_n 0, 1) := by decide +kernel
theorem dX1_layCells_75 : decode cX1_layCells 75 = .ok (.getfield 34, 3) := by decide +kernel
theorem dX1_layCells_78 : decode cX1_layCells 78 = .ok (.iload_n 1, 1) := by decide +kernel
theorem dX1_layCells_79 : decode cX1_layCells 79 = .ok (.iastore, 1) := by decide +kernel
theorem dX1_layCells_80 : decode cX1_layCells 80 = .ok (.aload_n 0, 1) := by decide +kernel
theorem dX1_layCells_81 : decode cX1_layCells 81 = .ok (.dup, 1) := by decide +kernel
theorem dX1_layCells_82 : decode cX1_layCells 82 = .ok (.getfield 34, 3) := by decide +kernel
theorem dX1_layCells_85 : decode cX1_layCells 85 = .ok (.iconst 1, 1) := by decide +kernel
theorem dX1_layCells_86 : decode cX1_layCells 86 = .ok (.iadd, 1) := by decide +kernel
theorem dX1_layCells_87 : decode cX1_layCells 87 = .ok (.putfield 34, 3) := by decide +kernel
theorem dX1_layCells_90 : decode cX1_layCells 90 = .ok (.iinc 1 1, 3) := by decide +kernel
theorem dX1_layCells_93 : decode cX1_layCells 93 = .ok (.iinc 2 1, 3) := by decide +kernel
theorem dX1_layCells_96 : decode cX1_layCells 96 = .ok (.goto (-87), 3) := by decide +kernel
theorem dX1_layCells_99 : decode cX1_layCells 99 = .ok (.aload_n 0, 1) := by decide +kernel
theorem dX1_layCells_100 : decode cX1_layCells 100 = .ok (.iload_n 1, 1) := by decide +kernel
theorem dX1_layCells_101 : decode cX1_layCells 101 = .ok (.putfield 31, 3) := by decide +kernel
theorem dX1_layCells_104 : decode cX1_layCells 104 = .ok (.return_, 1) := by decide +kernel
theorem dX1_isFigure_0 : decode cX1_isFigure 0 = .ok (.iload_n 0, 1) := by decide +kernel
theorem dX1_isFigure_1 : decode cX1_isFigure 1 = .ok (.bipush 48, 2) := by decide +kernel
theorem dX1_isFigure_3 : decode cX1_isFigure 3 = .ok (.if_icmp .lt 13, 3) := by decide +kernel
theorem dX1_isFigure_6 : decode cX1_isFigure 6 = .ok (.iload_n 0, 1) := by decide +kernel
theorem dX1_isFigure_7 : decode cX1_isFigure 7 = .ok (.bipush 57, 2) := by decide +kernel
theorem dX1_isFigure_9 : decode cX1_isFigure 9 = .ok (.if_icmp .gt 7, 3) := by decide +kernel
theorem dX1_isFigure_12 : decode cX1_isFigure 12 = .ok (.iconst 1, 1) := by decide +kernel
theorem dX1_isFigure_13 : decode cX1_isFigure 13 = .ok (.goto 4, 3) := by decide +kernel
theorem dX1_isFigure_16 : decode cX1_isFigure 16 = .ok (.iconst 0, 1) := by decide +kernel
theorem dX1_isFigure_17 : decode cX1_isFigure 17 = .ok (.ireturn, 1) := by decide +kernel
theorem dX2_init_0 : decode cX2_init 0 = .ok (.aload_n 0, 1) := by decide +kernel
theorem dX2_init_1 : decode cX2_init 1 = .ok (.invokespecial 3, 3) := by decide +kernel
theorem dX2_init_4 : decode cX2_init 4 = .ok (.aload_n 0, 1) := by decide +kernel
theorem dX2_init_5 : decode cX2_init 5 = .ok (.bipush 64, 2) := by decide +kernel
theorem dX2_init_7 : decode cX2_init 7 = .ok (.newarray .int, 2) := by decide +kernel
theorem dX2_init_9 : decode cX2_init 9 = .ok (.putfield 11, 3) := by decide +kernel
theorem dX2_init_12 : decode cX2_init 12 = .ok (.aload_n 0, 1) := by decide +kernel
theorem dX2_init_13 : decode cX2_init 13 = .ok (.bipush 64, 2) := by decide +kernel
theorem dX2_init_15 : decode cX2_init 15 = .ok (.newarray .int, 2) := by decide +kernel
theorem dX2_init_17 : decode cX2_init 17 = .ok (.putfield 15, 3) := by decide +kernel
theorem dX2_init_20 : decode cX2_init 20 = .ok (.aload_n 0, 1) := by decide +kernel
theorem dX2_init_21 : decode cX2_init 21 = .ok (.iconst (-1), 1) := by decide +kernel
theorem dX2_init_22 : decode cX2_init 22 = .ok (.putfield 18, 3) := by decide +kernel
theorem dX2_init_25 : decode cX2_init 25 = .ok (.aload_n 0, 1) := by decide +kernel
theorem dX2_init_26 : decode cX2_init 26 = .ok (.iconst (-1), 1) := by decide +kernel
theorem dX2_init_27 : decode cX2_init 27 = .ok (.putfield 22, 3) := by decide +kernel
theorem dX2_init_30 : decode cX2_init 30 = .ok (.aload_n 0, 1) := by decide +kernel
theorem dX2_init_31 : decode cX2_init 31 = .ok (.iconst (-1), 1) := by decide +kernel
theorem dX2_init_32 : decode cX2_init 32 = .ok (.putfield 25, 3) := by decide +kernel
theorem dX2_init_35 : decode cX2_init 35 = .ok (.aload_n 0, 1) := by decide +kernel
theorem dX2_init_36 : decode cX2_init 36 = .ok (.iconst (-1), 1) := by decide +kernel
theorem dX2_init_37 : decode cX2_init 37 = .ok (.putfield 28, 3) := by decide +kernel
theorem dX2_init_40 : decode cX2_init 40 = .ok (.return_, 1) := by decide +kernel
theorem dX2_firstPart_0 : decode cX2_firstPart 0 = .ok (.aload_n 0, 1) := by decide +kernel
theorem dX2_firstPart_1 : decode cX2_firstPart 1 = .ok (.getfield 18, 3) := by decide +kernel
theorem dX2_firstPart_4 : decode cX2_firstPart 4 = .ok (.ireturn, 1) := by decide +kernel
theorem dX2_leastDifference_0 : decode cX2_leastDifference 0 = .ok (.aload_n 0, 1) := by decide +kernel
theorem dX2_leastDifference_1 : decode cX2_leastDifference 1 = .ok (.getfield 22, 3) := by decide +kernel
theorem dX2_leastDifference_4 : decode cX2_leastDifference 4 = .ok (.ireturn, 1) := by decide +kernel
theorem dX2_partAfter_0 : decode cX2_partAfter 0 = .ok (.aload_n 0, 1) := by decide +kernel
theorem dX2_partAfter_1 : decode cX2_partAfter 1 = .ok (.getfield 25, 3) := by decide +kernel
theorem dX2_partAfter_4 : decode cX2_partAfter 4 = .ok (.ireturn, 1) := by decide +kernel
theorem dX2_fewestMoved_0 : decode cX2_fewestMoved 0 = .ok (.aload_n 0, 1) := by decide +kernel
theorem dX2_fewestMoved_1 : decode cX2_fewestMoved 1 = .ok (.getfield 28, 3) := by decide +kernel
theorem dX2_fewestMoved_4 : decode cX2_fewestMoved 4 = .ok (.ireturn, 1) := by decide +kernel
theorem dX2_part_0 : decode cX2_part 0 = .ok (.aload_n 0, 1) := by decide +kernel
theorem dX2_part_1 : decode cX2_part 1 = .ok (.aload_n 1, 1) := by decide +kernel
theorem dX2_part_2 : decode cX2_part 2 = .ok (.aload_n 2, 1) := by decide +kernel
theorem dX2_part_3 : decode cX2_part 3 = .ok (.invokevirtual 31, 3) := by decide +kernel
theorem dX2_part_6 : decode cX2_part 6 = .ok (.aload_n 0, 1) := by decide +kernel
theorem dX2_part_7 : decode cX2_part 7 = .ok (.iconst (-1), 1) := by decide +kernel
theorem dX2_part_8 : decode cX2_part 8 = .ok (.putfield 18, 3) := by decide +kernel
theorem dX2_part_11 : decode cX2_part 11 = .ok (.aload_n 0, 1) := by decide +kernel
theorem dX2_part_12 : decode cX2_part 12 = .ok (.iconst (-1), 1) := by decide +kernel
theorem dX2_part_13 : decode cX2_part 13 = .ok (.putfield 22, 3) := by decide +kernel
theorem dX2_part_16 : decode cX2_part 16 = .ok (.iconst 1, 1) := by decide +kernel
theorem dX2_part_17 : decode cX2_part 17 = .ok (.istore_n 3, 1) := by decide +kernel
theorem dX2_part_18 : decode cX2_part 18 = .ok (.iload_n 3, 1) := by decide +kernel
theorem dX2_part_19 : decode cX2_part 19 = .ok (.aload_n 0, 1) := by decide +kernel
theorem dX2_part_20 : decode cX2_part 20 = .ok (.getfield 35, 3) := by decide +kernel
theorem dX2_part_23 : decode cX2_part 23 = .ok (.if_icmp .ge 52, 3) := by decide +kernel
theorem dX2_part_26 : decode cX2_part 26 = .ok (.aload_n 0, 1) := by decide +kernel
theorem dX2_part_27 : decode cX2_part 27 = .ok (.iload_n 3, 1) := by decide +kernel
theorem dX2_part_28 : decode cX2_part 28 = .ok (.invokevirtual 38, 3) := by decide +kernel
theorem dX2_part_31 : decode cX2_part 31 = .ok (.istore 4, 2) := by decide +kernel
theorem dX2_part_33 : decode cX2_part 33 = .ok (.aload_n 0, 1) := by decide +kernel
theorem dX2_part_34 : decode cX2_part 34 = .ok (.getfield 22, 3) := by decide +kernel
theorem dX2_part_37 : decode cX2_part 37 = .ok (.iconst (-1), 1) := by decide +kernel
theorem dX2_part_38 : decode cX2_part 38 = .ok (.if_icmp .eq 12, 3) := by decide +kernel
theorem dX2_part_41 : decode cX2_part 41 = .ok (.iload 4, 2) := by decide +kernel
theorem dX2_part_43 : decode cX2_part 43 = .ok (.aload_n 0, 1) := by decide +kernel
theorem dX2_part_44 : decode cX2_part 44 = .ok (.getfield 22, 3) := by decide +kernel
theorem dX2_part_47 : decode cX2_part 47 = .ok (.if_icmp .ge 22, 3) := by decide +kernel
theorem dX2_part_50 : decode cX2_part 50 = .ok (.aload_n 0, 1) := by decide +kernel
theorem dX2_part_51 : decode cX2_part 51 = .ok (.iload_n 3, 1) := by decide +kernel
theorem dX2_part_52 : decode cX2_part 52 = .ok (.invokevirtual 42, 3) := by decide +kernel
theorem dX2_part_55 : decode cX2_part 55 = .ok (.ifCond .eq 14, 3) := by decide +kernel
theorem dX2_part_58 : decode cX2_part 58 = .ok (.aload_n 0, 1) := by decide +kernel
theorem dX2_part_59 : decode cX2_part 59 = .ok (.iload 4, 2) := by decide +kernel
theorem dX2_part_61 : decode cX2_part 61 = .ok (.putfield 22, 3) := by decide +kernel
theorem dX2_part_64 : decode cX2_part 64 = .ok (.aload_n 0, 1) := by decide +kernel
theorem dX2_part_65 : decode cX2_part 65 = .ok (.iload_n 3, 1) := by decide +kernel
theorem dX2_part_66 : decode cX2_part 66 = .ok (.putfield 18, 3) := by decide +kernel
theorem dX2_part_69 : decode cX2_part 69 = .ok (.iinc 3 2, 3) := by decide +kernel
theorem dX2_part_72 : decode cX2_part 72 = .ok (.goto (-54), 3) := by decide +kernel
theorem dX2_part_75 : decode cX2_part 75 = .ok (.return_, 1) := by decide +kernel
theorem dX2_partAgain_0 : decode cX2_partAgain 0 = .ok (.aload_n 0, 1) := by decide +kernel
theorem dX2_partAgain_1 : decode cX2_partAgain 1 = .ok (.aload_n 1, 1) := by decide +kernel
theorem dX2_partAgain_2 : decode cX2_partAgain 2 = .ok (.aload_n 2, 1) := by decide +kernel
theorem dX2_partAgain_3 : decode cX2_partAgain 3 = .ok (.invokevirtual 31, 3) := by decide +kernel
theorem dX2_partAgain_6 : decode cX2_partAgain 6 = .ok (.aload_n 0, 1) := by decide +kernel
theorem dX2_partAgain_7 : decode cX2_partAgain 7 = .ok (.iconst (-1), 1) := by decide +kernel
theorem dX2_partAgain_8 : decode cX2_partAgain 8 = .ok (.putfield 25, 3) := by decide +kernel
theorem dX2_partAgain_11 : decode cX2_partAgain 11 = .ok (.aload_n 0, 1) := by decide +kernel
theorem dX2_partAgain_12 : decode cX2_partAgain 12 = .ok (.iconst (-1), 1) := by decide +kernel
theorem dX2_partAgain_13 : decode cX2_partAgain 13 = .ok (.putfield 28, 3) := by decide +kernel
theorem dX2_partAgain_16 : decode cX2_partAgain 16 = .ok (.iconst 1, 1) := by decide +kernel
theorem dX2_partAgain_17 : decode cX2_partAgain 17 = .ok (.istore 4, 2) := by decide +kernel
theorem dX2_partAgain_19 : decode cX2_partAgain 19 = .ok (.iload 4, 2) := by decide +kernel
theorem dX2_partAgain_21 : decode cX2_partAgain 21 = .ok (.aload_n 0, 1) := by decide +kernel
theorem dX2_partAgain_22 : decode cX2_partAgain 22 = .ok (.getfield 35, 3) := by decide +kernel
theorem dX2_partAgain_25 : decode cX2_partAgain 25 = .ok (.if_icmp .ge 69, 3) := by decide +kernel
theorem dX2_partAgain_28 : decode cX2_partAgain 28 = .ok (.iload 4, 2) := by decide +kernel
theorem dX2_partAgain_30 : decode cX2_partAgain 30 = .ok (.aload_n 0, 1) := by decide +kernel
theorem dX2_partAgain_31 : decode cX2_partAgain 31 = .ok (.getfield 18, 3) := by decide +kernel
theorem dX2_partAgain_34 : decode cX2_partAgain 34 = .ok (.ixor, 1) := by decide +kernel
theorem dX2_partAgain_35 : decode cX2_partAgain 35 = .ok (.invokestatic 46, 3) := by decide +kernel
theorem dX2_partAgain_38 : decode cX2_partAgain 38 = .ok (.istore 5, 2) := by decide +kernel
theorem dX2_partAgain_40 : decode cX2_partAgain 40 = .ok (.aload_n 0, 1) := by decide +kernel
theorem dX2_partAgain_41 : decode cX2_partAgain 41 = .ok (.getfield 28, 3) := by decide +kernel
theorem dX2_partAgain_44 : decode cX2_partAgain 44 = .ok (.iconst (-1), 1) := by decide +kernel
theorem dX2_partAgain_45 : decode cX2_partAgain 45 = .ok (.if_icmp .eq 12, 3) := by decide +kernel
theorem dX2_partAgain_48 : decode cX2_partAgain 48 = .ok (.iload 5, 2) := by decide +kernel
theorem dX2_partAgain_50 : decode cX2_partAgain 50 = .ok (.aload_n 0, 1) := by decide +kernel
theorem dX2_partAgain_51 : decode cX2_partAgain 51 = .ok (.getfield 28, 3) := by decide +kernel
theorem dX2_partAgain_54 : decode cX2_partAgain 54 = .ok (.if_icmp .ge 34, 3) := by decide +kernel
theorem dX2_partAgain_57 : decode cX2_partAgain 57 = .ok (.aload_n 0, 1) := by decide +kernel
theorem dX2_partAgain_58 : decode cX2_partAgain 58 = .ok (.iload 4, 2) := by decide +kernel
theorem dX2_partAgain_60 : decode cX2_partAgain 60 = .ok (.invokevirtual 38, 3) := by decide +kernel
theorem dX2_partAgain_63 : decode cX2_partAgain 63 = .ok (.iload_n 3, 1) := by decide +kernel
theorem dX2_partAgain_64 : decode cX2_partAgain 64 = .ok (.if_icmp .gt 24, 3) := by decide +kernel
theorem dX2_partAgain_67 : decode cX2_partAgain 67 = .ok (.aload_n 0, 1) := by decide +kernel
theorem dX2_partAgain_68 : decode cX2_partAgain 68 = .ok (.iload 4, 2) := by decide +kernel
theorem dX2_partAgain_70 : decode cX2_partAgain 70 = .ok (.invokevirtual 42, 3) := by decide +kernel
theorem dX2_partAgain_73 : decode cX2_partAgain 73 = .ok (.ifCond .eq 15, 3) := by decide +kernel
theorem dX2_partAgain_76 : decode cX2_partAgain 76 = .ok (.aload_n 0, 1) := by decide +kernel
theorem dX2_partAgain_77 : decode cX2_partAgain 77 = .ok (.iload 5, 2) := by decide +kernel
theorem dX2_partAgain_79 : decode cX2_partAgain 79 = .ok (.putfield 28, 3) := by decide +kernel
theorem dX2_partAgain_82 : decode cX2_partAgain 82 = .ok (.aload_n 0, 1) := by decide +kernel
theorem dX2_partAgain_83 : decode cX2_partAgain 83 = .ok (.iload 4, 2) := by decide +kernel
theorem dX2_partAgain_85 : decode cX2_partAgain 85 = .ok (.putfield 25, 3) := by decide +kernel
theorem dX2_partAgain_88 : decode cX2_partAgain 88 = .ok (.iinc 4 2, 3) := by decide +kernel
theorem dX2_partAgain_91 : decode cX2_partAgain 91 = .ok (.goto (-72), 3) := by decide +kernel
theorem dX2_partAgain_94 : decode cX2_partAgain 94 = .ok (.return_, 1) := by decide +kernel
theorem dX2_prepare_0 : decode cX2_prepare 0 = .ok (.aload_n 0, 1) := by decide +kernel
theorem dX2_prepare_1 : decode cX2_prepare 1 = .ok (.aload_n 1, 1) := by decide +kernel
theorem dX2_prepare_2 : decode cX2_prepare 2 = .ok (.invokevirtual 51, 3) := by decide +kernel
theorem dX2_prepare_5 : decode cX2_prepare 5 = .ok (.putfield 57, 3) := by decide +kernel
theorem dX2_prepare_8 : decode cX2_prepare 8 = .ok (.aload_n 0, 1) := by decide +kernel
theorem dX2_prepare_9 : decode cX2_prepare 9 = .ok (.aload_n 1, 1) := by decide +kernel
theorem dX2_prepare_10 : decode cX2_prepare 10 = .ok (.invokevirtual 59, 3) := by decide +kernel
theorem dX2_prepare_13 : decode cX2_prepare 13 = .ok (.putfield 62, 3) := by decide +kernel
theorem dX2_prepare_16 : decode cX2_prepare 16 = .ok (.aload_n 0, 1) := by decide +kernel
theorem dX2_prepare_17 : decode cX2_prepare 17 = .ok (.iconst 1, 1) := by decide +kernel
theorem dX2_prepare_18 : decode cX2_prepare 18 = .ok (.aload_n 0, 1) := by decide +kernel
theorem dX2_prepare_19 : decode cX2_prepare 19 = .ok (.getfield 57, 3) := by decide +kernel
theorem dX2_prepare_22 : decode cX2_prepare 22 = .ok (.ishl, 1) := by decide +kernel
theorem dX2_prepare_23 : decode cX2_prepare 23 = .ok (.iconst 1, 1) := by decide +kernel
theorem dX2_prepare_24 : decode cX2_prepare 24 = .ok (.isub, 1) := by decide +kernel
theorem dX2_prepare_25 : decode cX2_prepare 25 = .ok (.putfield 35, 3) := by decide +kernel
theorem dX2_prepare_28 : decode cX2_prepare 28 = .ok (.aload_n 0, 1) := by decide +kernel
theorem dX2_prepare_29 : decode cX2_prepare 29 = .ok (.iconst 0, 1) := by decide +kernel
theorem dX2_prepare_30 : decode cX2_prepare 30 = .ok (.putfield 64, 3) := by decide +kernel
theorem dX2_prepare_33 : decode cX2_prepare 33 = .ok (.aload_n 0, 1) := by decide +kernel
theorem dX2_prepare_34 : decode cX2_prepare 34 = .ok (.iconst 0, 1) := by decide +kernel
theorem dX2_prepare_35 : decode cX2_prepare 35 = .ok (.putfield 67, 3) := by decide +kernel
theorem dX2_prepare_38 : decode cX2_prepare 38 = .ok (.iconst 0, 1) := by decide +kernel
theorem dX2_prepare_39 : decode cX2_prepare 39 = .ok (.istore_n 3, 1) := by decide +kernel
theorem dX2_prepare_40 : decode cX2_prepare 40 = .ok (.iload_n 3, 1) := by decide +kernel
theorem dX2_prepare_41 : decode cX2_prepare 41 = .ok (.aload_n 0, 1) := by decide +kernel
theorem dX2_prepare_42 : decode cX2_prepare 42 = .ok (.getfield 57, 3) := by decide +kernel
theorem dX2_prepare_45 : decode cX2_prepare 45 = .ok (.if_icmp .ge 64, 3) := by decide +kernel
theorem dX2_prepare_48 : decode cX2_prepare 48 = .ok (.aload_n 1, 1) := by decide +kernel
theorem dX2_prepare_49 : decode cX2_prepare 49 = .ok (.iload_n 3, 1) := by decide +kernel
theorem dX2_prepare_50 : decode cX2_prepare 50 = .ok (.invokevirtual 70, 3) := by decide +kernel
theorem dX2_prepare_53 : decode cX2_prepare 53 = .ok (.istore 4, 2) := by decide +kernel
theorem dX2_prepare_55 : decode cX2_prepare 55 = .ok (.aload_n 0, 1) := by decide +kernel
theorem dX2_prepare_56 : decode cX2_prepare 56 = .ok (.dup, 1) := by decide +kernel
theorem dX2_prepare_57 : decode cX2_prepare 57 = .ok (.getfield 64, 3) := by decide +kernel
theorem dX2_prepare_60 : decode cX2_prepare 60 = .ok (.iload 4, 2) := by decide +kernel
theorem dX2_prepare_62 : decode cX2_prepare 62 = .ok (.ifCond .ne 9, 3) := by decide +kernel
theorem dX2_prepare_65 : decode cX2_prepare 65 = .ok (.iconst 1, 1) := by decide +kernel
theorem dX2_prepare_66 : decode cX2_prepare 66 = .ok (.iload_n 3, 1) := by decide +kernel
theorem dX2_prepare_67 : decode cX2_prepare 67 = .ok (.ishl, 1) := by decide +kernel
theorem dX2_prepare_68 : decode cX2_prepare 68 = .ok (.goto 4, 3) := by decide +kernel
theorem dX2_prepare_71 : decode cX2_prepare 71 = .ok (.iconst 0, 1) := by decide +kernel
theorem dX2_prepare_72 : decode cX2_prepare 72 = .ok (.ior, 1) := by decide +kernel
theorem dX2_prepare_73 : decode cX2_prepare 73 = .ok (.putfield 64, 3) := by decide +kernel
theorem dX2_prepare_76 : decode cX2_prepare 76 = .ok (.aload_n 0, 1) := by decide +kernel
theorem dX2_prepare_77 : decode cX2_prepare 77 = .ok (.dup, 1) := by decide +kernel
theorem dX2_prepare_78 : decode cX2_prepare 78 = .ok (.getfield 67, 3) := by decide +kernel
theorem dX2_prepare_81 : decode cX2_prepare 81 = .ok (.iload 4, 2) := by decide +kernel
theorem dX2_prepare_83 : decode cX2_prepare 83 = .ok (.aload_n 0, 1) := by decide +kernel
theorem dX2_prepare_84 : decode cX2_prepare 84 = .ok (.getfield 62, 3) := by decide +kernel
theorem dX2_prepare_87 : decode cX2_prepare 87 = .ok (.iconst 1, 1) := by decide +kernel
theorem dX2_prepare_88 : decode cX2_prepare 88 = .ok (.isub, 1) := by decide +kernel
theorem dX2_prepare_89 : decode cX2_prepare 89 = .ok (.if_icmp .ne 9, 3) := by decide +kernel
theorem dX2_prepare_92 : decode cX2_prepare 92 = .ok (.iconst 1, 1) := by decide +kernel
theorem dX2_prepare_93 : decode cX2_prepare 93 = .ok (.iload_n 3, 1) := by decide +kernel
theorem dX2_prepare_94 : decode cX2_prepare 94 = .ok (.ishl, 1) := by decide +kernel
theorem dX2_prepare_95 : decode cX2_prepare 95 = .ok (.goto 4, 3) := by decide +kernel
theorem dX2_prepare_98 : decode cX2_prepare 98 = .ok (.iconst 0, 1) := by decide +kernel
theorem dX2_prepare_99 : decode cX2_prepare 99 = .ok (.ior, 1) := by decide +kernel
theorem dX2_prepare_100 : decode cX2_prepare 100 = .ok (.putfield 67, 3) := by decide +kernel
theorem dX2_prepare_103 : decode cX2_prepare 103 = .ok (.iinc 3 1, 3) := by decide +kernel
theorem dX2_prepare_106 : decode cX2_prepare 106 = .ok (.goto (-66), 3) := by decide +kernel
theorem dX2_prepare_109 : decode cX2_prepare 109 = .ok (.aload_n 0, 1) := by decide +kernel
theorem dX2_prepare_110 : decode cX2_prepare 110 = .ok (.aload_n 0, 1) := by decide +kernel
theorem dX2_prepare_111 : decode cX2_prepare 111 = .ok (.getfield 11, 3) := by decide +kernel
theorem dX2_prepare_114 : decode cX2_prepare 114 = .ok (.aload_n 2, 1) := by decide +kernel
theorem dX2_prepare_115 : decode cX2_prepare 115 = .ok (.iconst 0, 1) := by decide +kernel
theorem dX2_prepare_116 : decode cX2_prepare 116 = .ok (.invokevirtual 73, 3) := by decide +kernel
theorem dX2_prepare_119 : decode cX2_prepare 119 = .ok (.aload_n 0, 1) := by decide +kernel
theorem dX2_prepare_120 : decode cX2_prepare 120 = .ok (.aload_n 0, 1) := by decide +kernel
theorem dX2_prepare_121 : decode cX2_prepare 121 = .ok (.getfield 15, 3) := by decide +kernel
theorem dX2_prepare_124 : decode cX2_prepare 124 = .ok (.aload_n 2, 1) := by decide +kernel
theorem dX2_prepare_125 : decode cX2_prepare 125 = .ok (.bipush 6, 2) := by decide +kernel
theorem dX2_prepare_127 : decode cX2_prepare 127 = .ok (.invokevirtual 73, 3) := by decide +kernel
theorem dX2_prepare_130 : decode cX2_prepare 130 = .ok (.return_, 1) := by decide +kernel
theorem dX2_fillSums_0 : decode cX2_fillSums 0 = .ok (.aload_n 1, 1) := by decide +kernel
theorem dX2_fillSums_1 : decode cX2_fillSums 1 = .ok (.iconst 0, 1) := by decide +kernel
theorem dX2_fillSums_2 : decode cX2_fillSums 2 = .ok (.iconst 0, 1) := by decide +kernel
theorem dX2_fillSums_3 : decode cX2_fillSums 3 = .ok (.iastore, 1) := by decide +kernel
theorem dX2_fillSums_4 : decode cX2_fillSums 4 = .ok (.iconst 0, 1) := by decide +kernel
theorem dX2_fillSums_5 : decode cX2_fillSums 5 = .ok (.istore 4, 2) := by decide +kernel
theorem dX2_fillSums_7 : decode cX2_fillSums 7 = .ok (.iload 4, 2) := by decide +kernel
theorem dX2_fillSums_9 : decode cX2_fillSums 9 = .ok (.bipush 6, 2) := by decide +kernel
theorem dX2_fillSums_11 : decode cX2_fillSums 11 = .ok (.if_icmp .ge 68, 3) := by decide +kernel
theorem dX2_fillSums_14 : decode cX2_fillSums 14 = .ok (.iload_n 3, 1) := by decide +kernel
theorem dX2_fillSums_15 : decode cX2_fillSums 15 = .ok (.iload 4, 2) := by decide +kernel
theorem dX2_fillSums_17 : decode cX2_fillSums 17 = .ok (.iadd, 1) := by decide +kernel
theorem dX2_fillSums_18 : decode cX2_fillSums 18 = .ok (.istore 5, 2) := by decide +kernel
theorem dX2_fillSums_20 : decode cX2_fillSums 20 = .ok (.iload 5, 2) := by decide +kernel
theorem dX2_fillSums_22 : decode cX2_fillSums 22 = .ok (.aload_n 0, 1) := by decide +kernel
theorem dX2_fillSums_23 : decode cX2_fillSums 23 = .ok (.getfield 57, 3) := by decide +kernel
theorem dX2_fillSums_26 : decode cX2_fillSums 26 = .ok (.if_icmp .ge 10, 3) := by decide +kernel
theorem dX2_fillSums_29 : decode cX2_fillSums 29 = .ok (.aload_n 2, 1) := by decide +kernel
theorem dX2_fillSums_30 : decode cX2_fillSums 30 = .ok (.iload 5, 2) := by decide +kernel
theorem dX2_fillSums_32 : decode cX2_fillSums 32 = .ok (.iaload, 1) := by decide +kernel
theorem dX2_fillSums_33 : decode cX2_fillSums 33 = .ok (.goto 4, 3) := by decide +kernel
theorem dX2_fillSums_36 : decode cX2_fillSums 36 = .ok (.iconst 0, 1) := by decide +kernel
theorem dX2_fillSums_37 : decode cX2_fillSums 37 = .ok (.istore 6, 2) := by decide +kernel
theorem dX2_fillSums_39 : decode cX2_fillSums 39 = .ok (.iconst 0, 1) := by decide +kernel
theorem dX2_fillSums_40 : decode cX2_fillSums 40 = .ok (.istore 7, 2) := by decide +kernel
theorem dX2_fillSums_42 : decode cX2_fillSums 42 = .ok (.iload 7, 2) := by decide +kernel
theorem dX2_fillSums_44 : decode cX2_fillSums 44 = .ok (.iconst 1, 1) := by decide +kernel
theorem dX2_fillSums_45 : decode cX2_fillSums 45 = .ok (.iload 4, 2) := by decide +kernel
theorem dX2_fillSums_47 : decode cX2_fillSums 47 = .ok (.ishl, 1) := by decide +kernel
theorem dX2_fillSums_48 : decode cX2_fillSums 48 = .ok (.if_icmp .ge 25, 3) := by decide +kernel
theorem dX2_fillSums_51 : decode cX2_fillSums 51 = .ok (.aload_n 1, 1) := by decide +kernel
theorem dX2_fillSums_52 : decode cX2_fillSums 52 = .ok (.iload 7, 2) := by decide +kernel
theorem dX2_fillSums_54 : decode cX2_fillSums 54 = .ok (.iconst 1, 1) := by decide +kernel
theorem dX2_fillSums_55 : decode cX2_fillSums 55 = .ok (.iload 4, 2) := by decide +kernel
theorem dX2_fillSums_57 : decode cX2_fillSums 57 = .ok (.ishl, 1) := by decide +kernel
theorem dX2_fillSums_58 : decode cX2_fillSums 58 = .ok (.ior, 1) := by decide +kernel
theorem dX2_fillSums_59 : decode cX2_fillSums 59 = .ok (.aload_n 1, 1) := by decide +kernel
theorem dX2_fillSums_60 : decode cX2_fillSums 60 = .ok (.iload 7, 2) := by decide +kernel
theorem dX2_fillSums_62 : decode cX2_fillSums 62 = .ok (.iaload, 1) := by decide +kernel
theorem dX2_fillSums_63 : decode cX2_fillSums 63 = .ok (.iload 6, 2) := by decide +kernel
theorem dX2_fillSums_65 : decode cX2_fillSums 65 = .ok (.iadd, 1) := by decide +kernel
theorem dX2_fillSums_66 : decode cX2_fillSums 66 = .ok (.iastore, 1) := by decide +kernel
theorem dX2_fillSums_67 : decode cX2_fillSums 67 = .ok (.iinc 7 1, 3) := by decide +kernel
theorem dX2_fillSums_70 : decode cX2_fillSums 70 = .ok (.goto (-28), 3) := by decide +kernel
theorem dX2_fillSums_73 : decode cX2_fillSums 73 = .ok (.iinc 4 1, 3) := by decide +kernel
theorem dX2_fillSums_76 : decode cX2_fillSums 76 = .ok (.goto (-69), 3) := by decide +kernel
theorem dX2_fillSums_79 : decode cX2_fillSums 79 = .ok (.return_, 1) := by decide +kernel
theorem dX2_sumOf_0 : decode cX2_sumOf 0 = .ok (.aload_n 0, 1) := by decide +kernel
theorem dX2_sumOf_1 : decode cX2_sumOf 1 = .ok (.getfield 11, 3) := by decide +kernel
theorem dX2_sumOf_4 : decode cX2_sumOf 4 = .ok (.iload_n 1, 1) := by decide +kernel
theorem dX2_sumOf_5 : decode cX2_sumOf 5 = .ok (.bipush 63, 2) := by decide +kernel
theorem dX2_sumOf_7 : decode cX2_sumOf 7 = .ok (.iand, 1) := by decide +kernel
theorem dX2_sumOf_8 : decode cX2_sumOf 8 = .ok (.iaload, 1) := by decide +kernel
theorem dX2_sumOf_9 : decode cX2_sumOf 9 = .ok (.aload_n 0, 1) := by decide +kernel
theorem dX2_sumOf_10 : decode cX2_sumOf 10 = .ok (.getfield 15, 3) := by decide +kernel
theorem dX2_sumOf_13 : decode cX2_sumOf 13 = .ok (.iload_n 1, 1) := by decide +kernel
theorem dX2_sumOf_14 : decode cX2_sumOf 14 = .ok (.bipush 6, 2) := by decide +kernel
theorem dX2_sumOf_16 : decode cX2_sumOf 16 = .ok (.ishr, 1) := by decide +kernel
theorem dX2_sumOf_17 : decode cX2_sumOf 17 = .ok (.bipush 63, 2) := by decide +kernel
theorem dX2_sumOf_19 : decode cX2_sumOf 19 = .ok (.iand, 1) := by decide +kernel
theorem dX2_sumOf_20 : decode cX2_sumOf 20 = .ok (.iaload, 1) := by decide +kernel
theorem dX2_sumOf_21 : decode cX2_sumOf 21 = .ok (.iadd, 1) := by decide +kernel
theorem dX2_sumOf_22 : decode cX2_sumOf 22 = .ok (.ireturn, 1) := by decide +kernel
theorem dX2_differenceOf_0 : decode cX2_differenceOf 0 = .ok (.aload_n 0, 1) := by decide +kernel
theorem dX2_differenceOf_1 : decode cX2_differenceOf 1 = .ok (.iload_n 1, 1) := by decide +kernel
theorem dX2_differenceOf_2 : decode cX2_differenceOf 2 = .ok (.invokevirtual 77, 3) := by decide +kernel
theorem dX2_differenceOf_5 : decode cX2_differenceOf 5 = .ok (.aload_n 0, 1) := by decide +kernel
theorem dX2_differenceOf_6 : decode cX2_differenceOf 6 = .ok (.aload_n 0, 1) := by decide +kernel
theorem dX2_differenceOf_7 : decode cX2_differenceOf 7 = .ok (.getfield 35, 3) := by decide +kernel
theorem dX2_differenceOf_10 : decode cX2_differenceOf 10 = .ok (.iload_n 1, 1) := by decide +kernel
theorem dX2_differenceOf_11 : decode cX2_differenceOf 11 = .ok (.iconst (-1), 1) := by decide +kernel
theorem dX2_differenceOf_12 : decode cX2_differenceOf 12 = .ok (.ixor, 1) := by decide +kernel
theorem dX2_differenceOf_13 : decode cX2_differenceOf 13 = .ok (.iand, 1) := by decide +kernel
theorem dX2_differenceOf_14 : decode cX2_differenceOf 14 = .ok (.invokevirtual 77, 3) := by decide +kernel
theorem dX2_differenceOf_17 : decode cX2_differenceOf 17 = .ok (.isub, 1) := by decide +kernel
theorem dX2_differenceOf_18 : decode cX2_differenceOf 18 = .ok (.invokestatic 80, 3) := by decide +kernel
theorem dX2_differenceOf_21 : decode cX2_differenceOf 21 = .ok (.ireturn, 1) := by decide +kernel
theorem dX2_bothHang_0 : decode cX2_bothHang 0 = .ok (.aload_n 0, 1) := by decide +kernel
theorem dX2_bothHang_1 : decode cX2_bothHang 1 = .ok (.iload_n 1, 1) := by decide +kernel
theorem dX2_bothHang_2 : decode cX2_bothHang 2 = .ok (.invokevirtual 85, 3) := by decide +kernel
theorem dX2_bothHang_5 : decode cX2_bothHang 5 = .ok (.ifCond .eq 22, 3) := by decide +kernel
theorem dX2_bothHang_8 : decode cX2_bothHang 8 = .ok (.aload_n 0, 1) := by decide +kernel
theorem dX2_bothHang_9 : decode cX2_bothHang 9 = .ok (.aload_n 0, 1) := by decide +kernel
theorem dX2_bothHang_10 : decode cX2_bothHang 10 = .ok (.getfield 35, 3) := by decide +kernel
theorem dX2_bothHang_13 : decode cX2_bothHang 13 = .ok (.iload_n 1, 1) := by decide +kernel
theorem dX2_bothHang_14 : decode cX2_bothHang 14 = .ok (.iconst (-1), 1) := by decide +kernel
theorem dX2_bothHang_15 : decode cX2_bothHang 15 = .ok (.ixor, 1) := by decide +kernel
theorem dX2_bothHang_16 : decode cX2_bothHang 16 = .ok (.iand, 1) := by decide +kernel
theorem dX2_bothHang_17 : decode cX2_bothHang 17 = .ok (.invokevirtual 85, 3) := by decide +kernel
theorem dX2_bothHang_20 : decode cX2_bothHang 20 = .ok (.ifCond .eq 7, 3) := by decide +kernel
theorem dX2_bothHang_23 : decode cX2_bothHang 23 = .ok (.iconst 1, 1) := by decide +kernel
theorem dX2_bothHang_24 : decode cX2_bothHang 24 = .ok (.goto 4, 3) := by decide +kernel
theorem dX2_bothHang_27 : decode cX2_bothHang 27 = .ok (.iconst 0, 1) := by decide +kernel
theorem dX2_bothHang_28 : decode cX2_bothHang 28 = .ok (.ireturn, 1) := by decide +kernel
theorem dX2_hangs_0 : decode cX2_hangs 0 = .ok (.iload_n 1, 1) := by decide +kernel
theorem dX2_hangs_1 : decode cX2_hangs 1 = .ok (.iload_n 1, 1) := by decide +kernel
theorem dX2_hangs_2 : decode cX2_hangs 2 = .ok (.ineg, 1) := by decide +kernel
theorem dX2_hangs_3 : decode cX2_hangs 3 = .ok (.iand, 1) := by decide +kernel
theorem dX2_hangs_4 : decode cX2_hangs 4 = .ok (.istore_n 2, 1) := by decide +kernel
theorem dX2_hangs_5 : decode cX2_hangs 5 = .ok (.iconst 0, 1) := by decide +kernel
theorem dX2_hangs_6 : decode cX2_hangs 6 = .ok (.istore_n 3, 1) := by decide +kernel
theorem dX2_hangs_7 : decode cX2_hangs 7 = .ok (.iload_n 3, 1) := by decide +kernel
theorem dX2_hangs_8 : decode cX2_hangs 8 = .ok (.bipush 12, 2) := by decide +kernel
theorem dX2_hangs_10 : decode cX2_hangs 10 = .ok (.if_icmp .ge 32, 3) := by decide +kernel
theorem dX2_hangs_13 : decode cX2_hangs 13 = .ok (.iload_n 2, 1) := by decide +kernel
theorem dX2_hangs_14 : decode cX2_hangs 14 = .ok (.aload_n 0, 1) := by decide +kernel
theorem dX2_hangs_15 : decode cX2_hangs 15 = .ok (.iload_n 2, 1) := by decide +kernel
theorem dX2_hangs_16 : decode cX2_hangs 16 = .ok (.invokevirtual 88, 3) := by decide +kernel
theorem dX2_hangs_19 : decode cX2_hangs 19 = .ok (.iload_n 1, 1) := by decide +kernel
theorem dX2_hangs_20 : decode cX2_hangs 20 = .ok (.iand, 1) := by decide +kernel
theorem dX2_hangs_21 : decode cX2_hangs 21 = .ok (.ior, 1) := by decide +kernel
theorem dX2_hangs_22 : decode cX2_hangs 22 = .ok (.istore 4, 2) := by decide +kernel
theorem dX2_hangs_24 : decode cX2_hangs 24 = .ok (.iload 4, 2) := by decide +kernel
theorem dX2_hangs_26 : decode cX2_hangs 26 = .ok (.iload_n 2, 1) := by decide +kernel
theorem dX2_hangs_27 : decode cX2_hangs 27 = .ok (.if_icmp .ne 6, 3) := by decide +kernel
theorem dX2_hangs_30 : decode cX2_hangs 30 = .ok (.goto 12, 3) := by decide +kernel
theorem dX2_hangs_33 : decode cX2_hangs 33 = .ok (.iload 4, 2) := by decide +kernel
theorem dX2_hangs_35 : decode cX2_hangs 35 = .ok (.istore_n 2, 1) := by decide +kernel
theorem dX2_hangs_36 : decode cX2_hangs 36 = .ok (.iinc 3 1, 3) := by decide +kernel
theorem dX2_hangs_39 : decode cX2_hangs 39 = .ok (.goto (-32), 3) := by decide +kernel
theorem dX2_hangs_42 : decode cX2_hangs 42 = .ok (.iload_n 2, 1) := by decide +kernel
theorem dX2_hangs_43 : decode cX2_hangs 43 = .ok (.iload_n 1, 1) := by decide +kernel
theorem dX2_hangs_44 : decode cX2_hangs 44 = .ok (.if_icmp .ne 7, 3) := by decide +kernel
theorem dX2_hangs_47 : decode cX2_hangs 47 = .ok (.iconst 1, 1) := by decide +kernel
theorem dX2_hangs_48 : decode cX2_hangs 48 = .ok (.goto 4, 3) := by decide +kernel
theorem dX2_hangs_51 : decode cX2_hangs 51 = .ok (.iconst 0, 1) := by decide +kernel
theorem dX2_hangs_52 : decode cX2_hangs 52 = .ok (.ireturn, 1) := by decide +kernel
theorem dX2_nextTo_0 : decode cX2_nextTo 0 = .ok (.iload_n 1, 1) := by decide +kernel
theorem dX2_nextTo_1 : decode cX2_nextTo 1 = .ok (.aload_n 0, 1) := by decide +kernel
theorem dX2_nextTo_2 : decode cX2_nextTo 2 = .ok (.getfield 67, 3) := by decide +kernel
theorem dX2_nextTo_5 : decode cX2_nextTo 5 = .ok (.iconst (-1), 1) := by decide +kernel
theorem dX2_nextTo_6 : decode cX2_nextTo 6 = .ok (.ixor, 1) := by decide +kernel
theorem dX2_nextTo_7 : decode cX2_nextTo 7 = .ok (.iand, 1) := by decide +kernel
theorem dX2_nextTo_8 : decode cX2_nextTo 8 = .ok (.iconst 1, 1) := by decide +kernel
theorem dX2_nextTo_9 : decode cX2_nextTo 9 = .ok (.ishl, 1) := by decide +kernel
theorem dX2_nextTo_10 : decode cX2_nextTo 10 = .ok (.istore_n 2, 1) := by decide +kernel
theorem dX2_nextTo_11 : decode cX2_nextTo 11 = .ok (.iload_n 1, 1) := by decide +kernel
theorem dX2_nextTo_12 : decode cX2_nextTo 12 = .ok (.aload_n 0, 1) := by decide +kernel
theorem dX2_nextTo_13 : decode cX2_nextTo 13 = .ok (.getfield 64, 3) := by decide +kernel
theorem dX2_nextTo_16 : decode cX2_nextTo 16 = .ok (.iconst (-1), 1) := by decide +kernel
theorem dX2_nextTo_17 : decode cX2_nextTo 17 = .ok (.ixor, 1) := by decide +kernel
theorem dX2_nextTo_18 : decode cX2_nextTo 18 = .ok (.iand, 1) := by decide +kernel
theorem dX2_nextTo_19 : decode cX2_nextTo 19 = .ok (.iconst 1, 1) := by decide +kernel
theorem dX2_nextTo_20 : decode cX2_nextTo 20 = .ok (.ishr, 1) := by decide +kernel
theorem dX2_nextTo_21 : decode cX2_nextTo 21 = .ok (.istore_n 3, 1) := by decide +kernel
theorem dX2_nextTo_22 : decode cX2_nextTo 22 = .ok (.iload_n 2, 1) := by decide +kernel
theorem dX2_nextTo_23 : decode cX2_nextTo 23 = .ok (.iload_n 3, 1) := by decide +kernel
theorem dX2_nextTo_24 : decode cX2_nextTo 24 = .ok (.ior, 1) := by decide +kernel
theorem dX2_nextTo_25 : decode cX2_nextTo 25 = .ok (.iload_n 1, 1) := by decide +kernel
theorem dX2_nextTo_26 : decode cX2_nextTo 26 = .ok (.aload_n 0, 1) := by decide +kernel
theorem dX2_nextTo_27 : decode cX2_nextTo 27 = .ok (.getfield 62, 3) := by decide +kernel
theorem dX2_nextTo_30 : decode cX2_nextTo 30 = .ok (.ishl, 1) := by decide +kernel
theorem dX2_nextTo_31 : decode cX2_nextTo 31 = .ok (.ior, 1) := by decide +kernel
theorem dX2_nextTo_32 : decode cX2_nextTo 32 = .ok (.iload_n 1, 1) := by decide +kernel
theorem dX2_nextTo_33 : decode cX2_nextTo 33 = .ok (.aload_n 0, 1) := by decide +kernel
theorem dX2_nextTo_34 : decode cX2_nextTo 34 = .ok (.getfield 62, 3) := by decide +kernel
theorem dX2_nextTo_37 : decode cX2_nextTo 37 = .ok (.ishr, 1) := by decide +kernel
theorem dX2_nextTo_38 : decode cX2_nextTo 38 = .ok (.ior, 1) := by decide +kernel
theorem dX2_nextTo_39 : decode cX2_nextTo 39 = .ok (.ireturn, 1) := by decide +kernel
theorem dX3_init_0 : decode cX3_init 0 = .ok (.aload_n 0, 1) := by decide +kernel
theorem dX3_init_1 : decode cX3_init 1 = .ok (.invokespecial 3, 3) := by decide +kernel
theorem dX3_init_4 : decode cX3_init 4 = .ok (.aload_n 0, 1) := by decide +kernel
theorem dX3_init_5 : decode cX3_init 5 = .ok (.iconst 3, 1) := by decide +kernel
theorem dX3_init_6 : decode cX3_init 6 = .ok (.newarray .int, 2) := by decide +kernel
theorem dX3_init_8 : decode cX3_init 8 = .ok (.dup, 1) := by decide +kernel
theorem dX3_init_9 : decode cX3_init 9 = .ok (.iconst 0, 1) := by decide +kernel
theorem dX3_init_10 : decode cX3_init 10 = .ok (.sipush 1000, 3) := by decide +kernel
theorem dX3_init_13 : decode cX3_init 13 = .ok (.iastore, 1) := by decide +kernel
theorem dX3_init_14 : decode cX3_init 14 = .ok (.dup, 1) := by decide +kernel
theorem dX3_init_15 : decode cX3_init 15 = .ok (.iconst 1, 1) := by decide +kernel
theorem dX3_init_16 : decode cX3_init 16 = .ok (.sipush 1000, 3) := by decide +kernel
theorem dX3_init_19 : decode cX3_init 19 = .ok (.iastore, 1) := by decide +kernel
theorem dX3_init_20 : decode cX3_init 20 = .ok (.dup, 1) := by decide +kernel
theorem dX3_init_21 : decode cX3_init 21 = .ok (.iconst 2, 1) := by decide +kernel
theorem dX3_init_22 : decode cX3_init 22 = .ok (.sipush 1000, 3) := by decide +kernel
theorem dX3_init_25 : decode cX3_init 25 = .ok (.iastore, 1) := by decide +kernel
theorem dX3_init_26 : decode cX3_init 26 = .ok (.putfield 9, 3) := by decide +kernel
theorem dX3_init_29 : decode cX3_init 29 = .ok (.aload_n 0, 1) := by decide +kernel
theorem dX3_init_30 : decode cX3_init 30 = .ok (.iconst 3, 1) := by decide +kernel
theorem dX3_init_31 : decode cX3_init 31 = .ok (.newarray .int, 2) := by decide +kernel
theorem dX3_init_33 : decode cX3_init 33 = .ok (.dup, 1) := by decide +kernel
theorem dX3_init_34 : decode cX3_init 34 = .ok (.iconst 0, 1) := by decide +kernel
theorem dX3_init_35 : decode cX3_init 35 = .ok (.bipush 10, 2) := by decide +kernel
theorem dX3_init_37 : decode cX3_init 37 = .ok (.iastore, 1) := by decide +kernel
theorem dX3_init_38 : decode cX3_init 38 = .ok (.dup, 1) := by decide +kernel
theorem dX3_init_39 : decode cX3_init 39 = .ok (.iconst 1, 1) := by decide +kernel
theorem dX3_init_40 : decode cX3_init 40 = .ok (.bipush 20, 2) := by decide +kernel
theorem dX3_init_42 : decode cX3_init 42 = .ok (.iastore, 1) := by decide +kernel
theorem dX3_init_43 : decode cX3_init 43 = .ok (.dup, 1) := by decide +kernel
theorem dX3_init_44 : decode cX3_init 44 = .ok (.iconst 2, 1) := by decide +kernel
theorem dX3_init_45 : decode cX3_init 45 = .ok (.bipush 30, 2) := by decide +kernel
theorem dX3_init_47 : decode cX3_init 47 = .ok (.iastore, 1) := by decide +kernel
theorem dX3_init_48 : decode cX3_init 48 = .ok (.putfield 15, 3) := by decide +kernel
theorem dX3_init_51 : decode cX3_init 51 = .ok (.aload_n 0, 1) := by decide +kernel
theorem dX3_init_52 : decode cX3_init 52 = .ok (.bipush 12, 2) := by decide +kernel
theorem dX3_init_54 : decode cX3_init 54 = .ok (.newarray .int, 2) := by decide +kernel
theorem dX3_init_56 : decode cX3_init 56 = .ok (.putfield 18, 3) := by decide +kernel
theorem dX3_init_59 : decode cX3_init 59 = .ok (.aload_n 0, 1) := by decide +kernel
theorem dX3_init_60 : decode cX3_init 60 = .ok (.sipush 1625, 3) := by decide +kernel
theorem dX3_init_63 : decode cX3_init 63 = .ok (.newarray .int, 2) := by decide +kernel
theorem dX3_init_65 : decode cX3_init 65 = .ok (.putfield 21, 3) := by decide +kernel
theorem dX3_init_68 : decode cX3_init 68 = .ok (.return_, 1) := by decide +kernel
theorem dX3_changeNeed_0 : decode cX3_changeNeed 0 = .ok (.aload_n 0, 1) := by decide +kernel
theorem dX3_changeNeed_1 : decode cX3_changeNeed 1 = .ok (.getfield 9, 3) := by decide +kernel
theorem dX3_changeNeed_4 : decode cX3_changeNeed 4 = .ok (.iload_n 1, 1) := by decide +kernel
theorem dX3_changeNeed_5 : decode cX3_changeNeed 5 = .ok (.iaload, 1) := by decide +kernel
theorem dX3_changeNeed_6 : decode cX3_changeNeed 6 = .ok (.istore_n 3, 1) := by decide +kernel
theorem dX3_changeNeed_7 : decode cX3_changeNeed 7 = .ok (.aload_n 0, 1) := by decide +kernel
theorem dX3_changeNeed_8 : decode cX3_changeNeed 8 = .ok (.getfield 9, 3) := by decide +kernel
theorem dX3_changeNeed_11 : decode cX3_changeNeed 11 = .ok (.iload_n 1, 1) := by decide +kernel
theorem dX3_changeNeed_12 : decode cX3_changeNeed 12 = .ok (.iload_n 2, 1) := by decide +kernel
theorem dX3_changeNeed_13 : decode cX3_changeNeed 13 = .ok (.iastore, 1) := by decide +kernel
theorem dX3_changeNeed_14 : decode cX3_changeNeed 14 = .ok (.iload_n 3, 1) := by decide +kernel
theorem dX3_changeNeed_15 : decode cX3_changeNeed 15 = .ok (.ireturn, 1) := by decide +kernel
theorem dX3_changePay_0 : decode cX3_changePay 0 = .ok (.aload_n 0, 1) := by decide +kernel
theorem dX3_changePay_1 : decode cX3_changePay 1 = .ok (.getfield 15, 3) := by decide +kernel
theorem dX3_changePay_4 : decode cX3_changePay 4 = .ok (.iload_n 1, 1) := by decide +kernel
theorem dX3_changePay_5 : decode cX3_changePay 5 = .ok (.iaload, 1) := by decide +kernel
theorem dX3_changePay_6 : decode cX3_changePay 6 = .ok (.istore_n 3, 1) := by decide +kernel
theorem dX3_changePay_7 : decode cX3_changePay 7 = .ok (.aload_n 0, 1) := by decide +kernel
theorem dX3_changePay_8 : decode cX3_changePay 8 = .ok (.getfield 15, 3) := by decide +kernel
theorem dX3_changePay_11 : decode cX3_changePay 11 = .ok (.iload_n 1, 1) := by decide +kernel
theorem dX3_changePay_12 : decode cX3_changePay 12 = .ok (.iload_n 2, 1) := by decide +kernel
theorem dX3_changePay_13 : decode cX3_changePay 13 = .ok (.iastore, 1) := by decide +kernel
theorem dX3_changePay_14 : decode cX3_changePay 14 = .ok (.iload_n 3, 1) := by decide +kernel
theorem dX3_changePay_15 : decode cX3_changePay 15 = .ok (.ireturn, 1) := by decide +kernel
theorem dX3_mostPaid_0 : decode cX3_mostPaid 0 = .ok (.aload_n 0, 1) := by decide +kernel
theorem dX3_mostPaid_1 : decode cX3_mostPaid 1 = .ok (.getfield 21, 3) := by decide +kernel
theorem dX3_mostPaid_4 : decode cX3_mostPaid 4 = .ok (.iconst 0, 1) := by decide +kernel
theorem dX3_mostPaid_5 : decode cX3_mostPaid 5 = .ok (.iaload, 1) := by decide +kernel
theorem dX3_mostPaid_6 : decode cX3_mostPaid 6 = .ok (.ireturn, 1) := by decide +kernel
theorem dX3_sortOn_0 : decode cX3_sortOn 0 = .ok (.aload_n 0, 1) := by decide +kernel
theorem dX3_sortOn_1 : decode cX3_sortOn 1 = .ok (.getfield 18, 3) := by decide +kernel
theorem dX3_sortOn_4 : decode cX3_sortOn 4 = .ok (.iload_n 1, 1) := by decide +kernel
theorem dX3_sortOn_5 : decode cX3_sortOn 5 = .ok (.iaload, 1) := by decide +kernel
theorem dX3_sortOn_6 : decode cX3_sortOn 6 = .ok (.ireturn, 1) := by decide +kernel
theorem dX3_plant_0 : decode cX3_plant 0 = .ok (.iconst 0, 1) := by decide +kernel
theorem dX3_plant_1 : decode cX3_plant 1 = .ok (.istore_n 3, 1) := by decide +kernel
theorem dX3_plant_2 : decode cX3_plant 2 = .ok (.iload_n 3, 1) := by decide +kernel
theorem dX3_plant_3 : decode cX3_plant 3 = .ok (.bipush 125, 2) := by decide +kernel
theorem dX3_plant_5 : decode cX3_plant 5 = .ok (.if_icmp .ge 21, 3) := by decide +kernel
theorem dX3_plant_8 : decode cX3_plant 8 = .ok (.aload_n 0, 1) := by decide +kernel
theorem dX3_plant_9 : decode cX3_plant 9 = .ok (.getfield 21, 3) := by decide +kernel
theorem dX3_plant_12 : decode cX3_plant 12 = .ok (.iload_n 2, 1) := by decide +kernel
theorem dX3_plant_13 : decode cX3_plant 13 = .ok (.bipush 125, 2) := by decide +kernel
theorem dX3_plant_15 : decode cX3_plant 15 = .ok (.imul, 1) := by decide +kernel
theorem dX3_plant_16 : decode cX3_plant 16 = .ok (.iload_n 3, 1) := by decide +kernel
theorem dX3_plant_17 : decode cX3_plant 17 = .ok (.iadd, 1) := by decide +kernel
theorem dX3_plant_18 : decode cX3_plant 18 = .ok (.iconst 0, 1) := by decide +kernel
theorem dX3_plant_19 : decode cX3_plant 19 = .ok (.iastore, 1) := by decide +kernel
theorem dX3_plant_20 : decode cX3_plant 20 = .ok (.iinc 3 1, 3) := by decide +kernel
theorem dX3_plant_23 : decode cX3_plant 23 = .ok (.goto (-21), 3) := by decide +kernel
theorem dX3_plant_26 : decode cX3_plant 26 = .ok (.iload_n 2, 1) := by decide +kernel
theorem dX3_plant_27 : decode cX3_plant 27 = .ok (.iconst 1, 1) := by decide +kernel
theorem dX3_plant_28 : decode cX3_plant 28 = .ok (.isub, 1) := by decide +kernel
theorem dX3_plant_29 : decode cX3_plant 29 = .ok (.istore_n 3, 1) := by decide +kernel
theorem dX3_plant_30 : decode cX3_plant 30 = .ok (.iload_n 3, 1) := by decide +kernel
theorem dX3_plant_31 : decode cX3_plant 31 = .ok (.ifCond .lt 47, 3) := by decide +kernel
theorem dX3_plant_34 : decode cX3_plant 34 = .ok (.iconst 0, 1) := by decide +kernel
theorem dX3_plant_35 : decode cX3_plant 35 = .ok (.istore 4, 2) := by decide +kernel
theorem dX3_plant_37 : decode cX3_plant 37 = .ok (.iload 4, 2) := by decide +kernel
theorem dX3_plant_39 : decode cX3_plant 39 = .ok (.bipush 125, 2) := by decide +kernel
theorem dX3_plant_41 : decode cX3_plant 41 = .ok (.if_icmp .ge 31, 3) := by decide +kernel
theorem dX3_plant_44 : decode cX3_plant 44 = .ok (.aload_n 0, 1) := by decide +kernel
theorem dX3_plant_45 : decode cX3_plant 45 = .ok (.getfield 21, 3) := by decide +kernel
theorem dX3_plant_48 : decode cX3_plant 48 = .ok (.iload_n 3, 1) := by decide +kernel
theorem dX3_plant_49 : decode cX3_plant 49 = .ok (.bipush 125, 2) := by decide +kernel
theorem dX3_plant_51 : decode cX3_plant 51 = .ok (.imul, 1) := by decide +kernel
theorem dX3_plant_52 : decode cX3_plant 52 = .ok (.iload 4, 2) := by decide +kernel
theorem dX3_plant_54 : decode cX3_plant 54 = .ok (.iadd, 1) := by decide +kernel
theorem dX3_plant_55 : decode cX3_plant 55 = .ok (.aload_n 0, 1) := by decide +kernel
theorem dX3_plant_56 : decode cX3_plant 56 = .ok (.iload_n 3, 1) := by decide +kernel
theorem dX3_plant_57 : decode cX3_plant 57 = .ok (.iload 4, 2) := by decide +kernel
theorem dX3_plant_59 : decode cX3_plant 59 = .ok (.aload_n 1, 1) := by decide +kernel
theorem dX3_plant_60 : decode cX3_plant 60 = .ok (.iload_n 3, 1) := by decide +kernel
theorem dX3_plant_61 : decode cX3_plant 61 = .ok (.iaload, 1) := by decide +kernel
theorem dX3_plant_62 : decode cX3_plant 62 = .ok (.invokevirtual 24, 3) := by decide +kernel
theorem dX3_plant_65 : decode cX3_plant 65 = .ok (.iastore, 1) := by decide +kernel
theorem dX3_plant_66 : decode cX3_plant 66 = .ok (.iinc 4 1, 3) := by decide +kernel
theorem dX3_plant_69 : decode cX3_plant 69 = .ok (.goto (-32), 3) := by decide +kernel
theorem dX3_plant_72 : decode cX3_plant 72 = .ok (.iinc 3 (-1), 3) := by decide +kernel
theorem dX3_plant_75 : decode cX3_plant 75 = .ok (.goto (-45), 3) := by decide +kernel
theorem dX3_plant_78 : decode cX3_plant 78 = .ok (.iconst 0, 1) := by decide +kernel
theorem dX3_plant_79 : decode cX3_plant 79 = .ok (.istore_n 3, 1) := by decide +kernel
theorem dX3_plant_80 : decode cX3_plant 80 = .ok (.iconst 0, 1) := by decide +kernel
theorem dX3_plant_81 : decode cX3_plant 81 = .ok (.istore 4, 2) := by decide +kernel
theorem dX3_plant_83 : decode cX3_plant 83 = .ok (.iload 4, 2) := by decide +kernel
theorem dX3_plant_85 : decode cX3_plant 85 = .ok (.iload_n 2, 1) := by decide +kernel
theorem dX3_plant_86 : decode cX3_plant 86 = .ok (.if_icmp .ge 40, 3) := by decide +kernel
theorem dX3_plant_89 : decode cX3_plant 89 = .ok (.aload_n 0, 1) := by decide +kernel
theorem dX3_plant_90 : decode cX3_plant 90 = .ok (.getfield 18, 3) := by decide +kernel
theorem dX3_plant_93 : decode cX3_plant 93 = .ok (.iload 4, 2) := by decide +kernel
theorem dX3_plant_95 : decode cX3_plant 95 = .ok (.aload_n 0, 1) := by decide +kernel
theorem dX3_plant_96 : decode cX3_plant 96 = .ok (.iload 4, 2) := by decide +kernel
theorem dX3_plant_98 : decode cX3_plant 98 = .ok (.iload_n 3, 1) := by decide +kernel
theorem dX3_plant_99 : decode cX3_plant 99 = .ok (.aload_n 1, 1) := by decide +kernel
theorem dX3_plant_100 : decode cX3_plant 100 = .ok (.iload 4, 2) := by decide +kernel
theorem dX3_plant_102 : decode cX3_plant 102 = .ok (.iaload, 1) := by decide +kernel
theorem dX3_plant_103 : decode cX3_plant 103 = .ok (.invokevirtual 28, 3) := by decide +kernel
theorem dX3_plant_106 : decode cX3_plant 106 = .ok (.iastore, 1) := by decide +kernel
theorem dX3_plant_107 : decode cX3_plant 107 = .ok (.iload_n 3, 1) := by decide +kernel
theorem dX3_plant_108 : decode cX3_plant 108 = .ok (.aload_n 0, 1) := by decide +kernel
theorem dX3_plant_109 : decode cX3_plant 109 = .ok (.getfield 18, 3) := by decide +kernel
theorem dX3_plant_112 : decode cX3_plant 112 = .ok (.iload 4, 2) := by decide +kernel
theorem dX3_plant_114 : decode cX3_plant 114 = .ok (.iaload, 1) := by decide +kernel
theorem dX3_plant_115 : decode cX3_plant 115 = .ok (.invokestatic 31, 3) := by decide +kernel
theorem dX3_plant_118 : decode cX3_plant 118 = .ok (.iadd, 1) := by decide +kernel
theorem dX3_plant_119 : decode cX3_plant 119 = .ok (.istore_n 3, 1) := by decide +kernel
theorem dX3_plant_120 : decode cX3_plant 120 = .ok (.iinc 4 1, 3) := by decide +kernel
theorem dX3_plant_123 : decode cX3_plant 123 = .ok (.goto (-40), 3) := by decide +kernel
theorem dX3_plant_126 : decode cX3_plant 126 = .ok (.return_, 1) := by decide +kernel
theorem dX3_bestFrom_0 : decode cX3_bestFrom 0 = .ok (.aload_n 0, 1) := by decide +kernel
theorem dX3_bestFrom_1 : decode cX3_bestFrom 1 = .ok (.iload_n 1, 1) := by decide +kernel
theorem dX3_bestFrom_2 : decode cX3_bestFrom 2 = .ok (.iload_n 2, 1) := by decide +kernel
theorem dX3_bestFrom_3 : decode cX3_bestFrom 3 = .ok (.iconst (-1), 1) := by decide +kernel
theorem dX3_bestFrom_4 : decode cX3_bestFrom 4 = .ok (.invokevirtual 35, 3) := by decide +kernel
theorem dX3_bestFrom_7 : decode cX3_bestFrom 7 = .ok (.istore 4, 2) := by decide +kernel
theorem dX3_bestFrom_9 : decode cX3_bestFrom 9 = .ok (.iconst 0, 1) := by decide +kernel
theorem dX3_bestFrom_10 : decode cX3_bestFrom 10 = .ok (.istore 5, 2) := by decide +kernel
theorem dX3_bestFrom_12 : decode cX3_bestFrom 12 = .ok (.iload 5, 2) := by decide +kernel
theorem dX3_bestFrom_14 : decode cX3_bestFrom 14 = .ok (.iconst 3, 1) := by decide +kernel
theorem dX3_bestFrom_15 : decode cX3_bestFrom 15 = .ok (.if_icmp .ge 35, 3) := by decide +kernel
theorem dX3_bestFrom_18 : decode cX3_bestFrom 18 = .ok (.aload_n 0, 1) := by decide +kernel
theorem dX3_bestFrom_19 : decode cX3_bestFrom 19 = .ok (.iload_n 2, 1) := by decide +kernel
theorem dX3_bestFrom_20 : decode cX3_bestFrom 20 = .ok (.iload 5, 2) := by decide +kernel
theorem dX3_bestFrom_22 : decode cX3_bestFrom 22 = .ok (.iload_n 3, 1) := by decide +kernel
theorem dX3_bestFrom_23 : decode cX3_bestFrom 23 = .ok (.invokevirtual 38, 3) := by decide +kernel
theorem dX3_bestFrom_26 : decode cX3_bestFrom 26 = .ok (.ifCond .eq 18, 3) := by decide +kernel
theorem dX3_bestFrom_29 : decode cX3_bestFrom 29 = .ok (.iload 4, 2) := by decide +kernel
theorem dX3_bestFrom_31 : decode cX3_bestFrom 31 = .ok (.aload_n 0, 1) := by decide +kernel
theorem dX3_bestFrom_32 : decode cX3_bestFrom 32 = .ok (.iload_n 1, 1) := by decide +kernel
theorem dX3_bestFrom_33 : decode cX3_bestFrom 33 = .ok (.iload_n 2, 1) := by decide +kernel
theorem dX3_bestFrom_34 : decode cX3_bestFrom 34 = .ok (.iload 5, 2) := by decide +kernel
theorem dX3_bestFrom_36 : decode cX3_bestFrom 36 = .ok (.invokevirtual 35, 3) := by decide +kernel
theorem dX3_bestFrom_39 : decode cX3_bestFrom 39 = .ok (.invokestatic 42, 3) := by decide +kernel
theorem dX3_bestFrom_42 : decode cX3_bestFrom 42 = .ok (.istore 4, 2) := by decide +kernel
theorem dX3_bestFrom_44 : decode cX3_bestFrom 44 = .ok (.iinc 5 1, 3) := by decide +kernel
theorem dX3_bestFrom_47 : decode cX3_bestFrom 47 = .ok (.goto (-35), 3) := by decide +kernel
theorem dX3_bestFrom_50 : decode cX3_bestFrom 50 = .ok (.iload 4, 2) := by decide +kernel
theorem dX3_bestFrom_52 : decode cX3_bestFrom 52 = .ok (.ireturn, 1) := by decide +kernel
theorem dX3_leastSort_0 : decode cX3_leastSort 0 = .ok (.aload_n 0, 1) := by decide +kernel
theorem dX3_leastSort_1 : decode cX3_leastSort 1 = .ok (.getfield 21, 3) := by decide +kernel
theorem dX3_leastSort_4 : decode cX3_leastSort 4 = .ok (.iload_n 1, 1) := by decide +kernel
theorem dX3_leastSort_5 : decode cX3_leastSort 5 = .ok (.bipush 125, 2) := by decide +kernel
theorem dX3_leastSort_7 : decode cX3_leastSort 7 = .ok (.imul, 1) := by decide +kernel
theorem dX3_leastSort_8 : decode cX3_leastSort 8 = .ok (.iload_n 2, 1) := by decide +kernel
theorem dX3_leastSort_9 : decode cX3_leastSort 9 = .ok (.iadd, 1) := by decide +kernel
theorem dX3_leastSort_10 : decode cX3_leastSort 10 = .ok (.iaload, 1) := by decide +kernel
theorem dX3_leastSort_11 : decode cX3_leastSort 11 = .ok (.istore 4, 2) := by decide +kernel
theorem dX3_leastSort_13 : decode cX3_leastSort 13 = .ok (.aload_n 0, 1) := by decide +kernel
theorem dX3_leastSort_14 : decode cX3_leastSort 14 = .ok (.iload_n 1, 1) := by decide +kernel
theorem dX3_leastSort_15 : decode cX3_leastSort 15 = .ok (.iload_n 2, 1) := by decide +kernel
theorem dX3_leastSort_16 : decode cX3_leastSort 16 = .ok (.iconst (-1), 1) := by decide +kernel
theorem dX3_leastSort_17 : decode cX3_leastSort 17 = .ok (.invokevirtual 35, 3) := by decide +kernel
theorem dX3_leastSort_20 : decode cX3_leastSort 20 = .ok (.iload 4, 2) := by decide +kernel
theorem dX3_leastSort_22 : decode cX3_leastSort 22 = .ok (.if_icmp .ne 5, 3) := by decide +kernel
theorem dX3_leastSort_25 : decode cX3_leastSort 25 = .ok (.iconst (-1), 1) := by decide +kernel
theorem dX3_leastSort_26 : decode cX3_leastSort 26 = .ok (.ireturn, 1) := by decide +kernel
theorem dX3_leastSort_27 : decode cX3_leastSort 27 = .ok (.iconst 0, 1) := by decide +kernel
theorem dX3_leastSort_28 : decode cX3_leastSort 28 = .ok (.istore 5, 2) := by decide +kernel
theorem dX3_leastSort_30 : decode cX3_leastSort 30 = .ok (.iload 5, 2) := by decide +kernel
theorem dX3_leastSort_32 : decode cX3_leastSort 32 = .ok (.iconst 3, 1) := by decide +kernel
theorem dX3_leastSort_33 : decode cX3_leastSort 33 = .ok (.if_icmp .ge 36, 3) := by decide +kernel
theorem dX3_leastSort_36 : decode cX3_leastSort 36 = .ok (.aload_n 0, 1) := by decide +kernel
theorem dX3_leastSort_37 : decode cX3_leastSort 37 = .ok (.iload_n 2, 1) := by decide +kernel
theorem dX3_leastSort_38 : decode cX3_leastSort 38 = .ok (.iload 5, 2) := by decide +kernel
theorem dX3_leastSort_40 : decode cX3_leastSort 40 = .ok (.iload_n 3, 1) := by decide +kernel
theorem dX3_leastSort_41 : decode cX3_leastSort 41 = .ok (.invokevirtual 38, 3) := by decide +kernel
theorem dX3_leastSort_44 : decode cX3_leastSort 44 = .ok (.ifCond .eq 19, 3) := by decide +kernel
theorem dX3_leastSort_47 : decode cX3_leastSort 47 = .ok (.aload_n 0, 1) := by decide +kernel
theorem dX3_leastSort_48 : decode cX3_leastSort 48 = .ok (.iload_n 1, 1) := by decide +kernel
theorem dX3_leastSort_49 : decode cX3_leastSort 49 = .ok (.iload_n 2, 1) := by decide +kernel
theorem dX3_leastSort_50 : decode cX3_leastSort 50 = .ok (.iload 5, 2) := by decide +kernel
theorem dX3_leastSort_52 : decode cX3_leastSort 52 = .ok (.invokevirtual 35, 3) := by decide +kernel
theorem dX3_leastSort_55 : decode cX3_leastSort 55 = .ok (.iload 4, 2) := by decide +kernel
theorem dX3_leastSort_57 : decode cX3_leastSort 57 = .ok (.if_icmp .ne 6, 3) := by decide +kernel
theorem dX3_leastSort_60 : decode cX3_leastSort 60 = .ok (.iload 5, 2) := by decide +kernel
theorem dX3_leastSort_62 : decode cX3_leastSort 62 = .ok (.ireturn, 1) := by decide +kernel
theorem dX3_leastSort_63 : decode cX3_leastSort 63 = .ok (.iinc 5 1, 3) := by decide +kernel
theorem dX3_leastSort_66 : decode cX3_leastSort 66 = .ok (.goto (-36), 3) := by decide +kernel
theorem dX3_leastSort_69 : decode cX3_leastSort 69 = .ok (.iconst (-1), 1) := by decide +kernel
theorem dX3_leastSort_70 : decode cX3_leastSort 70 = .ok (.ireturn, 1) := by decide +kernel
theorem dX3_mayStand_0 : decode cX3_mayStand 0 = .ok (.iload_n 3, 1) := by decide +kernel
theorem dX3_mayStand_1 : decode cX3_mayStand 1 = .ok (.aload_n 0, 1) := by decide +kernel
theorem dX3_mayStand_2 : decode cX3_mayStand 2 = .ok (.getfield 9, 3) := by decide +kernel
theorem dX3_mayStand_5 : decode cX3_mayStand 5 = .ok (.iload_n 2, 1) := by decide +kernel
theorem dX3_mayStand_6 : decode cX3_mayStand 6 = .ok (.iaload, 1) := by decide +kernel
theorem dX3_mayStand_7 : decode cX3_mayStand 7 = .ok (.if_icmp .lt 16, 3) := by decide +kernel
theorem dX3_mayStand_10 : decode cX3_mayStand 10 = .ok (.iload_n 1, 1) := by decide +kernel
theorem dX3_mayStand_11 : decode cX3_mayStand 11 = .ok (.iload_n 2, 1) := by decide +kernel
theorem dX3_mayStand_12 : decode cX3_mayStand 12 = .ok (.invokestatic 48, 3) := by decide +kernel
theorem dX3_mayStand_15 : decode cX3_mayStand 15 = .ok (.iconst 4, 1) := by decide +kernel
theorem dX3_mayStand_16 : decode cX3_mayStand 16 = .ok (.if_icmp .ge 7, 3) := by decide +kernel
theorem dX3_mayStand_19 : decode cX3_mayStand 19 = .ok (.iconst 1, 1) := by decide +kernel
theorem dX3_mayStand_20 : decode cX3_mayStand 20 = .ok (.goto 4, 3) := by decide +kernel
theorem dX3_mayStand_23 : decode cX3_mayStand 23 = .ok (.iconst 0, 1) := by decide +kernel
theorem dX3_mayStand_24 : decode cX3_mayStand 24 = .ok (.ireturn, 1) := by decide +kernel
theorem dX3_payFrom_0 : decode cX3_payFrom 0 = .ok (.aload_n 0, 1) := by decide +kernel
theorem dX3_payFrom_1 : decode cX3_payFrom 1 = .ok (.getfield 21, 3) := by decide +kernel
theorem dX3_payFrom_4 : decode cX3_payFrom 4 = .ok (.iload_n 1, 1) := by decide +kernel
theorem dX3_payFrom_5 : decode cX3_payFrom 5 = .ok (.iconst 1, 1) := by decide +kernel
theorem dX3_payFrom_6 : decode cX3_payFrom 6 = .ok (.iadd, 1) := by decide +kernel
theorem dX3_payFrom_7 : decode cX3_payFrom 7 = .ok (.bipush 125, 2) := by decide +kernel
theorem dX3_payFrom_9 : decode cX3_payFrom 9 = .ok (.imul, 1) := by decide +kernel
theorem dX3_payFrom_10 : decode cX3_payFrom 10 = .ok (.iload_n 2, 1) := by decide +kernel
theorem dX3_payFrom_11 : decode cX3_payFrom 11 = .ok (.iadd, 1) := by decide +kernel
theorem dX3_payFrom_12 : decode cX3_payFrom 12 = .ok (.iload_n 3, 1) := by decide +kernel
theorem dX3_payFrom_13 : decode cX3_payFrom 13 = .ok (.invokestatic 31, 3) := by decide +kernel
theorem dX3_payFrom_16 : decode cX3_payFrom 16 = .ok (.iadd, 1) := by decide +kernel
theorem dX3_payFrom_17 : decode cX3_payFrom 17 = .ok (.iaload, 1) := by decide +kernel
theorem dX3_payFrom_18 : decode cX3_payFrom 18 = .ok (.istore 4, 2) := by decide +kernel
theorem dX3_payFrom_20 : decode cX3_payFrom 20 = .ok (.iload_n 3, 1) := by decide +kernel
theorem dX3_payFrom_21 : decode cX3_payFrom 21 = .ok (.iconst (-1), 1) := by decide +kernel
theorem dX3_payFrom_22 : decode cX3_payFrom 22 = .ok (.if_icmp .ne 8, 3) := by decide +kernel
theorem dX3_payFrom_25 : decode cX3_payFrom 25 = .ok (.iload 4, 2) := by decide +kernel
theorem dX3_payFrom_27 : decode cX3_payFrom 27 = .ok (.goto 12, 3) := by decide +kernel
theorem dX3_payFrom_30 : decode cX3_payFrom 30 = .ok (.aload_n 0, 1) := by decide +kernel
theorem dX3_payFrom_31 : decode cX3_payFrom 31 = .ok (.getfield 15, 3) := by decide +kernel
theorem dX3_payFrom_34 : decode cX3_payFrom 34 = .ok (.iload_n 3, 1) := by decide +kernel
theorem dX3_payFrom_35 : decode cX3_payFrom 35 = .ok (.iaload, 1) := by decide +kernel
theorem dX3_payFrom_36 : decode cX3_payFrom 36 = .ok (.iload 4, 2) := by decide +kernel
theorem dX3_payFrom_38 : decode cX3_payFrom 38 = .ok (.iadd, 1) := by decide +kernel
theorem dX3_payFrom_39 : decode cX3_payFrom 39 = .ok (.ireturn, 1) := by decide +kernel
theorem dX3_standAhead_0 : decode cX3_standAhead 0 = .ok (.iload_n 1, 1) := by decide +kernel
theorem dX3_standAhead_1 : decode cX3_standAhead 1 = .ok (.ifCond .ne 7, 3) := by decide +kernel
theorem dX3_standAhead_4 : decode cX3_standAhead 4 = .ok (.iload_n 0, 1) := by decide +kernel
theorem dX3_standAhead_5 : decode cX3_standAhead 5 = .ok (.iconst 5, 1) := by decide +kernel
theorem dX3_standAhead_6 : decode cX3_standAhead 6 = .ok (.irem, 1) := by decide +kernel
theorem dX3_standAhead_7 : decode cX3_standAhead 7 = .ok (.ireturn, 1) := by decide +kernel
theorem dX3_standAhead_8 : decode cX3_standAhead 8 = .ok (.iload_n 1, 1) := by decide +kernel
theorem dX3_standAhead_9 : decode cX3_standAhead 9 = .ok (.iconst 1, 1) := by decide +kernel
theorem dX3_standAhead_10 : decode cX3_standAhead 10 = .ok (.if_icmp .ne 11, 3) := by decide +kernel
theorem dX3_standAhead_13 : decode cX3_standAhead 13 = .ok (.iload_n 0, 1) := by decide +kernel
theorem dX3_standAhead_14 : decode cX3_standAhead 14 = .ok (.iconst 5, 1) := by decide +kernel
theorem dX3_standAhead_15 : decode cX3_standAhead 15 = .ok (.idiv, 1) := by decide +kernel
theorem dX3_standAhead_16 : decode cX3_standAhead 16 = .ok (.iconst 5, 1) := by decide +kernel
theorem dX3_standAhead_17 : decode cX3_standAhead 17 = .ok (.irem, 1) := by decide +kernel
theorem dX3_standAhead_18 : decode cX3_standAhead 18 = .ok (.goto 7, 3) := by decide +kernel
theorem dX3_standAhead_21 : decode cX3_standAhead 21 = .ok (.iload_n 0, 1) := by decide +kernel
theorem dX3_standAhead_22 : decode cX3_standAhead 22 = .ok (.bipush 25, 2) := by decide +kernel
theorem dX3_standAhead_24 : decode cX3_standAhead 24 = .ok (.idiv, 1) := by decide +kernel
theorem dX3_standAhead_25 : decode cX3_standAhead 25 = .ok (.ireturn, 1) := by decide +kernel
theorem dX3_weightOf_0 : decode cX3_weightOf 0 = .ok (.iload_n 0, 1) := by decide +kernel
theorem dX3_weightOf_1 : decode cX3_weightOf 1 = .ok (.iconst (-1), 1) := by decide +kernel
theorem dX3_weightOf_2 : decode cX3_weightOf 2 = .ok (.if_icmp .ne 5, 3) := by decide +kernel
theorem dX3_weightOf_5 : decode cX3_weightOf 5 = .ok (.iconst 0, 1) := by decide +kernel
theorem dX3_weightOf_6 : decode cX3_weightOf 6 = .ok (.ireturn, 1) := by decide +kernel
theorem dX3_weightOf_7 : decode cX3_weightOf 7 = .ok (.iload_n 0, 1) := by decide +kernel
theorem dX3_weightOf_8 : decode cX3_weightOf 8 = .ok (.ifCond .ne 5, 3) := by decide +kernel
theorem dX3_weightOf_11 : decode cX3_weightOf 11 = .ok (.iconst 1, 1) := by decide +kernel
theorem dX3_weightOf_12 : decode cX3_weightOf 12 = .ok (.ireturn, 1) := by decide +kernel
theorem dX3_weightOf_13 : decode cX3_weightOf 13 = .ok (.iload_n 0, 1) := by decide +kernel
theorem dX3_weightOf_14 : decode cX3_weightOf 14 = .ok (.iconst 1, 1) := by decide +kernel
theorem dX3_weightOf_15 : decode cX3_weightOf 15 = .ok (.if_icmp .ne 7, 3) := by decide +kernel
theorem dX3_weightOf_18 : decode cX3_weightOf 18 = .ok (.iconst 5, 1) := by decide +kernel
theorem dX3_weightOf_19 : decode cX3_weightOf 19 = .ok (.goto 5, 3) := by decide +kernel
theorem dX3_weightOf_22 : decode cX3_weightOf 22 = .ok (.bipush 25, 2) := by decide +kernel
theorem dX3_weightOf_24 : decode cX3_weightOf 24 = .ok (.ireturn, 1) := by decide +kernel
theorem dX4_init_0 : decode cX4_init 0 = .ok (.aload_n 0, 1) := by decide +kernel
theorem dX4_init_1 : decode cX4_init 1 = .ok (.invokespecial 3, 3) := by decide +kernel
theorem dX4_init_4 : decode cX4_init 4 = .ok (.aload_n 0, 1) := by decide +kernel
theorem dX4_init_5 : decode cX4_init 5 = .ok (.sipush 192, 3) := by decide +kernel
theorem dX4_init_8 : decode cX4_init 8 = .ok (.newarray .int, 2) := by decide +kernel
theorem dX4_init_10 : decode cX4_init 10 = .ok (.putfield 9, 3) := by decide +kernel
theorem dX4_init_13 : decode cX4_init 13 = .ok (.aload_n 0, 1) := by decide +kernel
theorem dX4_init_14 : decode cX4_init 14 = .ok (.iconst 4, 1) := by decide +kernel
theorem dX4_init_15 : decode cX4_init 15 = .ok (.newarray .int, 2) := by decide +kernel
theorem dX4_init_17 : decode cX4_init 17 = .ok (.putfield 15, 3) := by decide +kernel
theorem dX4_init_20 : decode cX4_init 20 = .ok (.aload_n 0, 1) := by decide +kernel
theorem dX4_init_21 : decode cX4_init 21 = .ok (.iconst 4, 1) := by decide +kernel
theorem dX4_init_22 : decode cX4_init 22 = .ok (.newarray .int, 2) := by decide +kernel
theorem dX4_init_24 : decode cX4_init 24 = .ok (.dup, 1) := by decide +kernel
theorem dX4_init_25 : decode cX4_init 25 = .ok (.iconst 0, 1) := by decide +kernel
theorem dX4_init_26 : decode cX4_init 26 = .ok (.iconst (-1), 1) := by decide +kernel
theorem dX4_init_27 : decode cX4_init 27 = .ok (.iastore, 1) := by decide +kernel
theorem dX4_init_28 : decode cX4_init 28 = .ok (.dup, 1) := by decide +kernel
theorem dX4_init_29 : decode cX4_init 29 = .ok (.iconst 1, 1) := by decide +kernel
theorem dX4_init_30 : decode cX4_init 30 = .ok (.iconst (-1), 1) := by decide +kernel
theorem dX4_init_31 : decode cX4_init 31 = .ok (.iastore, 1) := by decide +kernel
theorem dX4_init_32 : decode cX4_init 32 = .ok (.dup, 1) := by decide +kernel
theorem dX4_init_33 : decode cX4_init 33 = .ok (.iconst 2, 1) := by decide +kernel
theorem dX4_init_34 : decode cX4_init 34 = .ok (.iconst (-1), 1) := by decide +kernel
theorem dX4_init_35 : decode cX4_init 35 = .ok (.iastore, 1) := by decide +kernel
theorem dX4_init_36 : decode cX4_init 36 = .ok (.dup, 1) := by decide +kernel
theorem dX4_init_37 : decode cX4_init 37 = .ok (.iconst 3, 1) := by decide +kernel
theorem dX4_init_38 : decode cX4_init 38 = .ok (.iconst (-1), 1) := by decide +kernel
theorem dX4_init_39 : decode cX4_init 39 = .ok (.iastore, 1) := by decide +kernel
theorem dX4_init_40 : decode cX4_init 40 = .ok (.putfield 18, 3) := by decide +kernel
theorem dX4_init_43 : decode cX4_init 43 = .ok (.return_, 1) := by decide +kernel
theorem dX4_isLost_0 : decode cX4_isLost 0 = .ok (.aload_n 0, 1) := by decide +kernel
theorem dX4_isLost_1 : decode cX4_isLost 1 = .ok (.getfield 18, 3) := by decide +kernel
theorem dX4_isLost_4 : decode cX4_isLost 4 = .ok (.iload_n 1, 1) := by decide +kernel
theorem dX4_isLost_5 : decode cX4_isLost 5 = .ok (.iaload, 1) := by decide +kernel
theorem dX4_isLost_6 : decode cX4_isLost 6 = .ok (.iconst (-1), 1) := by decide +kernel
theorem dX4_isLost_7 : decode cX4_isLost 7 = .ok (.if_icmp .ne 7, 3) := by decide +kernel
theorem dX4_isLost_10 : decode cX4_isLost 10 = .ok (.iconst 1, 1) := by decide +kernel
theorem dX4_isLost_11 : decode cX4_isLost 11 = .ok (.goto 4, 3) := by decide +kernel
theorem dX4_isLost_14 : decode cX4_isLost 14 = .ok (.iconst 0, 1) := by decide +kernel
theorem dX4_isLost_15 : decode cX4_isLost 15 = .ok (.ireturn, 1) := by decide +kernel
theorem dX4_sizeOf_0 : decode cX4_sizeOf 0 = .ok (.aload_n 0, 1) := by decide +kernel
theorem dX4_sizeOf_1 : decode cX4_sizeOf 1 = .ok (.getfield 18, 3) := by decide +kernel
theorem dX4_sizeOf_4 : decode cX4_sizeOf 4 = .ok (.iload_n 1, 1) := by decide +kernel
theorem dX4_sizeOf_5 : decode cX4_sizeOf 5 = .ok (.iaload, 1) := by decide +kernel
theorem dX4_sizeOf_6 : decode cX4_sizeOf 6 = .ok (.ireturn, 1) := by decide +kernel
theorem dX4_formOf_0 : decode cX4_formOf 0 = .ok (.aload_n 0, 1) := by decide +kernel
theorem dX4_formOf_1 : decode cX4_formOf 1 = .ok (.getfield 15, 3) := by decide +kernel
theorem dX4_formOf_4 : decode cX4_formOf 4 = .ok (.iload_n 1, 1) := by decide +kernel
theorem dX4_formOf_5 : decode cX4_formOf 5 = .ok (.iaload, 1) := by decide +kernel
theorem dX4_formOf_6 : decode cX4_formOf 6 = .ok (.ireturn, 1) := by decide +kernel
theorem dX4_lay_0 : decode cX4_lay 0 = .ok (.aload_n 0, 1) := by decide +kernel
theorem dX4_lay_1 : decode cX4_lay 1 = .ok (.getfield 15, 3) := by decide +kernel
theorem dX4_lay_4 : decode cX4_lay 4 = .ok (.iload_n 1, 1) := by decide +kernel
theorem dX4_lay_5 : decode cX4_lay 5 = .ok (.iload_n 2, 1) := by decide +kernel
theorem dX4_lay_6 : decode cX4_lay 6 = .ok (.iastore, 1) := by decide +kernel
theorem dX4_lay_7 : decode cX4_lay 7 = .ok (.aload_n 0, 1) := by decide +kernel
theorem dX4_lay_8 : decode cX4_lay 8 = .ok (.getfield 18, 3) := by decide +kernel
theorem dX4_lay_11 : decode cX4_lay 11 = .ok (.iload_n 1, 1) := by decide +kernel
theorem dX4_lay_12 : decode cX4_lay 12 = .ok (.iload_n 3, 1) := by decide +kernel
theorem dX4_lay_13 : decode cX4_lay 13 = .ok (.iastore, 1) := by decide +kernel
theorem dX4_lay_14 : decode cX4_lay 14 = .ok (.iconst 0, 1) := by decide +kernel
theorem dX4_lay_15 : decode cX4_lay 15 = .ok (.istore 4, 2) := by decide +kernel
theorem dX4_lay_17 : decode cX4_lay 17 = .ok (.iload 4, 2) := by decide +kernel
theorem dX4_lay_19 : decode cX4_lay 19 = .ok (.iload_n 3, 1) := by decide +kernel
theorem dX4_lay_20 : decode cX4_lay 20 = .ok (.if_icmp .ge 22, 3) := by decide +kernel
theorem dX4_lay_23 : decode cX4_lay 23 = .ok (.aload_n 0, 1) := by decide +kernel
theorem dX4_lay_24 : decode cX4_lay 24 = .ok (.getfield 9, 3) := by decide +kernel
theorem dX4_lay_27 : decode cX4_lay 27 = .ok (.iload_n 1, 1) := by decide +kernel
theorem dX4_lay_28 : decode cX4_lay 28 = .ok (.bipush 48, 2) := by decide +kernel
theorem dX4_lay_30 : decode cX4_lay 30 = .ok (.imul, 1) := by decide +kernel
theorem dX4_lay_31 : decode cX4_lay 31 = .ok (.iload 4, 2) := by decide +kernel
theorem dX4_lay_33 : decode cX4_lay 33 = .ok (.iadd, 1) := by decide +kernel
theorem dX4_lay_34 : decode cX4_lay 34 = .ok (.iconst 0, 1) := by decide +kernel
theorem dX4_lay_35 : decode cX4_lay 35 = .ok (.iastore, 1) := by decide +kernel
theorem dX4_lay_36 : decode cX4_lay 36 = .ok (.iinc 4 1, 3) := by decide +kernel
theorem dX4_lay_39 : decode cX4_lay 39 = .ok (.goto (-22), 3) := by decide +kernel
theorem dX4_lay_42 : decode cX4_lay 42 = .ok (.return_, 1) := by decide +kernel
theorem dX4_drop_0 : decode cX4_drop 0 = .ok (.aload_n 0, 1) := by decide +kernel
theorem dX4_drop_1 : decode cX4_drop 1 = .ok (.getfield 18, 3) := by decide +kernel
theorem dX4_drop_4 : decode cX4_drop 4 = .ok (.iload_n 1, 1) := by decide +kernel
theorem dX4_drop_5 : decode cX4_drop 5 = .ok (.iconst (-1), 1) := by decide +kernel
theorem dX4_drop_6 : decode cX4_drop 6 = .ok (.iastore, 1) := by decide +kernel
theorem dX4_drop_7 : decode cX4_drop 7 = .ok (.return_, 1) := by decide +kernel
theorem dX4_itemAt_0 : decode cX4_itemAt 0 = .ok (.aload_n 0, 1) := by decide +kernel
theorem dX4_itemAt_1 : decode cX4_itemAt 1 = .ok (.getfield 9, 3) := by decide +kernel
theorem dX4_itemAt_4 : decode cX4_itemAt 4 = .ok (.iload_n 1, 1) := by decide +kernel
theorem dX4_itemAt_5 : decode cX4_itemAt 5 = .ok (.bipush 48, 2) := by decide +kernel
theorem dX4_itemAt_7 : decode cX4_itemAt 7 = .ok (.imul, 1) := by decide +kernel
theorem dX4_itemAt_8 : decode cX4_itemAt 8 = .ok (.iload_n 2, 1) := by decide +kernel
theorem dX4_itemAt_9 : decode cX4_itemAt 9 = .ok (.iadd, 1) := by decide +kernel
theorem dX4_itemAt_10 : decode cX4_itemAt 10 = .ok (.iaload, 1) := by decide +kernel
theorem dX4_itemAt_11 : decode cX4_itemAt 11 = .ok (.ireturn, 1) := by decide +kernel
theorem dX4_store_0 : decode cX4_store 0 = .ok (.aload_n 0, 1) := by decide +kernel
theorem dX4_store_1 : decode cX4_store 1 = .ok (.getfield 9, 3) := by decide +kernel
theorem dX4_store_4 : decode cX4_store 4 = .ok (.iload_n 1, 1) := by decide +kernel
theorem dX4_store_5 : decode cX4_store 5 = .ok (.bipush 48, 2) := by decide +kernel
theorem dX4_store_7 : decode cX4_store 7 = .ok (.imul, 1) := by decide +kernel
theorem dX4_store_8 : decode cX4_store 8 = .ok (.iload_n 2, 1) := by decide +kernel
theorem dX4_store_9 : decode cX4_store 9 = .ok (.iadd, 1) := by decide +kernel
theorem dX4_store_10 : decode cX4_store 10 = .ok (.aload_n 0, 1) := by decide +kernel
theorem dX4_store_11 : decode cX4_store 11 = .ok (.getfield 15, 3) := by decide +kernel
theorem dX4_store_14 : decode cX4_store 14 = .ok (.iload_n 1, 1) := by decide +kernel
theorem dX4_store_15 : decode cX4_store 15 = .ok (.iaload, 1) := by decide +kernel
theorem dX4_store_16 : decode cX4_store 16 = .ok (.iload_n 3, 1) := by decide +kernel
theorem dX4_store_17 : decode cX4_store 17 = .ok (.invokestatic 21, 3) := by decide +kernel
theorem dX4_store_20 : decode cX4_store 20 = .ok (.iastore, 1) := by decide +kernel
theorem dX4_store_21 : decode cX4_store 21 = .ok (.return_, 1) := by decide +kernel
theorem dX4_holds_0 : decode cX4_holds 0 = .ok (.iload_n 2, 1) := by decide +kernel
theorem dX4_holds_1 : decode cX4_holds 1 = .ok (.ifCond .lt 33, 3) := by decide +kernel
theorem dX4_holds_4 : decode cX4_holds 4 = .ok (.iload_n 3, 1) := by decide +kernel
theorem dX4_holds_5 : decode cX4_holds 5 = .ok (.ifCond .lt 29, 3) := by decide +kernel
theorem dX4_holds_8 : decode cX4_holds 8 = .ok (.iload_n 2, 1) := by decide +kernel
theorem dX4_holds_9 : decode cX4_holds 9 = .ok (.aload_n 0, 1) := by decide +kernel
theorem dX4_holds_10 : decode cX4_holds 10 = .ok (.getfield 18, 3) := by decide +kernel
theorem dX4_holds_13 : decode cX4_holds 13 = .ok (.iload_n 1, 1) := by decide +kernel
theorem dX4_holds_14 : decode cX4_holds 14 = .ok (.iaload, 1) := by decide +kernel
theorem dX4_holds_15 : decode cX4_holds 15 = .ok (.if_icmp .gt 19, 3) := by decide +kernel
theorem dX4_holds_18 : decode cX4_holds 18 = .ok (.iload_n 3, 1) := by decide +kernel
theorem dX4_holds_19 : decode cX4_holds 19 = .ok (.aload_n 0, 1) := by decide +kernel
theorem dX4_holds_20 : decode cX4_holds 20 = .ok (.getfield 18, 3) := by decide +kernel
theorem dX4_holds_23 : decode cX4_holds 23 = .ok (.iload_n 1, 1) := by decide +kernel
theorem dX4_holds_24 : decode cX4_holds 24 = .ok (.iaload, 1) := by decide +kernel
theorem dX4_holds_25 : decode cX4_holds 25 = .ok (.iload_n 2, 1) := by decide +kernel
theorem dX4_holds_26 : decode cX4_holds 26 = .ok (.isub, 1) := by decide +kernel
theorem dX4_holds_27 : decode cX4_holds 27 = .ok (.if_icmp .gt 7, 3) := by decide +kernel
theorem dX4_holds_30 : decode cX4_holds 30 = .ok (.iconst 1, 1) := by decide +kernel
theorem dX4_holds_31 : decode cX4_holds 31 = .ok (.goto 4, 3) := by decide +kernel
theorem dX4_holds_34 : decode cX4_holds 34 = .ok (.iconst 0, 1) := by decide +kernel
theorem dX4_holds_35 : decode cX4_holds 35 = .ok (.ireturn, 1) := by decide +kernel
theorem dX4_carry_0 : decode cX4_carry 0 = .ok (.aload_n 0, 1) := by decide +kernel
theorem dX4_carry_1 : decode cX4_carry 1 = .ok (.getfield 9, 3) := by decide +kernel
theorem dX4_carry_4 : decode cX4_carry 4 = .ok (.iload_n 1, 1) := by decide +kernel
theorem dX4_carry_5 : decode cX4_carry 5 = .ok (.bipush 48, 2) := by decide +kernel
theorem dX4_carry_7 : decode cX4_carry 7 = .ok (.imul, 1) := by decide +kernel
theorem dX4_carry_8 : decode cX4_carry 8 = .ok (.iload_n 2, 1) := by decide +kernel
theorem dX4_carry_9 : decode cX4_carry 9 = .ok (.iadd, 1) := by decide +kernel
theorem dX4_carry_10 : decode cX4_carry 10 = .ok (.aload_n 0, 1) := by decide +kernel
theorem dX4_carry_11 : decode cX4_carry 11 = .ok (.getfield 9, 3) := by decide +kernel
theorem dX4_carry_14 : decode cX4_carry 14 = .ok (.iload_n 3, 1) := by decide +kernel
theorem dX4_carry_15 : decode cX4_carry 15 = .ok (.bipush 48, 2) := by decide +kernel
theorem dX4_carry_17 : decode cX4_carry 17 = .ok (.imul, 1) := by decide +kernel
theorem dX4_carry_18 : decode cX4_carry 18 = .ok (.iload 4, 2) := by decide +kernel
theorem dX4_carry_20 : decode cX4_carry 20 = .ok (.iadd, 1) := by decide +kernel
theorem dX4_carry_21 : decode cX4_carry 21 = .ok (.iload 5, 2) := by decide +kernel
theorem dX4_carry_23 : decode cX4_carry 23 = .ok (.invokestatic 25, 3) := by decide +kernel
theorem dX4_carry_26 : decode cX4_carry 26 = .ok (.return_, 1) := by decide +kernel
theorem dX4_narrow_0 : decode cX4_narrow 0 = .ok (.iload_n 0, 1) := by decide +kernel
theorem dX4_narrow_1 : decode cX4_narrow 1 = .ok (.ifCond .ne 6, 3) := by decide +kernel
theorem dX4_narrow_4 : decode cX4_narrow 4 = .ok (.iload_n 1, 1) := by decide +kernel
theorem dX4_narrow_5 : decode cX4_narrow 5 = .ok (.i2b, 1) := by decide +kernel
theorem dX4_narrow_6 : decode cX4_narrow 6 = .ok (.ireturn, 1) := by decide +kernel
theorem dX4_narrow_7 : decode cX4_narrow 7 = .ok (.iload_n 0, 1) := by decide +kernel
theorem dX4_narrow_8 : decode cX4_narrow 8 = .ok (.iconst 1, 1) := by decide +kernel
theorem dX4_narrow_9 : decode cX4_narrow 9 = .ok (.if_icmp .ne 8, 3) := by decide +kernel
theorem dX4_narrow_12 : decode cX4_narrow 12 = .ok (.iload_n 1, 1) := by decide +kernel
theorem dX4_narrow_13 : decode cX4_narrow 13 = .ok (.i2s, 1) := by decide +kernel
theorem dX4_narrow_14 : decode cX4_narrow 14 = .ok (.goto 4, 3) := by decide +kernel
theorem dX4_narrow_17 : decode cX4_narrow 17 = .ok (.iload_n 1, 1) := by decide +kernel
theorem dX4_narrow_18 : decode cX4_narrow 18 = .ok (.ireturn, 1) := by decide +kernel
theorem dX5_init_0 : decode cX5_init 0 = .ok (.aload_n 0, 1) := by decide +kernel
theorem dX5_init_1 : decode cX5_init 1 = .ok (.invokespecial 3, 3) := by decide +kernel
theorem dX5_init_4 : decode cX5_init 4 = .ok (.aload_n 0, 1) := by decide +kernel
theorem dX5_init_5 : decode cX5_init 5 = .ok (.new 9, 3) := by decide +kernel
theorem dX5_init_8 : decode cX5_init 8 = .ok (.dup, 1) := by decide +kernel
theorem dX5_init_9 : decode cX5_init 9 = .ok (.invokespecial 11, 3) := by decide +kernel
theorem dX5_init_12 : decode cX5_init 12 = .ok (.putfield 12, 3) := by decide +kernel
theorem dX5_init_15 : decode cX5_init 15 = .ok (.aload_n 0, 1) := by decide +kernel
theorem dX5_init_16 : decode cX5_init 16 = .ok (.bipush 12, 2) := by decide +kernel
theorem dX5_init_18 : decode cX5_init 18 = .ok (.newarray .int, 2) := by decide +kernel
theorem dX5_init_20 : decode cX5_init 20 = .ok (.putfield 18, 3) := by decide +kernel
theorem dX5_init_23 : decode cX5_init 23 = .ok (.aload_n 0, 1) := by decide +kernel
theorem dX5_init_24 : decode cX5_init 24 = .ok (.iconst 4, 1) := by decide +kernel
theorem dX5_init_25 : decode cX5_init 25 = .ok (.newarray .int, 2) := by decide +kernel
theorem dX5_init_27 : decode cX5_init 27 = .ok (.dup, 1) := by decide +kernel
theorem dX5_init_28 : decode cX5_init 28 = .ok (.iconst 0, 1) := by decide +kernel
theorem dX5_init_29 : decode cX5_init 29 = .ok (.bipush 90, 2) := by decide +kernel
theorem dX5_init_31 : decode cX5_init 31 = .ok (.iastore, 1) := by decide +kernel
theorem dX5_init_32 : decode cX5_init 32 = .ok (.dup, 1) := by decide +kernel
theorem dX5_init_33 : decode cX5_init 33 = .ok (.iconst 1, 1) := by decide +kernel
theorem dX5_init_34 : decode cX5_init 34 = .ok (.bipush 90, 2) := by decide +kernel
theorem dX5_init_36 : decode cX5_init 36 = .ok (.iastore, 1) := by decide +kernel
theorem dX5_init_37 : decode cX5_init 37 = .ok (.dup, 1) := by decide +kernel
theorem dX5_init_38 : decode cX5_init 38 = .ok (.iconst 2, 1) := by decide +kernel
theorem dX5_init_39 : decode cX5_init 39 = .ok (.bipush 90, 2) := by decide +kernel
theorem dX5_init_41 : decode cX5_init 41 = .ok (.iastore, 1) := by decide +kernel
theorem dX5_init_42 : decode cX5_init 42 = .ok (.dup, 1) := by decide +kernel
theorem dX5_init_43 : decode cX5_init 43 = .ok (.iconst 3, 1) := by decide +kernel
theorem dX5_init_44 : decode cX5_init 44 = .ok (.bipush 90, 2) := by decide +kernel
theorem dX5_init_46 : decode cX5_init 46 = .ok (.iastore, 1) := by decide +kernel
theorem dX5_init_47 : decode cX5_init 47 = .ok (.putfield 22, 3) := by decide +kernel
theorem dX5_init_50 : decode cX5_init 50 = .ok (.aload_n 0, 1) := by decide +kernel
theorem dX5_init_51 : decode cX5_init 51 = .ok (.bipush 48, 2) := by decide +kernel
theorem dX5_init_53 : decode cX5_init 53 = .ok (.newarray .int, 2) := by decide +kernel
theorem dX5_init_55 : decode cX5_init 55 = .ok (.putfield 25, 3) := by decide +kernel
theorem dX5_init_58 : decode cX5_init 58 = .ok (.aload_n 0, 1) := by decide +kernel
theorem dX5_init_59 : decode cX5_init 59 = .ok (.bipush 48, 2) := by decide +kernel
theorem dX5_init_61 : decode cX5_init 61 = .ok (.newarray .int, 2) := by decide +kernel
theorem dX5_init_63 : decode cX5_init 63 = .ok (.putfield 28, 3) := by decide +kernel
theorem dX5_init_66 : decode cX5_init 66 = .ok (.aload_n 0, 1) := by decide +kernel
theorem dX5_init_67 : decode cX5_init 67 = .ok (.bipush 12, 2) := by decide +kernel
theorem dX5_init_69 : decode cX5_init 69 = .ok (.newarray .int, 2) := by decide +kernel
theorem dX5_init_71 : decode cX5_init 71 = .ok (.putfield 31, 3) := by decide +kernel
theorem dX5_init_74 : decode cX5_init 74 = .ok (.return_, 1) := by decide +kernel
theorem dX5_steepness_0 : decode cX5_steepness 0 = .ok (.iload_n 0, 1) := by decide +kernel
theorem dX5_steepness_1 : decode cX5_steepness 1 = .ok (.iconst 1, 1) := by decide +kernel
theorem dX5_steepness_2 : decode cX5_steepness 2 = .ok (.iadd, 1) := by decide +kernel
theorem dX5_steepness_3 : decode cX5_steepness 3 = .ok (.iload_n 1, 1) := by decide +kernel
theorem dX5_steepness_4 : decode cX5_steepness 4 = .ok (.bipush 6, 2) := by decide +kernel
theorem dX5_steepness_6 : decode cX5_steepness 6 = .ok (.if_icmp .ge 9, 3) := by decide +kernel
theorem dX5_steepness_9 : decode cX5_steepness 9 = .ok (.iload_n 1, 1) := by decide +kernel
theorem dX5_steepness_10 : decode cX5_steepness 10 = .ok (.iconst 1, 1) := by decide +kernel
theorem dX5_steepness_11 : decode cX5_steepness 11 = .ok (.iadd, 1) := by decide +kernel
theorem dX5_steepness_12 : decode cX5_steepness 12 = .ok (.goto 7, 3) := by decide +kernel
theorem dX5_steepness_15 : decode cX5_steepness 15 = .ok (.bipush 12, 2) := by decide +kernel
theorem dX5_steepness_17 : decode cX5_steepness 17 = .ok (.iload_n 1, 1) := by decide +kernel
theorem dX5_steepness_18 : decode cX5_steepness 18 = .ok (.isub, 1) := by decide +kernel
theorem dX5_steepness_19 : decode cX5_steepness 19 = .ok (.imul, 1) := by decide +kernel
theorem dX5_steepness_20 : decode cX5_steepness 20 = .ok (.ireturn, 1) := by decide +kernel
theorem dX5_standingOn_0 : decode cX5_standingOn 0 = .ok (.aload_n 0, 1) := by decide +kernel
theorem dX5_standingOn_1 : decode cX5_standingOn 1 = .ok (.getfield 18, 3) := by decide +kernel
theorem dX5_standingOn_4 : decode cX5_standingOn 4 = .ok (.iload_n 1, 1) := by decide +kernel
theorem dX5_standingOn_5 : decode cX5_standingOn 5 = .ok (.iaload, 1) := by decide +kernel
theorem dX5_standingOn_6 : decode cX5_standingOn 6 = .ok (.ireturn, 1) := by decide +kernel
theorem dX5_build_0 : decode cX5_build 0 = .ok (.aload_n 0, 1) := by decide +kernel
theorem dX5_build_1 : decode cX5_build 1 = .ok (.getfield 18, 3) := by decide +kernel
theorem dX5_build_4 : decode cX5_build 4 = .ok (.iload_n 1, 1) := by decide +kernel
theorem dX5_build_5 : decode cX5_build 5 = .ok (.iaload, 1) := by decide +kernel
theorem dX5_build_6 : decode cX5_build 6 = .ok (.istore_n 3, 1) := by decide +kernel
theorem dX5_build_7 : decode cX5_build 7 = .ok (.aload_n 0, 1) := by decide +kernel
theorem dX5_build_8 : decode cX5_build 8 = .ok (.getfield 18, 3) := by decide +kernel
theorem dX5_build_11 : decode cX5_build 11 = .ok (.iload_n 1, 1) := by decide +kernel
theorem dX5_build_12 : decode cX5_build 12 = .ok (.iload_n 2, 1) := by decide +kernel
theorem dX5_build_13 : decode cX5_build 13 = .ok (.iastore, 1) := by decide +kernel
theorem dX5_build_14 : decode cX5_build 14 = .ok (.iload_n 3, 1) := by decide +kernel
theorem dX5_build_15 : decode cX5_build 15 = .ok (.ireturn, 1) := by decide +kernel
theorem dX5_daysOf_0 : decode cX5_daysOf 0 = .ok (.aload_n 0, 1) := by decide +kernel
theorem dX5_daysOf_1 : decode cX5_daysOf 1 = .ok (.getfield 22, 3) := by decide +kernel
theorem dX5_daysOf_4 : decode cX5_daysOf 4 = .ok (.iload_n 1, 1) := by decide +kernel
theorem dX5_daysOf_5 : decode cX5_daysOf 5 = .ok (.iaload, 1) := by decide +kernel
theorem dX5_daysOf_6 : decode cX5_daysOf 6 = .ok (.ireturn, 1) := by decide +kernel
theorem dX5_lengthen_0 : decode cX5_lengthen 0 = .ok (.aload_n 0, 1) := by decide +kernel
theorem dX5_lengthen_1 : decode cX5_lengthen 1 = .ok (.getfield 22, 3) := by decide +kernel
theorem dX5_lengthen_4 : decode cX5_lengthen 4 = .ok (.iload_n 1, 1) := by decide +kernel
theorem dX5_lengthen_5 : decode cX5_lengthen 5 = .ok (.iaload, 1) := by decide +kernel
theorem dX5_lengthen_6 : decode cX5_lengthen 6 = .ok (.istore_n 3, 1) := by decide +kernel
theorem dX5_lengthen_7 : decode cX5_lengthen 7 = .ok (.aload_n 0, 1) := by decide +kernel
theorem dX5_lengthen_8 : decode cX5_lengthen 8 = .ok (.getfield 22, 3) := by decide +kernel
theorem dX5_lengthen_11 : decode cX5_lengthen 11 = .ok (.iload_n 1, 1) := by decide +kernel
theorem dX5_lengthen_12 : decode cX5_lengthen 12 = .ok (.iload_n 2, 1) := by decide +kernel
theorem dX5_lengthen_13 : decode cX5_lengthen 13 = .ok (.iastore, 1) := by decide +kernel
theorem dX5_lengthen_14 : decode cX5_lengthen 14 = .ok (.iload_n 3, 1) := by decide +kernel
theorem dX5_lengthen_15 : decode cX5_lengthen 15 = .ok (.ireturn, 1) := by decide +kernel
theorem dX5_allDays_0 : decode cX5_allDays 0 = .ok (.iconst 0, 1) := by decide +kernel
theorem dX5_allDays_1 : decode cX5_allDays 1 = .ok (.istore_n 1, 1) := by decide +kernel
theorem dX5_allDays_2 : decode cX5_allDays 2 = .ok (.iconst 0, 1) := by decide +kernel
theorem dX5_allDays_3 : decode cX5_allDays 3 = .ok (.istore_n 2, 1) := by decide +kernel
theorem dX5_allDays_4 : decode cX5_allDays 4 = .ok (.iload_n 2, 1) := by decide +kernel
theorem dX5_allDays_5 : decode cX5_allDays 5 = .ok (.iconst 4, 1) := by decide +kernel
theorem dX5_allDays_6 : decode cX5_allDays 6 = .ok (.if_icmp .ge 18, 3) := by decide +kernel
theorem dX5_allDays_9 : decode cX5_allDays 9 = .ok (.iload_n 1, 1) := by decide +kernel
theorem dX5_allDays_10 : decode cX5_allDays 10 = .ok (.aload_n 0, 1) := by decide +kernel
theorem dX5_allDays_11 : decode cX5_allDays 11 = .ok (.getfield 22, 3) := by decide +kernel
theorem dX5_allDays_14 : decode cX5_allDays 14 = .ok (.iload_n 2, 1) := by decide +kernel
theorem dX5_allDays_15 : decode cX5_allDays 15 = .ok (.iaload, 1) := by decide +kernel
theorem dX5_allDays_16 : decode cX5_allDays 16 = .ok (.iadd, 1) := by decide +kernel
theorem dX5_allDays_17 : decode cX5_allDays 17 = .ok (.istore_n 1, 1) := by decide +kernel
theorem dX5_allDays_18 : decode cX5_allDays 18 = .ok (.iinc 2 1, 3) := by decide +kernel
theorem dX5_allDays_21 : decode cX5_allDays 21 = .ok (.goto (-17), 3) := by decide +kernel
theorem dX5_allDays_24 : decode cX5_allDays 24 = .ok (.iload_n 1, 1) := by decide +kernel
theorem dX5_allDays_25 : decode cX5_allDays 25 = .ok (.ireturn, 1) := by decide +kernel
theorem dX5_years_0 : decode cX5_years 0 = .ok (.aload_n 0, 1) := by decide +kernel
theorem dX5_years_1 : decode cX5_years 1 = .ok (.getfield 31, 3) := by decide +kernel
theorem dX5_years_4 : decode cX5_years 4 = .ok (.areturn, 1) := by decide +kernel
theorem dX5_yearOf_0 : decode cX5_yearOf 0 = .ok (.aload_n 0, 1) := by decide +kernel
theorem dX5_yearOf_1 : decode cX5_yearOf 1 = .ok (.getfield 31, 3) := by decide +kernel
theorem dX5_yearOf_4 : decode cX5_yearOf 4 = .ok (.iload_n 1, 1) := by decide +kernel
theorem dX5_yearOf_5 : decode cX5_yearOf 5 = .ok (.iaload, 1) := by decide +kernel
theorem dX5_yearOf_6 : decode cX5_yearOf 6 = .ok (.ireturn, 1) := by decide +kernel
theorem dX5_allYears_0 : decode cX5_allYears 0 = .ok (.iconst 0, 1) := by decide +kernel
theorem dX5_allYears_1 : decode cX5_allYears 1 = .ok (.istore_n 1, 1) := by decide +kernel
theorem dX5_allYears_2 : decode cX5_allYears 2 = .ok (.iconst 0, 1) := by decide +kernel
theorem dX5_allYears_3 : decode cX5_allYears 3 = .ok (.istore_n 2, 1) := by decide +kernel
theorem dX5_allYears_4 : decode cX5_allYears 4 = .ok (.iload_n 2, 1) := by decide +kernel
theorem dX5_allYears_5 : decode cX5_allYears 5 = .ok (.aload_n 0, 1) := by decide +kernel
theorem dX5_allYears_6 : decode cX5_allYears 6 = .ok (.getfield 12, 3) := by decide +kernel
theorem dX5_allYears_9 : decode cX5_allYears 9 = .ok (.invokevirtual 34, 3) := by decide +kernel
theorem dX5_allYears_12 : decode cX5_allYears 12 = .ok (.if_icmp .ge 18, 3) := by decide +kernel
theorem dX5_allYears_15 : decode cX5_allYears 15 = .ok (.iload_n 1, 1) := by decide +kernel
theorem dX5_allYears_16 : decode cX5_allYears 16 = .ok (.aload_n 0, 1) := by decide +kernel
theorem dX5_allYears_17 : decode cX5_allYears 17 = .ok (.getfield 31, 3) := by decide +kernel
theorem dX5_allYears_20 : decode cX5_allYears 20 = .ok (.iload_n 2, 1) := by decide +kernel
theorem dX5_allYears_21 : decode cX5_allYears 21 = .ok (.iaload, 1) := by decide +kernel
theorem dX5_allYears_22 : decode cX5_allYears 22 = .ok (.iadd, 1) := by decide +kernel
theorem dX5_allYears_23 : decode cX5_allYears 23 = .ok (.istore_n 1, 1) := by decide +kernel
theorem dX5_allYears_24 : decode cX5_allYears 24 = .ok (.iinc 2 1, 3) := by decide +kernel
theorem dX5_allYears_27 : decode cX5_allYears 27 = .ok (.goto (-23), 3) := by decide +kernel
theorem dX5_allYears_30 : decode cX5_allYears 30 = .ok (.iload_n 1, 1) := by decide +kernel
theorem dX5_allYears_31 : decode cX5_allYears 31 = .ok (.ireturn, 1) := by decide +kernel
theorem dX5_bitsOf_0 : decode cX5_bitsOf 0 = .ok (.aload_n 0, 1) := by decide +kernel
theorem dX5_bitsOf_1 : decode cX5_bitsOf 1 = .ok (.getfield 25, 3) := by decide +kernel
theorem dX5_bitsOf_4 : decode cX5_bitsOf 4 = .ok (.iload_n 1, 1) := by decide +kernel
theorem dX5_bitsOf_5 : decode cX5_bitsOf 5 = .ok (.iconst 4, 1) := by decide +kernel
theorem dX5_bitsOf_6 : decode cX5_bitsOf 6 = .ok (.imul, 1) := by decide +kernel
theorem dX5_bitsOf_7 : decode cX5_bitsOf 7 = .ok (.iload_n 2, 1) := by decide +kernel
theorem dX5_bitsOf_8 : decode cX5_bitsOf 8 = .ok (.iadd, 1) := by decide +kernel
theorem dX5_bitsOf_9 : decode cX5_bitsOf 9 = .ok (.iaload, 1) := by decide +kernel
theorem dX5_bitsOf_10 : decode cX5_bitsOf 10 = .ok (.ireturn, 1) := by decide +kernel
theorem dX5_hoursOf_0 : decode cX5_hoursOf 0 = .ok (.aload_n 0, 1) := by decide +kernel
theorem dX5_hoursOf_1 : decode cX5_hoursOf 1 = .ok (.getfield 28, 3) := by decide +kernel
theorem dX5_hoursOf_4 : decode cX5_hoursOf 4 = .ok (.iload_n 1, 1) := by decide +kernel
theorem dX5_hoursOf_5 : decode cX5_hoursOf 5 = .ok (.iconst 4, 1) := by decide +kernel
theorem dX5_hoursOf_6 : decode cX5_hoursOf 6 = .ok (.imul, 1) := by decide +kernel
theorem dX5_hoursOf_7 : decode cX5_hoursOf 7 = .ok (.iload_n 2, 1) := by decide +kernel
theorem dX5_hoursOf_8 : decode cX5_hoursOf 8 = .ok (.iadd, 1) := by decide +kernel
theorem dX5_hoursOf_9 : decode cX5_hoursOf 9 = .ok (.iaload, 1) := by decide +kernel
theorem dX5_hoursOf_10 : decode cX5_hoursOf 10 = .ok (.ireturn, 1) := by decide +kernel
theorem dX5_measure_0 : decode cX5_measure 0 = .ok (.iconst 0, 1) := by decide +kernel
theorem dX5_measure_1 : decode cX5_measure 1 = .ok (.istore_n 1, 1) := by decide +kernel
theorem dX5_measure_2 : decode cX5_measure 2 = .ok (.iload_n 1, 1) := by decide +kernel
theorem dX5_measure_3 : decode cX5_measure 3 = .ok (.aload_n 0, 1) := by decide +kernel
theorem dX5_measure_4 : decode cX5_measure 4 = .ok (.getfield 12, 3) := by decide +kernel
theorem dX5_measure_7 : decode cX5_measure 7 = .ok (.invokevirtual 34, 3) := by decide +kernel
theorem dX5_measure_10 : decode cX5_measure 10 = .ok (.if_icmp .ge 65, 3) := by decide +kernel
theorem dX5_measure_13 : decode cX5_measure 13 = .ok (.iconst 0, 1) := by decide +kernel
theorem dX5_measure_14 : decode cX5_measure 14 = .ok (.istore_n 2, 1) := by decide +kernel
theorem dX5_measure_15 : decode cX5_measure 15 = .ok (.iload_n 2, 1) := by decide +kernel
theorem dX5_measure_16 : decode cX5_measure 16 = .ok (.iconst 4, 1) := by decide +kernel
theorem dX5_measure_17 : decode cX5_measure 17 = .ok (.if_icmp .ge 41, 3) := by decide +kernel
theorem dX5_measure_20 : decode cX5_measure 20 = .ok (.aload_n 0, 1) := by decide +kernel
theorem dX5_measure_21 : decode cX5_measure 21 = .ok (.iload_n 1, 1) := by decide +kernel
theorem dX5_measure_22 : decode cX5_measure 22 = .ok (.iload_n 2, 1) := by decide +kernel
theorem dX5_measure_23 : decode cX5_measure 23 = .ok (.invokevirtual 38, 3) := by decide +kernel
theorem dX5_measure_26 : decode cX5_measure 26 = .ok (.istore_n 3, 1) := by decide +kernel
theorem dX5_measure_27 : decode cX5_measure 27 = .ok (.aload_n 0, 1) := by decide +kernel
theorem dX5_measure_28 : decode cX5_measure 28 = .ok (.getfield 25, 3) := by decide +kernel
theorem dX5_measure_31 : decode cX5_measure 31 = .ok (.iload_n 1, 1) := by decide +kernel
theorem dX5_measure_32 : decode cX5_measure 32 = .ok (.iconst 4, 1) := by decide +kernel
theorem dX5_measure_33 : decode cX5_measure 33 = .ok (.imul, 1) := by decide +kernel
theorem dX5_measure_34 : decode cX5_measure 34 = .ok (.iload_n 2, 1) := by decide +kernel
theorem dX5_measure_35 : decode cX5_measure 35 = .ok (.iadd, 1) := by decide +kernel
theorem dX5_measure_36 : decode cX5_measure 36 = .ok (.iload_n 3, 1) := by decide +kernel
theorem dX5_measure_37 : decode cX5_measure 37 = .ok (.iastore, 1) := by decide +kernel
theorem dX5_measure_38 : decode cX5_measure 38 = .ok (.aload_n 0, 1) := by decide +kernel
theorem dX5_measure_39 : decode cX5_measure 39 = .ok (.getfield 28, 3) := by decide +kernel
theorem dX5_measure_42 : decode cX5_measure 42 = .ok (.iload_n 1, 1) := by decide +kernel
theorem dX5_measure_43 : decode cX5_measure 43 = .ok (.iconst 4, 1) := by decide +kernel
theorem dX5_measure_44 : decode cX5_measure 44 = .ok (.imul, 1) := by decide +kernel
theorem dX5_measure_45 : decode cX5_measure 45 = .ok (.iload_n 2, 1) := by decide +kernel
theorem dX5_measure_46 : decode cX5_measure 46 = .ok (.iadd, 1) := by decide +kernel
theorem dX5_measure_47 : decode cX5_measure 47 = .ok (.iload_n 3, 1) := by decide +kernel
theorem dX5_measure_48 : decode cX5_measure 48 = .ok (.invokestatic 42, 3) := by decide +kernel
theorem dX5_measure_51 : decode cX5_measure 51 = .ok (.iastore, 1) := by decide +kernel
theorem dX5_measure_52 : decode cX5_measure 52 = .ok (.iinc 2 1, 3) := by decide +kernel
theorem dX5_measure_55 : decode cX5_measure 55 = .ok (.goto (-40), 3) := by decide +kernel
theorem dX5_measure_58 : decode cX5_measure 58 = .ok (.aload_n 0, 1) := by decide +kernel
theorem dX5_measure_59 : decode cX5_measure 59 = .ok (.getfield 31, 3) := by decide +kernel
theorem dX5_measure_62 : decode cX5_measure 62 = .ok (.iload_n 1, 1) := by decide +kernel
theorem dX5_measure_63 : decode cX5_measure 63 = .ok (.aload_n 0, 1) := by decide +kernel
theorem dX5_measure_64 : decode cX5_measure 64 = .ok (.iload_n 1, 1) := by decide +kernel
theorem dX5_measure_65 : decode cX5_measure 65 = .ok (.invokevirtual 48, 3) := by decide +kernel
theorem dX5_measure_68 : decode cX5_measure 68 = .ok (.iastore, 1) := by decide +kernel
theorem dX5_measure_69 : decode cX5_measure 69 = .ok (.iinc 1 1, 3) := by decide +kernel
theorem dX5_measure_72 : decode cX5_measure 72 = .ok (.goto (-70), 3) := by decide +kernel
theorem dX5_measure_75 : decode cX5_measure 75 = .ok (.return_, 1) := by decide +kernel
theorem dX5_yearAsBuilt_0 : decode cX5_yearAsBuilt 0 = .ok (.iconst 0, 1) := by decide +kernel
theorem dX5_yearAsBuilt_1 : decode cX5_yearAsBuilt 1 = .ok (.istore_n 2, 1) := by decide +kernel
theorem dX5_yearAsBuilt_2 : decode cX5_yearAsBuilt 2 = .ok (.iconst 0, 1) := by decide +kernel
theorem dX5_yearAsBuilt_3 : decode cX5_yearAsBuilt 3 = .ok (.istore_n 3, 1) := by decide +kernel
theorem dX5_yearAsBuilt_4 : decode cX5_yearAsBuilt 4 = .ok (.iload_n 3, 1) := by decide +kernel
theorem dX5_yearAsBuilt_5 : decode cX5_yearAsBuilt 5 = .ok (.iconst 4, 1) := by decide +kernel
theorem dX5_yearAsBuilt_6 : decode cX5_yearAsBuilt 6 = .ok (.if_icmp .ge 41, 3) := by decide +kernel
theorem dX5_yearAsBuilt_9 : decode cX5_yearAsBuilt 9 = .ok (.aload_n 0, 1) := by decide +kernel
theorem dX5_yearAsBuilt_10 : decode cX5_yearAsBuilt 10 = .ok (.iload_n 1, 1) := by decide +kernel
theorem dX5_yearAsBuilt_11 : decode cX5_yearAsBuilt 11 = .ok (.iload_n 3, 1) := by decide +kernel
theorem dX5_yearAsBuilt_12 : decode cX5_yearAsBuilt 12 = .ok (.iconst (-1), 1) := by decide +kernel
theorem dX5_yearAsBuilt_13 : decode cX5_yearAsBuilt 13 = .ok (.invokevirtual 51, 3) := by decide +kernel
theorem dX5_yearAsBuilt_16 : decode cX5_yearAsBuilt 16 = .ok (.aload_n 0, 1) := by decide +kernel
theorem dX5_yearAsBuilt_17 : decode cX5_yearAsBuilt 17 = .ok (.iload_n 1, 1) := by decide +kernel
theorem dX5_yearAsBuilt_18 : decode cX5_yearAsBuilt 18 = .ok (.iload_n 3, 1) := by decide +kernel
theorem dX5_yearAsBuilt_19 : decode cX5_yearAsBuilt 19 = .ok (.iconst 1, 1) := by decide +kernel
theorem dX5_yearAsBuilt_20 : decode cX5_yearAsBuilt 20 = .ok (.invokevirtual 51, 3) := by decide +kernel
theorem dX5_yearAsBuilt_23 : decode cX5_yearAsBuilt 23 = .ok (.iadd, 1) := by decide +kernel
theorem dX5_yearAsBuilt_24 : decode cX5_yearAsBuilt 24 = .ok (.istore 4, 2) := by decide +kernel
theorem dX5_yearAsBuilt_26 : decode cX5_yearAsBuilt 26 = .ok (.iload_n 2, 1) := by decide +kernel
theorem dX5_yearAsBuilt_27 : decode cX5_yearAsBuilt 27 = .ok (.bipush 12, 2) := by decide +kernel
theorem dX5_yearAsBuilt_29 : decode cX5_yearAsBuilt 29 = .ok (.iload 4, 2) := by decide +kernel
theorem dX5_yearAsBuilt_31 : decode cX5_yearAsBuilt 31 = .ok (.isub, 1) := by decide +kernel
theorem dX5_yearAsBuilt_32 : decode cX5_yearAsBuilt 32 = .ok (.aload_n 0, 1) := by decide +kernel
theorem dX5_yearAsBuilt_33 : decode cX5_yearAsBuilt 33 = .ok (.getfield 22, 3) := by decide +kernel
theorem dX5_yearAsBuilt_36 : decode cX5_yearAsBuilt 36 = .ok (.iload_n 3, 1) := by decide +kernel
theorem dX5_yearAsBuilt_37 : decode cX5_yearAsBuilt 37 = .ok (.iaload, 1) := by decide +kernel
theorem dX5_yearAsBuilt_38 : decode cX5_yearAsBuilt 38 = .ok (.imul, 1) := by decide +kernel
theorem dX5_yearAsBuilt_39 : decode cX5_yearAsBuilt 39 = .ok (.iadd, 1) := by decide +kernel
theorem dX5_yearAsBuilt_40 : decode cX5_yearAsBuilt 40 = .ok (.istore_n 2, 1) := by decide +kernel
theorem dX5_yearAsBuilt_41 : decode cX5_yearAsBuilt 41 = .ok (.iinc 3 1, 3) := by decide +kernel
theorem dX5_yearAsBuilt_44 : decode cX5_yearAsBuilt 44 = .ok (.goto (-40), 3) := by decide +kernel
theorem dX5_yearAsBuilt_47 : decode cX5_yearAsBuilt 47 = .ok (.iload_n 2, 1) := by decide +kernel
theorem dX5_yearAsBuilt_48 : decode cX5_yearAsBuilt 48 = .ok (.ireturn, 1) := by decide +kernel

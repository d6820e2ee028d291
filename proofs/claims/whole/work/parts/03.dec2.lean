theorem dX5_nearestShader_0 : decode cX5_nearestShader 0 = .ok (.iload_n 3, 1) := by decide +kernel
theorem dX5_nearestShader_1 : decode cX5_nearestShader 1 = .ok (.bipush 6, 2) := by decide +kernel
theorem dX5_nearestShader_3 : decode cX5_nearestShader 3 = .ok (.if_icmp .ge 7, 3) := by decide +kernel
theorem dX5_nearestShader_6 : decode cX5_nearestShader 6 = .ok (.iconst (-1), 1) := by decide +kernel
theorem dX5_nearestShader_7 : decode cX5_nearestShader 7 = .ok (.goto 4, 3) := by decide +kernel
theorem dX5_nearestShader_10 : decode cX5_nearestShader 10 = .ok (.iconst 1, 1) := by decide +kernel
theorem dX5_nearestShader_11 : decode cX5_nearestShader 11 = .ok (.istore 4, 2) := by decide +kernel
theorem dX5_nearestShader_13 : decode cX5_nearestShader 13 = .ok (.aload_n 0, 1) := by decide +kernel
theorem dX5_nearestShader_14 : decode cX5_nearestShader 14 = .ok (.iload_n 1, 1) := by decide +kernel
theorem dX5_nearestShader_15 : decode cX5_nearestShader 15 = .ok (.iload 4, 2) := by decide +kernel
theorem dX5_nearestShader_17 : decode cX5_nearestShader 17 = .ok (.invokevirtual 55, 3) := by decide +kernel
theorem dX5_nearestShader_20 : decode cX5_nearestShader 20 = .ok (.istore 5, 2) := by decide +kernel
theorem dX5_nearestShader_22 : decode cX5_nearestShader 22 = .ok (.iconst 1, 1) := by decide +kernel
theorem dX5_nearestShader_23 : decode cX5_nearestShader 23 = .ok (.istore 6, 2) := by decide +kernel
theorem dX5_nearestShader_25 : decode cX5_nearestShader 25 = .ok (.iload 6, 2) := by decide +kernel
theorem dX5_nearestShader_27 : decode cX5_nearestShader 27 = .ok (.iload 5, 2) := by decide +kernel
theorem dX5_nearestShader_29 : decode cX5_nearestShader 29 = .ok (.if_icmp .gt 38, 3) := by decide +kernel
theorem dX5_nearestShader_32 : decode cX5_nearestShader 32 = .ok (.aload_n 0, 1) := by decide +kernel
theorem dX5_nearestShader_33 : decode cX5_nearestShader 33 = .ok (.iload_n 1, 1) := by decide +kernel
theorem dX5_nearestShader_34 : decode cX5_nearestShader 34 = .ok (.iload 4, 2) := by decide +kernel
theorem dX5_nearestShader_36 : decode cX5_nearestShader 36 = .ok (.iload 6, 2) := by decide +kernel
theorem dX5_nearestShader_38 : decode cX5_nearestShader 38 = .ok (.imul, 1) := by decide +kernel
theorem dX5_nearestShader_39 : decode cX5_nearestShader 39 = .ok (.invokevirtual 58, 3) := by decide +kernel
theorem dX5_nearestShader_42 : decode cX5_nearestShader 42 = .ok (.iload 6, 2) := by decide +kernel
theorem dX5_nearestShader_44 : decode cX5_nearestShader 44 = .ok (.iload_n 2, 1) := by decide +kernel
theorem dX5_nearestShader_45 : decode cX5_nearestShader 45 = .ok (.iload_n 3, 1) := by decide +kernel
theorem dX5_nearestShader_46 : decode cX5_nearestShader 46 = .ok (.invokestatic 61, 3) := by decide +kernel
theorem dX5_nearestShader_49 : decode cX5_nearestShader 49 = .ok (.imul, 1) := by decide +kernel
theorem dX5_nearestShader_50 : decode cX5_nearestShader 50 = .ok (.if_icmp .le 11, 3) := by decide +kernel
theorem dX5_nearestShader_53 : decode cX5_nearestShader 53 = .ok (.iload_n 1, 1) := by decide +kernel
theorem dX5_nearestShader_54 : decode cX5_nearestShader 54 = .ok (.iload 4, 2) := by decide +kernel
theorem dX5_nearestShader_56 : decode cX5_nearestShader 56 = .ok (.iload 6, 2) := by decide +kernel
theorem dX5_nearestShader_58 : decode cX5_nearestShader 58 = .ok (.imul, 1) := by decide +kernel
theorem dX5_nearestShader_59 : decode cX5_nearestShader 59 = .ok (.iadd, 1) := by decide +kernel
theorem dX5_nearestShader_60 : decode cX5_nearestShader 60 = .ok (.ireturn, 1) := by decide +kernel
theorem dX5_nearestShader_61 : decode cX5_nearestShader 61 = .ok (.iinc 6 1, 3) := by decide +kernel
theorem dX5_nearestShader_64 : decode cX5_nearestShader 64 = .ok (.goto (-39), 3) := by decide +kernel
theorem dX5_nearestShader_67 : decode cX5_nearestShader 67 = .ok (.iconst (-1), 1) := by decide +kernel
theorem dX5_nearestShader_68 : decode cX5_nearestShader 68 = .ok (.ireturn, 1) := by decide +kernel
theorem dX5_bitsAsBuilt_0 : decode cX5_bitsAsBuilt 0 = .ok (.aload_n 0, 1) := by decide +kernel
theorem dX5_bitsAsBuilt_1 : decode cX5_bitsAsBuilt 1 = .ok (.iload_n 1, 1) := by decide +kernel
theorem dX5_bitsAsBuilt_2 : decode cX5_bitsAsBuilt 2 = .ok (.iload_n 2, 1) := by decide +kernel
theorem dX5_bitsAsBuilt_3 : decode cX5_bitsAsBuilt 3 = .ok (.iconst (-1), 1) := by decide +kernel
theorem dX5_bitsAsBuilt_4 : decode cX5_bitsAsBuilt 4 = .ok (.invokevirtual 51, 3) := by decide +kernel
theorem dX5_bitsAsBuilt_7 : decode cX5_bitsAsBuilt 7 = .ok (.istore_n 3, 1) := by decide +kernel
theorem dX5_bitsAsBuilt_8 : decode cX5_bitsAsBuilt 8 = .ok (.aload_n 0, 1) := by decide +kernel
theorem dX5_bitsAsBuilt_9 : decode cX5_bitsAsBuilt 9 = .ok (.iload_n 1, 1) := by decide +kernel
theorem dX5_bitsAsBuilt_10 : decode cX5_bitsAsBuilt 10 = .ok (.iload_n 2, 1) := by decide +kernel
theorem dX5_bitsAsBuilt_11 : decode cX5_bitsAsBuilt 11 = .ok (.iconst 1, 1) := by decide +kernel
theorem dX5_bitsAsBuilt_12 : decode cX5_bitsAsBuilt 12 = .ok (.invokevirtual 51, 3) := by decide +kernel
theorem dX5_bitsAsBuilt_15 : decode cX5_bitsAsBuilt 15 = .ok (.istore 4, 2) := by decide +kernel
theorem dX5_bitsAsBuilt_17 : decode cX5_bitsAsBuilt 17 = .ok (.bipush 63, 2) := by decide +kernel
theorem dX5_bitsAsBuilt_19 : decode cX5_bitsAsBuilt 19 = .ok (.iload_n 3, 1) := by decide +kernel
theorem dX5_bitsAsBuilt_20 : decode cX5_bitsAsBuilt 20 = .ok (.ishr, 1) := by decide +kernel
theorem dX5_bitsAsBuilt_21 : decode cX5_bitsAsBuilt 21 = .ok (.iload_n 3, 1) := by decide +kernel
theorem dX5_bitsAsBuilt_22 : decode cX5_bitsAsBuilt 22 = .ok (.ishl, 1) := by decide +kernel
theorem dX5_bitsAsBuilt_23 : decode cX5_bitsAsBuilt 23 = .ok (.bipush 63, 2) := by decide +kernel
theorem dX5_bitsAsBuilt_25 : decode cX5_bitsAsBuilt 25 = .ok (.iload 4, 2) := by decide +kernel
theorem dX5_bitsAsBuilt_27 : decode cX5_bitsAsBuilt 27 = .ok (.ishr, 1) := by decide +kernel
theorem dX5_bitsAsBuilt_28 : decode cX5_bitsAsBuilt 28 = .ok (.bipush 6, 2) := by decide +kernel
theorem dX5_bitsAsBuilt_30 : decode cX5_bitsAsBuilt 30 = .ok (.ishl, 1) := by decide +kernel
theorem dX5_bitsAsBuilt_31 : decode cX5_bitsAsBuilt 31 = .ok (.ior, 1) := by decide +kernel
theorem dX5_bitsAsBuilt_32 : decode cX5_bitsAsBuilt 32 = .ok (.ireturn, 1) := by decide +kernel
theorem dX5_darkHours_0 : decode cX5_darkHours 0 = .ok (.iconst 0, 1) := by decide +kernel
theorem dX5_darkHours_1 : decode cX5_darkHours 1 = .ok (.istore 4, 2) := by decide +kernel
theorem dX5_darkHours_3 : decode cX5_darkHours 3 = .ok (.aload_n 0, 1) := by decide +kernel
theorem dX5_darkHours_4 : decode cX5_darkHours 4 = .ok (.iload_n 1, 1) := by decide +kernel
theorem dX5_darkHours_5 : decode cX5_darkHours 5 = .ok (.iload_n 3, 1) := by decide +kernel
theorem dX5_darkHours_6 : decode cX5_darkHours 6 = .ok (.invokevirtual 55, 3) := by decide +kernel
theorem dX5_darkHours_9 : decode cX5_darkHours 9 = .ok (.istore 5, 2) := by decide +kernel
theorem dX5_darkHours_11 : decode cX5_darkHours 11 = .ok (.iconst 1, 1) := by decide +kernel
theorem dX5_darkHours_12 : decode cX5_darkHours 12 = .ok (.istore 6, 2) := by decide +kernel
theorem dX5_darkHours_14 : decode cX5_darkHours 14 = .ok (.iload 6, 2) := by decide +kernel
theorem dX5_darkHours_16 : decode cX5_darkHours 16 = .ok (.iload 5, 2) := by decide +kernel
theorem dX5_darkHours_18 : decode cX5_darkHours 18 = .ok (.if_icmp .gt 53, 3) := by decide +kernel
theorem dX5_darkHours_21 : decode cX5_darkHours 21 = .ok (.aload_n 0, 1) := by decide +kernel
theorem dX5_darkHours_22 : decode cX5_darkHours 22 = .ok (.iload_n 1, 1) := by decide +kernel
theorem dX5_darkHours_23 : decode cX5_darkHours 23 = .ok (.iload_n 3, 1) := by decide +kernel
theorem dX5_darkHours_24 : decode cX5_darkHours 24 = .ok (.iload 6, 2) := by decide +kernel
theorem dX5_darkHours_26 : decode cX5_darkHours 26 = .ok (.imul, 1) := by decide +kernel
theorem dX5_darkHours_27 : decode cX5_darkHours 27 = .ok (.invokevirtual 58, 3) := by decide +kernel
theorem dX5_darkHours_30 : decode cX5_darkHours 30 = .ok (.istore 7, 2) := by decide +kernel
theorem dX5_darkHours_32 : decode cX5_darkHours 32 = .ok (.iload 6, 2) := by decide +kernel
theorem dX5_darkHours_34 : decode cX5_darkHours 34 = .ok (.iload_n 2, 1) := by decide +kernel
theorem dX5_darkHours_35 : decode cX5_darkHours 35 = .ok (.iconst 1, 1) := by decide +kernel
theorem dX5_darkHours_36 : decode cX5_darkHours 36 = .ok (.iadd, 1) := by decide +kernel
theorem dX5_darkHours_37 : decode cX5_darkHours 37 = .ok (.imul, 1) := by decide +kernel
theorem dX5_darkHours_38 : decode cX5_darkHours 38 = .ok (.istore 8, 2) := by decide +kernel
theorem dX5_darkHours_40 : decode cX5_darkHours 40 = .ok (.iload 4, 2) := by decide +kernel
theorem dX5_darkHours_42 : decode cX5_darkHours 42 = .ok (.bipush 6, 2) := by decide +kernel
theorem dX5_darkHours_44 : decode cX5_darkHours 44 = .ok (.if_icmp .ge 21, 3) := by decide +kernel
theorem dX5_darkHours_47 : decode cX5_darkHours 47 = .ok (.iload 7, 2) := by decide +kernel
theorem dX5_darkHours_49 : decode cX5_darkHours 49 = .ok (.iload 8, 2) := by decide +kernel
theorem dX5_darkHours_51 : decode cX5_darkHours 51 = .ok (.iload 4, 2) := by decide +kernel
theorem dX5_darkHours_53 : decode cX5_darkHours 53 = .ok (.iconst 1, 1) := by decide +kernel
theorem dX5_darkHours_54 : decode cX5_darkHours 54 = .ok (.iadd, 1) := by decide +kernel
theorem dX5_darkHours_55 : decode cX5_darkHours 55 = .ok (.imul, 1) := by decide +kernel
theorem dX5_darkHours_56 : decode cX5_darkHours 56 = .ok (.if_icmp .le 9, 3) := by decide +kernel
theorem dX5_darkHours_59 : decode cX5_darkHours 59 = .ok (.iinc 4 1, 3) := by decide +kernel
theorem dX5_darkHours_62 : decode cX5_darkHours 62 = .ok (.goto (-22), 3) := by decide +kernel
theorem dX5_darkHours_65 : decode cX5_darkHours 65 = .ok (.iinc 6 1, 3) := by decide +kernel
theorem dX5_darkHours_68 : decode cX5_darkHours 68 = .ok (.goto (-54), 3) := by decide +kernel
theorem dX5_darkHours_71 : decode cX5_darkHours 71 = .ok (.iload 4, 2) := by decide +kernel
theorem dX5_darkHours_73 : decode cX5_darkHours 73 = .ok (.ireturn, 1) := by decide +kernel
theorem dX5_reachOf_0 : decode cX5_reachOf 0 = .ok (.aload_n 0, 1) := by decide +kernel
theorem dX5_reachOf_1 : decode cX5_reachOf 1 = .ok (.getfield 12, 3) := by decide +kernel
theorem dX5_reachOf_4 : decode cX5_reachOf 4 = .ok (.getfield 64, 3) := by decide +kernel
theorem dX5_reachOf_7 : decode cX5_reachOf 7 = .ok (.iload_n 1, 1) := by decide +kernel
theorem dX5_reachOf_8 : decode cX5_reachOf 8 = .ok (.iaload, 1) := by decide +kernel
theorem dX5_reachOf_9 : decode cX5_reachOf 9 = .ok (.istore_n 3, 1) := by decide +kernel
theorem dX5_reachOf_10 : decode cX5_reachOf 10 = .ok (.iload_n 2, 1) := by decide +kernel
theorem dX5_reachOf_11 : decode cX5_reachOf 11 = .ok (.iconst (-1), 1) := by decide +kernel
theorem dX5_reachOf_12 : decode cX5_reachOf 12 = .ok (.if_icmp .ne 7, 3) := by decide +kernel
theorem dX5_reachOf_15 : decode cX5_reachOf 15 = .ok (.iload_n 3, 1) := by decide +kernel
theorem dX5_reachOf_16 : decode cX5_reachOf 16 = .ok (.goto 14, 3) := by decide +kernel
theorem dX5_reachOf_19 : decode cX5_reachOf 19 = .ok (.aload_n 0, 1) := by decide +kernel
theorem dX5_reachOf_20 : decode cX5_reachOf 20 = .ok (.getfield 12, 3) := by decide +kernel
theorem dX5_reachOf_23 : decode cX5_reachOf 23 = .ok (.getfield 67, 3) := by decide +kernel
theorem dX5_reachOf_26 : decode cX5_reachOf 26 = .ok (.iconst 1, 1) := by decide +kernel
theorem dX5_reachOf_27 : decode cX5_reachOf 27 = .ok (.isub, 1) := by decide +kernel
theorem dX5_reachOf_28 : decode cX5_reachOf 28 = .ok (.iload_n 3, 1) := by decide +kernel
theorem dX5_reachOf_29 : decode cX5_reachOf 29 = .ok (.isub, 1) := by decide +kernel
theorem dX5_reachOf_30 : decode cX5_reachOf 30 = .ok (.ireturn, 1) := by decide +kernel
theorem dX5_rise_0 : decode cX5_rise 0 = .ok (.iload_n 1, 1) := by decide +kernel
theorem dX5_rise_1 : decode cX5_rise 1 = .ok (.iload_n 2, 1) := by decide +kernel
theorem dX5_rise_2 : decode cX5_rise 2 = .ok (.iadd, 1) := by decide +kernel
theorem dX5_rise_3 : decode cX5_rise 3 = .ok (.istore_n 3, 1) := by decide +kernel
theorem dX5_rise_4 : decode cX5_rise 4 = .ok (.aload_n 0, 1) := by decide +kernel
theorem dX5_rise_5 : decode cX5_rise 5 = .ok (.getfield 12, 3) := by decide +kernel
theorem dX5_rise_8 : decode cX5_rise 8 = .ok (.getfield 71, 3) := by decide +kernel
theorem dX5_rise_11 : decode cX5_rise 11 = .ok (.iload_n 3, 1) := by decide +kernel
theorem dX5_rise_12 : decode cX5_rise 12 = .ok (.iaload, 1) := by decide +kernel
theorem dX5_rise_13 : decode cX5_rise 13 = .ok (.aload_n 0, 1) := by decide +kernel
theorem dX5_rise_14 : decode cX5_rise 14 = .ok (.getfield 18, 3) := by decide +kernel
theorem dX5_rise_17 : decode cX5_rise 17 = .ok (.iload_n 3, 1) := by decide +kernel
theorem dX5_rise_18 : decode cX5_rise 18 = .ok (.iaload, 1) := by decide +kernel
theorem dX5_rise_19 : decode cX5_rise 19 = .ok (.iadd, 1) := by decide +kernel
theorem dX5_rise_20 : decode cX5_rise 20 = .ok (.aload_n 0, 1) := by decide +kernel
theorem dX5_rise_21 : decode cX5_rise 21 = .ok (.getfield 12, 3) := by decide +kernel
theorem dX5_rise_24 : decode cX5_rise 24 = .ok (.getfield 71, 3) := by decide +kernel
theorem dX5_rise_27 : decode cX5_rise 27 = .ok (.iload_n 1, 1) := by decide +kernel
theorem dX5_rise_28 : decode cX5_rise 28 = .ok (.iaload, 1) := by decide +kernel
theorem dX5_rise_29 : decode cX5_rise 29 = .ok (.isub, 1) := by decide +kernel
theorem dX5_rise_30 : decode cX5_rise 30 = .ok (.ireturn, 1) := by decide +kernel
theorem dX6_init_0 : decode cX6_init 0 = .ok (.aload_n 0, 1) := by decide +kernel
theorem dX6_init_1 : decode cX6_init 1 = .ok (.invokespecial 1, 3) := by decide +kernel
theorem dX6_init_4 : decode cX6_init 4 = .ok (.aload_n 0, 1) := by decide +kernel
theorem dX6_init_5 : decode cX6_init 5 = .ok (.new 7, 3) := by decide +kernel
theorem dX6_init_8 : decode cX6_init 8 = .ok (.dup, 1) := by decide +kernel
theorem dX6_init_9 : decode cX6_init 9 = .ok (.invokespecial 9, 3) := by decide +kernel
theorem dX6_init_12 : decode cX6_init 12 = .ok (.putfield 10, 3) := by decide +kernel
theorem dX6_init_15 : decode cX6_init 15 = .ok (.aload_n 0, 1) := by decide +kernel
theorem dX6_init_16 : decode cX6_init 16 = .ok (.aload_n 0, 1) := by decide +kernel
theorem dX6_init_17 : decode cX6_init 17 = .ok (.getfield 10, 3) := by decide +kernel
theorem dX6_init_20 : decode cX6_init 20 = .ok (.getfield 16, 3) := by decide +kernel
theorem dX6_init_23 : decode cX6_init 23 = .ok (.putfield 20, 3) := by decide +kernel
theorem dX6_init_26 : decode cX6_init 26 = .ok (.aload_n 0, 1) := by decide +kernel
theorem dX6_init_27 : decode cX6_init 27 = .ok (.new 21, 3) := by decide +kernel
theorem dX6_init_30 : decode cX6_init 30 = .ok (.dup, 1) := by decide +kernel
theorem dX6_init_31 : decode cX6_init 31 = .ok (.invokespecial 23, 3) := by decide +kernel
theorem dX6_init_34 : decode cX6_init 34 = .ok (.putfield 24, 3) := by decide +kernel
theorem dX6_init_37 : decode cX6_init 37 = .ok (.aload_n 0, 1) := by decide +kernel
theorem dX6_init_38 : decode cX6_init 38 = .ok (.new 28, 3) := by decide +kernel
theorem dX6_init_41 : decode cX6_init 41 = .ok (.dup, 1) := by decide +kernel
theorem dX6_init_42 : decode cX6_init 42 = .ok (.invokespecial 30, 3) := by decide +kernel
theorem dX6_init_45 : decode cX6_init 45 = .ok (.putfield 31, 3) := by decide +kernel
theorem dX6_init_48 : decode cX6_init 48 = .ok (.aload_n 0, 1) := by decide +kernel
theorem dX6_init_49 : decode cX6_init 49 = .ok (.new 35, 3) := by decide +kernel
theorem dX6_init_52 : decode cX6_init 52 = .ok (.dup, 1) := by decide +kernel
theorem dX6_init_53 : decode cX6_init 53 = .ok (.invokespecial 37, 3) := by decide +kernel
theorem dX6_init_56 : decode cX6_init 56 = .ok (.putfield 38, 3) := by decide +kernel
theorem dX6_init_59 : decode cX6_init 59 = .ok (.aload_n 0, 1) := by decide +kernel
theorem dX6_init_60 : decode cX6_init 60 = .ok (.new 42, 3) := by decide +kernel
theorem dX6_init_63 : decode cX6_init 63 = .ok (.dup, 1) := by decide +kernel
theorem dX6_init_64 : decode cX6_init 64 = .ok (.invokespecial 44, 3) := by decide +kernel
theorem dX6_init_67 : decode cX6_init 67 = .ok (.putfield 45, 3) := by decide +kernel
theorem dX6_init_70 : decode cX6_init 70 = .ok (.aload_n 0, 1) := by decide +kernel
theorem dX6_init_71 : decode cX6_init 71 = .ok (.bipush 12, 2) := by decide +kernel
theorem dX6_init_73 : decode cX6_init 73 = .ok (.newarray .int, 2) := by decide +kernel
theorem dX6_init_75 : decode cX6_init 75 = .ok (.putfield 49, 3) := by decide +kernel
theorem dX6_init_78 : decode cX6_init 78 = .ok (.aload_n 0, 1) := by decide +kernel
theorem dX6_init_79 : decode cX6_init 79 = .ok (.bipush 16, 2) := by decide +kernel
theorem dX6_init_81 : decode cX6_init 81 = .ok (.newarray .int, 2) := by decide +kernel
theorem dX6_init_83 : decode cX6_init 83 = .ok (.putfield 53, 3) := by decide +kernel
theorem dX6_init_86 : decode cX6_init 86 = .ok (.aload_n 0, 1) := by decide +kernel
theorem dX6_init_87 : decode cX6_init 87 = .ok (.iconst 4, 1) := by decide +kernel
theorem dX6_init_88 : decode cX6_init 88 = .ok (.newarray .int, 2) := by decide +kernel
theorem dX6_init_90 : decode cX6_init 90 = .ok (.putfield 56, 3) := by decide +kernel
theorem dX6_init_93 : decode cX6_init 93 = .ok (.aload_n 0, 1) := by decide +kernel
theorem dX6_init_94 : decode cX6_init 94 = .ok (.bipush 12, 2) := by decide +kernel
theorem dX6_init_96 : decode cX6_init 96 = .ok (.newarray .int, 2) := by decide +kernel
theorem dX6_init_98 : decode cX6_init 98 = .ok (.putfield 59, 3) := by decide +kernel
theorem dX6_init_101 : decode cX6_init 101 = .ok (.aload_n 0, 1) := by decide +kernel
theorem dX6_init_102 : decode cX6_init 102 = .ok (.bipush 8, 2) := by decide +kernel
theorem dX6_init_104 : decode cX6_init 104 = .ok (.newarray .int, 2) := by decide +kernel
theorem dX6_init_106 : decode cX6_init 106 = .ok (.putfield 62, 3) := by decide +kernel
theorem dX6_init_109 : decode cX6_init 109 = .ok (.aload_n 0, 1) := by decide +kernel
theorem dX6_init_110 : decode cX6_init 110 = .ok (.bipush 8, 2) := by decide +kernel
theorem dX6_init_112 : decode cX6_init 112 = .ok (.newarray .int, 2) := by decide +kernel
theorem dX6_init_114 : decode cX6_init 114 = .ok (.putfield 65, 3) := by decide +kernel
theorem dX6_init_117 : decode cX6_init 117 = .ok (.aload_n 0, 1) := by decide +kernel
theorem dX6_init_118 : decode cX6_init 118 = .ok (.iconst 4, 1) := by decide +kernel
theorem dX6_init_119 : decode cX6_init 119 = .ok (.newarray .int, 2) := by decide +kernel
theorem dX6_init_121 : decode cX6_init 121 = .ok (.dup, 1) := by decide +kernel
theorem dX6_init_122 : decode cX6_init 122 = .ok (.iconst 0, 1) := by decide +kernel
theorem dX6_init_123 : decode cX6_init 123 = .ok (.iconst 4, 1) := by decide +kernel
theorem dX6_init_124 : decode cX6_init 124 = .ok (.iastore, 1) := by decide +kernel
theorem dX6_init_125 : decode cX6_init 125 = .ok (.dup, 1) := by decide +kernel
theorem dX6_init_126 : decode cX6_init 126 = .ok (.iconst 1, 1) := by decide +kernel
theorem dX6_init_127 : decode cX6_init 127 = .ok (.iconst 4, 1) := by decide +kernel
theorem dX6_init_128 : decode cX6_init 128 = .ok (.iastore, 1) := by decide +kernel
theorem dX6_init_129 : decode cX6_init 129 = .ok (.dup, 1) := by decide +kernel
theorem dX6_init_130 : decode cX6_init 130 = .ok (.iconst 2, 1) := by decide +kernel
theorem dX6_init_131 : decode cX6_init 131 = .ok (.iconst 4, 1) := by decide +kernel
theorem dX6_init_132 : decode cX6_init 132 = .ok (.iastore, 1) := by decide +kernel
theorem dX6_init_133 : decode cX6_init 133 = .ok (.dup, 1) := by decide +kernel
theorem dX6_init_134 : decode cX6_init 134 = .ok (.iconst 3, 1) := by decide +kernel
theorem dX6_init_135 : decode cX6_init 135 = .ok (.iconst 4, 1) := by decide +kernel
theorem dX6_init_136 : decode cX6_init 136 = .ok (.iastore, 1) := by decide +kernel
theorem dX6_init_137 : decode cX6_init 137 = .ok (.putfield 68, 3) := by decide +kernel
theorem dX6_init_140 : decode cX6_init 140 = .ok (.aload_n 0, 1) := by decide +kernel
theorem dX6_init_141 : decode cX6_init 141 = .ok (.getfield 53, 3) := by decide +kernel
theorem dX6_init_144 : decode cX6_init 144 = .ok (.iconst 1, 1) := by decide +kernel
theorem dX6_init_145 : decode cX6_init 145 = .ok (.invokestatic 71, 3) := by decide +kernel
theorem dX6_init_148 : decode cX6_init 148 = .ok (.return_, 1) := by decide +kernel
theorem dX6_type_0 : decode cX6_type 0 = .ok (.iload_n 1, 1) := by decide +kernel
theorem dX6_type_1 : decode cX6_type 1 = .ok (.sipush 256, 3) := by decide +kernel
theorem dX6_type_4 : decode cX6_type 4 = .ok (.invokestatic 77, 3) := by decide +kernel
theorem dX6_type_7 : decode cX6_type 7 = .ok (.ifCond .ne 6, 3) := by decide +kernel
theorem dX6_type_10 : decode cX6_type 10 = .ok (.bipush (-2), 2) := by decide +kernel
theorem dX6_type_12 : decode cX6_type 12 = .ok (.ireturn, 1) := by decide +kernel
theorem dX6_type_13 : decode cX6_type 13 = .ok (.aload_n 0, 1) := by decide +kernel
theorem dX6_type_14 : decode cX6_type 14 = .ok (.getfield 20, 3) := by decide +kernel
theorem dX6_type_17 : decode cX6_type 17 = .ok (.invokevirtual 81, 3) := by decide +kernel
theorem dX6_type_20 : decode cX6_type 20 = .ok (.ifCond .eq 6, 3) := by decide +kernel
theorem dX6_type_23 : decode cX6_type 23 = .ok (.bipush (-4), 2) := by decide +kernel
theorem dX6_type_25 : decode cX6_type 25 = .ok (.ireturn, 1) := by decide +kernel
theorem dX6_type_26 : decode cX6_type 26 = .ok (.aload_n 0, 1) := by decide +kernel
theorem dX6_type_27 : decode cX6_type 27 = .ok (.getfield 20, 3) := by decide +kernel
theorem dX6_type_30 : decode cX6_type 30 = .ok (.iload_n 1, 1) := by decide +kernel
theorem dX6_type_31 : decode cX6_type 31 = .ok (.invokevirtual 87, 3) := by decide +kernel
theorem dX6_type_34 : decode cX6_type 34 = .ok (.aload_n 0, 1) := by decide +kernel
theorem dX6_type_35 : decode cX6_type 35 = .ok (.invokevirtual 91, 3) := by decide +kernel
theorem dX6_type_38 : decode cX6_type 38 = .ok (.aload_n 0, 1) := by decide +kernel
theorem dX6_type_39 : decode cX6_type 39 = .ok (.getfield 20, 3) := by decide +kernel
theorem dX6_type_42 : decode cX6_type 42 = .ok (.invokevirtual 94, 3) := by decide +kernel
theorem dX6_type_45 : decode cX6_type 45 = .ok (.ireturn, 1) := by decide +kernel
theorem dX6_wipe_0 : decode cX6_wipe 0 = .ok (.aload_n 0, 1) := by decide +kernel
theorem dX6_wipe_1 : decode cX6_wipe 1 = .ok (.getfield 20, 3) := by decide +kernel
theorem dX6_wipe_4 : decode cX6_wipe 4 = .ok (.invokevirtual 94, 3) := by decide +kernel
theorem dX6_wipe_7 : decode cX6_wipe 7 = .ok (.istore_n 1, 1) := by decide +kernel
theorem dX6_wipe_8 : decode cX6_wipe 8 = .ok (.aload_n 0, 1) := by decide +kernel
theorem dX6_wipe_9 : decode cX6_wipe 9 = .ok (.getfield 20, 3) := by decide +kernel
theorem dX6_wipe_12 : decode cX6_wipe 12 = .ok (.invokevirtual 98, 3) := by decide +kernel
theorem dX6_wipe_15 : decode cX6_wipe 15 = .ok (.aload_n 0, 1) := by decide +kernel
theorem dX6_wipe_16 : decode cX6_wipe 16 = .ok (.invokevirtual 91, 3) := by decide +kernel
theorem dX6_wipe_19 : decode cX6_wipe 19 = .ok (.iload_n 1, 1) := by decide +kernel
theorem dX6_wipe_20 : decode cX6_wipe 20 = .ok (.ireturn, 1) := by decide +kernel
theorem dX6_fault_0 : decode cX6_fault 0 = .ok (.aload_n 0, 1) := by decide +kernel
theorem dX6_fault_1 : decode cX6_fault 1 = .ok (.getfield 20, 3) := by decide +kernel
theorem dX6_fault_4 : decode cX6_fault 4 = .ok (.invokevirtual 101, 3) := by decide +kernel
theorem dX6_fault_7 : decode cX6_fault 7 = .ok (.ireturn, 1) := by decide +kernel
theorem dX6_cell_0 : decode cX6_cell 0 = .ok (.aload_n 0, 1) := by decide +kernel
theorem dX6_cell_1 : decode cX6_cell 1 = .ok (.iload_n 1, 1) := by decide +kernel
theorem dX6_cell_2 : decode cX6_cell 2 = .ok (.invokevirtual 104, 3) := by decide +kernel
theorem dX6_cell_5 : decode cX6_cell 5 = .ok (.ifCond .eq 11, 3) := by decide +kernel
theorem dX6_cell_8 : decode cX6_cell 8 = .ok (.iload_n 2, 1) := by decide +kernel
theorem dX6_cell_9 : decode cX6_cell 9 = .ok (.iconst 3, 1) := by decide +kernel
theorem dX6_cell_10 : decode cX6_cell 10 = .ok (.invokestatic 77, 3) := by decide +kernel
theorem dX6_cell_13 : decode cX6_cell 13 = .ok (.ifCond .ne 6, 3) := by decide +kernel
theorem dX6_cell_16 : decode cX6_cell 16 = .ok (.bipush (-2), 2) := by decide +kernel
theorem dX6_cell_18 : decode cX6_cell 18 = .ok (.ireturn, 1) := by decide +kernel
theorem dX6_cell_19 : decode cX6_cell 19 = .ok (.iload_n 2, 1) := by decide +kernel
theorem dX6_cell_20 : decode cX6_cell 20 = .ok (.ifCond .ne 12, 3) := by decide +kernel
theorem dX6_cell_23 : decode cX6_cell 23 = .ok (.aload_n 0, 1) := by decide +kernel
theorem dX6_cell_24 : decode cX6_cell 24 = .ok (.getfield 20, 3) := by decide +kernel
theorem dX6_cell_27 : decode cX6_cell 27 = .ok (.iload_n 1, 1) := by decide +kernel
theorem dX6_cell_28 : decode cX6_cell 28 = .ok (.invokevirtual 108, 3) := by decide +kernel
theorem dX6_cell_31 : decode cX6_cell 31 = .ok (.ireturn, 1) := by decide +kernel
theorem dX6_cell_32 : decode cX6_cell 32 = .ok (.iload_n 2, 1) := by decide +kernel
theorem dX6_cell_33 : decode cX6_cell 33 = .ok (.iconst 1, 1) := by decide +kernel
theorem dX6_cell_34 : decode cX6_cell 34 = .ok (.if_icmp .ne 14, 3) := by decide +kernel
theorem dX6_cell_37 : decode cX6_cell 37 = .ok (.aload_n 0, 1) := by decide +kernel
theorem dX6_cell_38 : decode cX6_cell 38 = .ok (.getfield 10, 3) := by decide +kernel
theorem dX6_cell_41 : decode cX6_cell 41 = .ok (.iload_n 1, 1) := by decide +kernel
theorem dX6_cell_42 : decode cX6_cell 42 = .ok (.invokevirtual 112, 3) := by decide +kernel
theorem dX6_cell_45 : decode cX6_cell 45 = .ok (.goto 9, 3) := by decide +kernel
theorem dX6_cell_48 : decode cX6_cell 48 = .ok (.aload_n 0, 1) := by decide +kernel
theorem dX6_cell_49 : decode cX6_cell 49 = .ok (.getfield 49, 3) := by decide +kernel
theorem dX6_cell_52 : decode cX6_cell 52 = .ok (.iload_n 1, 1) := by decide +kernel
theorem dX6_cell_53 : decode cX6_cell 53 = .ok (.iaload, 1) := by decide +kernel
theorem dX6_cell_54 : decode cX6_cell 54 = .ok (.ireturn, 1) := by decide +kernel
theorem dX6_stand_0 : decode cX6_stand 0 = .ok (.iload_n 1, 1) := by decide +kernel
theorem dX6_stand_1 : decode cX6_stand 1 = .ok (.bipush 12, 2) := by decide +kernel
theorem dX6_stand_3 : decode cX6_stand 3 = .ok (.invokestatic 77, 3) := by decide +kernel
theorem dX6_stand_6 : decode cX6_stand 6 = .ok (.ifCond .eq 12, 3) := by decide +kernel
theorem dX6_stand_9 : decode cX6_stand 9 = .ok (.iload_n 2, 1) := by decide +kernel
theorem dX6_stand_10 : decode cX6_stand 10 = .ok (.bipush 21, 2) := by decide +kernel
theorem dX6_stand_12 : decode cX6_stand 12 = .ok (.invokestatic 77, 3) := by decide +kernel
theorem dX6_stand_15 : decode cX6_stand 15 = .ok (.ifCond .ne 6, 3) := by decide +kernel
theorem dX6_stand_18 : decode cX6_stand 18 = .ok (.bipush (-2), 2) := by decide +kernel
theorem dX6_stand_20 : decode cX6_stand 20 = .ok (.ireturn, 1) := by decide +kernel
theorem dX6_stand_21 : decode cX6_stand 21 = .ok (.aload_n 0, 1) := by decide +kernel
theorem dX6_stand_22 : decode cX6_stand 22 = .ok (.getfield 10, 3) := by decide +kernel
theorem dX6_stand_25 : decode cX6_stand 25 = .ok (.iload_n 1, 1) := by decide +kernel
theorem dX6_stand_26 : decode cX6_stand 26 = .ok (.iload_n 2, 1) := by decide +kernel
theorem dX6_stand_27 : decode cX6_stand 27 = .ok (.invokevirtual 115, 3) := by decide +kernel
theorem dX6_stand_30 : decode cX6_stand 30 = .ok (.istore_n 3, 1) := by decide +kernel
theorem dX6_stand_31 : decode cX6_stand 31 = .ok (.aload_n 0, 1) := by decide +kernel
theorem dX6_stand_32 : decode cX6_stand 32 = .ok (.invokevirtual 91, 3) := by decide +kernel
theorem dX6_stand_35 : decode cX6_stand 35 = .ok (.iload_n 3, 1) := by decide +kernel
theorem dX6_stand_36 : decode cX6_stand 36 = .ok (.ireturn, 1) := by decide +kernel
theorem dX6_owner_0 : decode cX6_owner 0 = .ok (.iload_n 1, 1) := by decide +kernel
theorem dX6_owner_1 : decode cX6_owner 1 = .ok (.bipush 12, 2) := by decide +kernel
theorem dX6_owner_3 : decode cX6_owner 3 = .ok (.invokestatic 77, 3) := by decide +kernel
theorem dX6_owner_6 : decode cX6_owner 6 = .ok (.ifCond .eq 11, 3) := by decide +kernel
theorem dX6_owner_9 : decode cX6_owner 9 = .ok (.iload_n 2, 1) := by decide +kernel
theorem dX6_owner_10 : decode cX6_owner 10 = .ok (.iconst 4, 1) := by decide +kernel
theorem dX6_owner_11 : decode cX6_owner 11 = .ok (.invokestatic 77, 3) := by decide +kernel
theorem dX6_owner_14 : decode cX6_owner 14 = .ok (.ifCond .ne 6, 3) := by decide +kernel
theorem dX6_owner_17 : decode cX6_owner 17 = .ok (.bipush (-2), 2) := by decide +kernel
theorem dX6_owner_19 : decode cX6_owner 19 = .ok (.ireturn, 1) := by decide +kernel
theorem dX6_owner_20 : decode cX6_owner 20 = .ok (.aload_n 0, 1) := by decide +kernel
theorem dX6_owner_21 : decode cX6_owner 21 = .ok (.getfield 49, 3) := by decide +kernel
theorem dX6_owner_24 : decode cX6_owner 24 = .ok (.iload_n 1, 1) := by decide +kernel
theorem dX6_owner_25 : decode cX6_owner 25 = .ok (.iaload, 1) := by decide +kernel
theorem dX6_owner_26 : decode cX6_owner 26 = .ok (.istore_n 3, 1) := by decide +kernel
theorem dX6_owner_27 : decode cX6_owner 27 = .ok (.aload_n 0, 1) := by decide +kernel
theorem dX6_owner_28 : decode cX6_owner 28 = .ok (.getfield 49, 3) := by decide +kernel
theorem dX6_owner_31 : decode cX6_owner 31 = .ok (.iload_n 1, 1) := by decide +kernel
theorem dX6_owner_32 : decode cX6_owner 32 = .ok (.iload_n 2, 1) := by decide +kernel
theorem dX6_owner_33 : decode cX6_owner 33 = .ok (.iastore, 1) := by decide +kernel
theorem dX6_owner_34 : decode cX6_owner 34 = .ok (.iload_n 3, 1) := by decide +kernel
theorem dX6_owner_35 : decode cX6_owner 35 = .ok (.ireturn, 1) := by decide +kernel
theorem dX6_read_0 : decode cX6_read 0 = .ok (.iload_n 1, 1) := by decide +kernel
theorem dX6_read_1 : decode cX6_read 1 = .ok (.iconst 4, 1) := by decide +kernel
theorem dX6_read_2 : decode cX6_read 2 = .ok (.invokestatic 77, 3) := by decide +kernel
theorem dX6_read_5 : decode cX6_read 5 = .ok (.ifCond .ne 6, 3) := by decide +kernel
theorem dX6_read_8 : decode cX6_read 8 = .ok (.bipush (-2), 2) := by decide +kernel
theorem dX6_read_10 : decode cX6_read 10 = .ok (.ireturn, 1) := by decide +kernel
theorem dX6_read_11 : decode cX6_read 11 = .ok (.aload_n 0, 1) := by decide +kernel
theorem dX6_read_12 : decode cX6_read 12 = .ok (.getfield 45, 3) := by decide +kernel
theorem dX6_read_15 : decode cX6_read 15 = .ok (.iload_n 1, 1) := by decide +kernel
theorem dX6_read_16 : decode cX6_read 16 = .ok (.invokevirtual 119, 3) := by decide +kernel
theorem dX6_read_19 : decode cX6_read 19 = .ok (.ifCond .eq 9, 3) := by decide +kernel
theorem dX6_read_22 : decode cX6_read 22 = .ok (.aload_n 0, 1) := by decide +kernel
theorem dX6_read_23 : decode cX6_read 23 = .ok (.iconst 1, 1) := by decide +kernel
theorem dX6_read_24 : decode cX6_read 24 = .ok (.invokevirtual 122, 3) := by decide +kernel
theorem dX6_read_27 : decode cX6_read 27 = .ok (.ireturn, 1) := by decide +kernel
theorem dX6_read_28 : decode cX6_read 28 = .ok (.bipush 12, 2) := by decide +kernel
theorem dX6_read_30 : decode cX6_read 30 = .ok (.aload_n 0, 1) := by decide +kernel
theorem dX6_read_31 : decode cX6_read 31 = .ok (.getfield 45, 3) := by decide +kernel
theorem dX6_read_34 : decode cX6_read 34 = .ok (.iload_n 1, 1) := by decide +kernel
theorem dX6_read_35 : decode cX6_read 35 = .ok (.invokevirtual 125, 3) := by decide +kernel
theorem dX6_read_38 : decode cX6_read 38 = .ok (.invokestatic 128, 3) := by decide +kernel
theorem dX6_read_41 : decode cX6_read 41 = .ok (.istore_n 2, 1) := by decide +kernel
theorem dX6_read_42 : decode cX6_read 42 = .ok (.iconst 0, 1) := by decide +kernel
theorem dX6_read_43 : decode cX6_read 43 = .ok (.istore_n 3, 1) := by decide +kernel
theorem dX6_read_44 : decode cX6_read 44 = .ok (.iload_n 3, 1) := by decide +kernel
theorem dX6_read_45 : decode cX6_read 45 = .ok (.iload_n 2, 1) := by decide +kernel
theorem dX6_read_46 : decode cX6_read 46 = .ok (.if_icmp .ge 40, 3) := by decide +kernel
theorem dX6_read_49 : decode cX6_read 49 = .ok (.aload_n 0, 1) := by decide +kernel
theorem dX6_read_50 : decode cX6_read 50 = .ok (.getfield 45, 3) := by decide +kernel
theorem dX6_read_53 : decode cX6_read 53 = .ok (.iload_n 1, 1) := by decide +kernel
theorem dX6_read_54 : decode cX6_read 54 = .ok (.iload_n 3, 1) := by decide +kernel
theorem dX6_read_55 : decode cX6_read 55 = .ok (.invokevirtual 133, 3) := by decide +kernel
theorem dX6_read_58 : decode cX6_read 58 = .ok (.iconst 4, 1) := by decide +kernel
theorem dX6_read_59 : decode cX6_read 59 = .ok (.invokestatic 77, 3) := by decide +kernel
theorem dX6_read_62 : decode cX6_read 62 = .ok (.ifCond .eq 24, 3) := by decide +kernel
theorem dX6_read_65 : decode cX6_read 65 = .ok (.aload_n 0, 1) := by decide +kernel
theorem dX6_read_66 : decode cX6_read 66 = .ok (.getfield 49, 3) := by decide +kernel
theorem dX6_read_69 : decode cX6_read 69 = .ok (.iload_n 3, 1) := by decide +kernel
theorem dX6_read_70 : decode cX6_read 70 = .ok (.aload_n 0, 1) := by decide +kernel
theorem dX6_read_71 : decode cX6_read 71 = .ok (.getfield 45, 3) := by decide +kernel
theorem dX6_read_74 : decode cX6_read 74 = .ok (.iload_n 1, 1) := by decide +kernel
theorem dX6_read_75 : decode cX6_read 75 = .ok (.iload_n 3, 1) := by decide +kernel
theorem dX6_read_76 : decode cX6_read 76 = .ok (.invokevirtual 133, 3) := by decide +kernel
theorem dX6_read_79 : decode cX6_read 79 = .ok (.iastore, 1) := by decide +kernel
theorem dX6_read_80 : decode cX6_read 80 = .ok (.iinc 3 1, 3) := by decide +kernel
theorem dX6_read_83 : decode cX6_read 83 = .ok (.goto (-39), 3) := by decide +kernel
theorem dX6_read_86 : decode cX6_read 86 = .ok (.iload_n 3, 1) := by decide +kernel
theorem dX6_read_87 : decode cX6_read 87 = .ok (.ireturn, 1) := by decide +kernel
theorem dX6_days_0 : decode cX6_days 0 = .ok (.iload_n 1, 1) := by decide +kernel
theorem dX6_days_1 : decode cX6_days 1 = .ok (.iconst 4, 1) := by decide +kernel
theorem dX6_days_2 : decode cX6_days 2 = .ok (.invokestatic 77, 3) := by decide +kernel
theorem dX6_days_5 : decode cX6_days 5 = .ok (.ifCond .eq 12, 3) := by decide +kernel
theorem dX6_days_8 : decode cX6_days 8 = .ok (.iload_n 2, 1) := by decide +kernel
theorem dX6_days_9 : decode cX6_days 9 = .ok (.bipush 100, 2) := by decide +kernel
theorem dX6_days_11 : decode cX6_days 11 = .ok (.invokestatic 77, 3) := by decide +kernel
theorem dX6_days_14 : decode cX6_days 14 = .ok (.ifCond .ne 6, 3) := by decide +kernel
theorem dX6_days_17 : decode cX6_days 17 = .ok (.bipush (-2), 2) := by decide +kernel
theorem dX6_days_19 : decode cX6_days 19 = .ok (.ireturn, 1) := by decide +kernel
theorem dX6_days_20 : decode cX6_days 20 = .ok (.aload_n 0, 1) := by decide +kernel
theorem dX6_days_21 : decode cX6_days 21 = .ok (.getfield 10, 3) := by decide +kernel
theorem dX6_days_24 : decode cX6_days 24 = .ok (.iload_n 1, 1) := by decide +kernel
theorem dX6_days_25 : decode cX6_days 25 = .ok (.iload_n 2, 1) := by decide +kernel
theorem dX6_days_26 : decode cX6_days 26 = .ok (.invokevirtual 136, 3) := by decide +kernel
theorem dX6_days_29 : decode cX6_days 29 = .ok (.istore_n 3, 1) := by decide +kernel
theorem dX6_days_30 : decode cX6_days 30 = .ok (.aload_n 0, 1) := by decide +kernel
theorem dX6_days_31 : decode cX6_days 31 = .ok (.invokevirtual 91, 3) := by decide +kernel
theorem dX6_days_34 : decode cX6_days 34 = .ok (.iload_n 3, 1) := by decide +kernel
theorem dX6_days_35 : decode cX6_days 35 = .ok (.ireturn, 1) := by decide +kernel
theorem dX6_steep_0 : decode cX6_steep 0 = .ok (.iload_n 1, 1) := by decide +kernel
theorem dX6_steep_1 : decode cX6_steep 1 = .ok (.iconst 4, 1) := by decide +kernel
theorem dX6_steep_2 : decode cX6_steep 2 = .ok (.invokestatic 77, 3) := by decide +kernel
theorem dX6_steep_5 : decode cX6_steep 5 = .ok (.ifCond .eq 12, 3) := by decide +kernel
theorem dX6_steep_8 : decode cX6_steep 8 = .ok (.iload_n 2, 1) := by decide +kernel
theorem dX6_steep_9 : decode cX6_steep 9 = .ok (.bipush 12, 2) := by decide +kernel
theorem dX6_steep_11 : decode cX6_steep 11 = .ok (.invokestatic 77, 3) := by decide +kernel
theorem dX6_steep_14 : decode cX6_steep 14 = .ok (.ifCond .ne 6, 3) := by decide +kernel
theorem dX6_steep_17 : decode cX6_steep 17 = .ok (.bipush (-2), 2) := by decide +kernel
theorem dX6_steep_19 : decode cX6_steep 19 = .ok (.ireturn, 1) := by decide +kernel
theorem dX6_steep_20 : decode cX6_steep 20 = .ok (.iload_n 1, 1) := by decide +kernel
theorem dX6_steep_21 : decode cX6_steep 21 = .ok (.iload_n 2, 1) := by decide +kernel
theorem dX6_steep_22 : decode cX6_steep 22 = .ok (.invokestatic 139, 3) := by decide +kernel
theorem dX6_steep_25 : decode cX6_steep 25 = .ok (.ireturn, 1) := by decide +kernel
theorem dX6_shade_0 : decode cX6_shade 0 = .ok (.aload_n 0, 1) := by decide +kernel
theorem dX6_shade_1 : decode cX6_shade 1 = .ok (.iload_n 1, 1) := by decide +kernel
theorem dX6_shade_2 : decode cX6_shade 2 = .ok (.invokevirtual 104, 3) := by decide +kernel
theorem dX6_shade_5 : decode cX6_shade 5 = .ok (.ifCond .eq 20, 3) := by decide +kernel
theorem dX6_shade_8 : decode cX6_shade 8 = .ok (.iload_n 2, 1) := by decide +kernel
theorem dX6_shade_9 : decode cX6_shade 9 = .ok (.iconst 4, 1) := by decide +kernel
theorem dX6_shade_10 : decode cX6_shade 10 = .ok (.invokestatic 77, 3) := by decide +kernel
theorem dX6_shade_13 : decode cX6_shade 13 = .ok (.ifCond .eq 12, 3) := by decide +kernel
theorem dX6_shade_16 : decode cX6_shade 16 = .ok (.iload_n 3, 1) := by decide +kernel
theorem dX6_shade_17 : decode cX6_shade 17 = .ok (.bipush 12, 2) := by decide +kernel
theorem dX6_shade_19 : decode cX6_shade 19 = .ok (.invokestatic 77, 3) := by decide +kernel
theorem dX6_shade_22 : decode cX6_shade 22 = .ok (.ifCond .ne 6, 3) := by decide +kernel
theorem dX6_shade_25 : decode cX6_shade 25 = .ok (.bipush (-2), 2) := by decide +kernel
theorem dX6_shade_27 : decode cX6_shade 27 = .ok (.ireturn, 1) := by decide +kernel
theorem dX6_shade_28 : decode cX6_shade 28 = .ok (.aload_n 0, 1) := by decide +kernel
theorem dX6_shade_29 : decode cX6_shade 29 = .ok (.getfield 10, 3) := by decide +kernel
theorem dX6_shade_32 : decode cX6_shade 32 = .ok (.iload_n 1, 1) := by decide +kernel
theorem dX6_shade_33 : decode cX6_shade 33 = .ok (.iload_n 2, 1) := by decide +kernel
theorem dX6_shade_34 : decode cX6_shade 34 = .ok (.iload_n 3, 1) := by decide +kernel
theorem dX6_shade_35 : decode cX6_shade 35 = .ok (.invokevirtual 142, 3) := by decide +kernel
theorem dX6_shade_38 : decode cX6_shade 38 = .ok (.ireturn, 1) := by decide +kernel
theorem dX6_light_0 : decode cX6_light 0 = .ok (.aload_n 0, 1) := by decide +kernel
theorem dX6_light_1 : decode cX6_light 1 = .ok (.iload_n 1, 1) := by decide +kernel
theorem dX6_light_2 : decode cX6_light 2 = .ok (.invokevirtual 104, 3) := by decide +kernel
theorem dX6_light_5 : decode cX6_light 5 = .ok (.ifCond .eq 11, 3) := by decide +kernel
theorem dX6_light_8 : decode cX6_light 8 = .ok (.iload_n 2, 1) := by decide +kernel
theorem dX6_light_9 : decode cX6_light 9 = .ok (.iconst 4, 1) := by decide +kernel
theorem dX6_light_10 : decode cX6_light 10 = .ok (.invokestatic 77, 3) := by decide +kernel
theorem dX6_light_13 : decode cX6_light 13 = .ok (.ifCond .ne 6, 3) := by decide +kernel
theorem dX6_light_16 : decode cX6_light 16 = .ok (.bipush (-2), 2) := by decide +kernel
theorem dX6_light_18 : decode cX6_light 18 = .ok (.ireturn, 1) := by decide +kernel
theorem dX6_light_19 : decode cX6_light 19 = .ok (.aload_n 0, 1) := by decide +kernel
theorem dX6_light_20 : decode cX6_light 20 = .ok (.getfield 10, 3) := by decide +kernel
theorem dX6_light_23 : decode cX6_light 23 = .ok (.iload_n 1, 1) := by decide +kernel
theorem dX6_light_24 : decode cX6_light 24 = .ok (.iload_n 2, 1) := by decide +kernel
theorem dX6_light_25 : decode cX6_light 25 = .ok (.invokevirtual 146, 3) := by decide +kernel
theorem dX6_light_28 : decode cX6_light 28 = .ok (.ireturn, 1) := by decide +kernel
theorem dX6_hours_0 : decode cX6_hours 0 = .ok (.aload_n 0, 1) := by decide +kernel
theorem dX6_hours_1 : decode cX6_hours 1 = .ok (.iload_n 1, 1) := by decide +kernel
theorem dX6_hours_2 : decode cX6_hours 2 = .ok (.invokevirtual 104, 3) := by decide +kernel
theorem dX6_hours_5 : decode cX6_hours 5 = .ok (.ifCond .eq 16, 3) := by decide +kernel
theorem dX6_hours_8 : decode cX6_hours 8 = .ok (.iload_n 2, 1) := by decide +kernel
theorem dX6_hours_9 : decode cX6_hours 9 = .ok (.iconst (-1), 1) := by decide +kernel
theorem dX6_hours_10 : decode cX6_hours 10 = .ok (.if_icmp .eq 14, 3) := by decide +kernel
theorem dX6_hours_13 : decode cX6_hours 13 = .ok (.iload_n 2, 1) := by decide +kernel
theorem dX6_hours_14 : decode cX6_hours 14 = .ok (.iconst 4, 1) := by decide +kernel
theorem dX6_hours_15 : decode cX6_hours 15 = .ok (.invokestatic 77, 3) := by decide +kernel
theorem dX6_hours_18 : decode cX6_hours 18 = .ok (.ifCond .ne 6, 3) := by decide +kernel
theorem dX6_hours_21 : decode cX6_hours 21 = .ok (.bipush (-2), 2) := by decide +kernel
theorem dX6_hours_23 : decode cX6_hours 23 = .ok (.ireturn, 1) := by decide +kernel
theorem dX6_hours_24 : decode cX6_hours 24 = .ok (.iload_n 2, 1) := by decide +kernel
theorem dX6_hours_25 : decode cX6_hours 25 = .ok (.iconst (-1), 1) := by decide +kernel
theorem dX6_hours_26 : decode cX6_hours 26 = .ok (.if_icmp .ne 14, 3) := by decide +kernel
theorem dX6_hours_29 : decode cX6_hours 29 = .ok (.aload_n 0, 1) := by decide +kernel
theorem dX6_hours_30 : decode cX6_hours 30 = .ok (.getfield 10, 3) := by decide +kernel
theorem dX6_hours_33 : decode cX6_hours 33 = .ok (.iload_n 1, 1) := by decide +kernel
theorem dX6_hours_34 : decode cX6_hours 34 = .ok (.invokevirtual 149, 3) := by decide +kernel
theorem dX6_hours_37 : decode cX6_hours 37 = .ok (.goto 12, 3) := by decide +kernel
theorem dX6_hours_40 : decode cX6_hours 40 = .ok (.aload_n 0, 1) := by decide +kernel
theorem dX6_hours_41 : decode cX6_hours 41 = .ok (.getfield 10, 3) := by decide +kernel
theorem dX6_hours_44 : decode cX6_hours 44 = .ok (.iload_n 1, 1) := by decide +kernel
theorem dX6_hours_45 : decode cX6_hours 45 = .ok (.iload_n 2, 1) := by decide +kernel
theorem dX6_hours_46 : decode cX6_hours 46 = .ok (.invokevirtual 152, 3) := by decide +kernel
theorem dX6_hours_49 : decode cX6_hours 49 = .ok (.ireturn, 1) := by decide +kernel
theorem dX6_has_0 : decode cX6_has 0 = .ok (.iload_n 1, 1) := by decide +kernel
theorem dX6_has_1 : decode cX6_has 1 = .ok (.iconst 4, 1) := by decide +kernel
theorem dX6_has_2 : decode cX6_has 2 = .ok (.invokestatic 77, 3) := by decide +kernel
theorem dX6_has_5 : decode cX6_has 5 = .ok (.ifCond .eq 11, 3) := by decide +kernel
theorem dX6_has_8 : decode cX6_has 8 = .ok (.iload_n 2, 1) := by decide +kernel
theorem dX6_has_9 : decode cX6_has 9 = .ok (.iconst 2, 1) := by decide +kernel
theorem dX6_has_10 : decode cX6_has 10 = .ok (.invokestatic 77, 3) := by decide +kernel
theorem dX6_has_13 : decode cX6_has 13 = .ok (.ifCond .ne 6, 3) := by decide +kernel
theorem dX6_has_16 : decode cX6_has 16 = .ok (.bipush (-2), 2) := by decide +kernel
theorem dX6_has_18 : decode cX6_has 18 = .ok (.ireturn, 1) := by decide +kernel
theorem dX6_has_19 : decode cX6_has 19 = .ok (.iconst 0, 1) := by decide +kernel
theorem dX6_has_20 : decode cX6_has 20 = .ok (.istore_n 3, 1) := by decide +kernel
theorem dX6_has_21 : decode cX6_has 21 = .ok (.iconst 0, 1) := by decide +kernel
theorem dX6_has_22 : decode cX6_has 22 = .ok (.istore 4, 2) := by decide +kernel
theorem dX6_has_24 : decode cX6_has 24 = .ok (.iconst 0, 1) := by decide +kernel
theorem dX6_has_25 : decode cX6_has 25 = .ok (.istore 5, 2) := by decide +kernel
theorem dX6_has_27 : decode cX6_has 27 = .ok (.iload 5, 2) := by decide +kernel
theorem dX6_has_29 : decode cX6_has 29 = .ok (.aload_n 0, 1) := by decide +kernel
theorem dX6_has_30 : decode cX6_has 30 = .ok (.getfield 20, 3) := by decide +kernel
theorem dX6_has_33 : decode cX6_has 33 = .ok (.invokevirtual 155, 3) := by decide +kernel
theorem dX6_has_36 : decode cX6_has 36 = .ok (.if_icmp .ge 41, 3) := by decide +kernel
theorem dX6_has_39 : decode cX6_has 39 = .ok (.aload_n 0, 1) := by decide +kernel
theorem dX6_has_40 : decode cX6_has 40 = .ok (.getfield 49, 3) := by decide +kernel
theorem dX6_has_43 : decode cX6_has 43 = .ok (.iload 5, 2) := by decide +kernel
theorem dX6_has_45 : decode cX6_has 45 = .ok (.iaload, 1) := by decide +kernel
theorem dX6_has_46 : decode cX6_has 46 = .ok (.iload_n 1, 1) := by decide +kernel
theorem dX6_has_47 : decode cX6_has 47 = .ok (.if_icmp .ne 24, 3) := by decide +kernel
theorem dX6_has_50 : decode cX6_has 50 = .ok (.iload_n 3, 1) := by decide +kernel
theorem dX6_has_51 : decode cX6_has 51 = .ok (.iconst 1, 1) := by decide +kernel
theorem dX6_has_52 : decode cX6_has 52 = .ok (.iload 5, 2) := by decide +kernel
theorem dX6_has_54 : decode cX6_has 54 = .ok (.ishl, 1) := by decide +kernel
theorem dX6_has_55 : decode cX6_has 55 = .ok (.ior, 1) := by decide +kernel
theorem dX6_has_56 : decode cX6_has 56 = .ok (.istore_n 3, 1) := by decide +kernel
theorem dX6_has_57 : decode cX6_has 57 = .ok (.iload 4, 2) := by decide +kernel
theorem dX6_has_59 : decode cX6_has 59 = .ok (.aload_n 0, 1) := by decide +kernel
theorem dX6_has_60 : decode cX6_has 60 = .ok (.getfield 10, 3) := by decide +kernel
theorem dX6_has_63 : decode cX6_has 63 = .ok (.iload 5, 2) := by decide +kernel
theorem dX6_has_65 : decode cX6_has 65 = .ok (.invokevirtual 149, 3) := by decide +kernel
theorem dX6_has_68 : decode cX6_has 68 = .ok (.iadd, 1) := by decide +kernel
theorem dX6_has_69 : decode cX6_has 69 = .ok (.istore 4, 2) := by decide +kernel
theorem dX6_has_71 : decode cX6_has 71 = .ok (.iinc 5 1, 3) := by decide +kernel
theorem dX6_has_74 : decode cX6_has 74 = .ok (.goto (-47), 3) := by decide +kernel
theorem dX6_has_77 : decode cX6_has 77 = .ok (.iload_n 2, 1) := by decide +kernel
theorem dX6_has_78 : decode cX6_has 78 = .ok (.ifCond .ne 7, 3) := by decide +kernel
theorem dX6_has_81 : decode cX6_has 81 = .ok (.iload_n 3, 1) := by decide +kernel
theorem dX6_has_82 : decode cX6_has 82 = .ok (.goto 5, 3) := by decide +kernel
theorem dX6_has_85 : decode cX6_has 85 = .ok (.iload 4, 2) := by decide +kernel
theorem dX6_has_87 : decode cX6_has 87 = .ok (.ireturn, 1) := by decide +kernel
theorem dX6_parts_0 : decode cX6_parts 0 = .ok (.iload_n 1, 1) := by decide +kernel
theorem dX6_parts_1 : decode cX6_parts 1 = .ok (.iconst 2, 1) := by decide +kernel
theorem dX6_parts_2 : decode cX6_parts 2 = .ok (.invokestatic 77, 3) := by decide +kernel
theorem dX6_parts_5 : decode cX6_parts 5 = .ok (.ifCond .ne 6, 3) := by decide +kernel
theorem dX6_parts_8 : decode cX6_parts 8 = .ok (.bipush (-2), 2) := by decide +kernel
theorem dX6_parts_10 : decode cX6_parts 10 = .ok (.ireturn, 1) := by decide +kernel
theorem dX6_parts_11 : decode cX6_parts 11 = .ok (.aload_n 0, 1) := by decide +kernel
theorem dX6_parts_12 : decode cX6_parts 12 = .ok (.invokevirtual 158, 3) := by decide +kernel
theorem dX6_parts_15 : decode cX6_parts 15 = .ok (.iload_n 1, 1) := by decide +kernel
theorem dX6_parts_16 : decode cX6_parts 16 = .ok (.ifCond .ne 13, 3) := by decide +kernel
theorem dX6_parts_19 : decode cX6_parts 19 = .ok (.aload_n 0, 1) := by decide +kernel
theorem dX6_parts_20 : decode cX6_parts 20 = .ok (.getfield 24, 3) := by decide +kernel
theorem dX6_parts_23 : decode cX6_parts 23 = .ok (.invokevirtual 161, 3) := by decide +kernel
theorem dX6_parts_26 : decode cX6_parts 26 = .ok (.goto 10, 3) := by decide +kernel
theorem dX6_parts_29 : decode cX6_parts 29 = .ok (.aload_n 0, 1) := by decide +kernel
theorem dX6_parts_30 : decode cX6_parts 30 = .ok (.getfield 24, 3) := by decide +kernel
theorem dX6_parts_33 : decode cX6_parts 33 = .ok (.invokevirtual 164, 3) := by decide +kernel
theorem dX6_parts_36 : decode cX6_parts 36 = .ok (.ireturn, 1) := by decide +kernel
theorem dX6_taken_0 : decode cX6_taken 0 = .ok (.aload_n 0, 1) := by decide +kernel
theorem dX6_taken_1 : decode cX6_taken 1 = .ok (.iload_n 1, 1) := by decide +kernel
theorem dX6_taken_2 : decode cX6_taken 2 = .ok (.invokevirtual 104, 3) := by decide +kernel
theorem dX6_taken_5 : decode cX6_taken 5 = .ok (.ifCond .eq 20, 3) := by decide +kernel
theorem dX6_taken_8 : decode cX6_taken 8 = .ok (.iload_n 2, 1) := by decide +kernel
theorem dX6_taken_9 : decode cX6_taken 9 = .ok (.bipush 21, 2) := by decide +kernel
theorem dX6_taken_11 : decode cX6_taken 11 = .ok (.invokestatic 77, 3) := by decide +kernel
theorem dX6_taken_14 : decode cX6_taken 14 = .ok (.ifCond .eq 11, 3) := by decide +kernel
theorem dX6_taken_17 : decode cX6_taken 17 = .ok (.iload_n 3, 1) := by decide +kernel
theorem dX6_taken_18 : decode cX6_taken 18 = .ok (.iconst 4, 1) := by decide +kernel
theorem dX6_taken_19 : decode cX6_taken 19 = .ok (.invokestatic 77, 3) := by decide +kernel
theorem dX6_taken_22 : decode cX6_taken 22 = .ok (.ifCond .ne 6, 3) := by decide +kernel
theorem dX6_taken_25 : decode cX6_taken 25 = .ok (.ldc 167, 2) := by decide +kernel
theorem dX6_taken_27 : decode cX6_taken 27 = .ok (.ireturn, 1) := by decide +kernel
theorem dX6_taken_28 : decode cX6_taken 28 = .ok (.aload_n 0, 1) := by decide +kernel
theorem dX6_taken_29 : decode cX6_taken 29 = .ok (.iload_n 1, 1) := by decide +kernel
theorem dX6_taken_30 : decode cX6_taken 30 = .ok (.iload_n 2, 1) := by decide +kernel
theorem dX6_taken_31 : decode cX6_taken 31 = .ok (.invokevirtual 168, 3) := by decide +kernel
theorem dX6_taken_34 : decode cX6_taken 34 = .ok (.aload_n 0, 1) := by decide +kernel
theorem dX6_taken_35 : decode cX6_taken 35 = .ok (.getfield 56, 3) := by decide +kernel
theorem dX6_taken_38 : decode cX6_taken 38 = .ok (.iload_n 3, 1) := by decide +kernel
theorem dX6_taken_39 : decode cX6_taken 39 = .ok (.iaload, 1) := by decide +kernel
theorem dX6_taken_40 : decode cX6_taken 40 = .ok (.ireturn, 1) := by decide +kernel
theorem dX6_highest_0 : decode cX6_highest 0 = .ok (.aload_n 0, 1) := by decide +kernel
theorem dX6_highest_1 : decode cX6_highest 1 = .ok (.iload_n 1, 1) := by decide +kernel
theorem dX6_highest_2 : decode cX6_highest 2 = .ok (.invokevirtual 104, 3) := by decide +kernel
theorem dX6_highest_5 : decode cX6_highest 5 = .ok (.ifCond .eq 12, 3) := by decide +kernel
theorem dX6_highest_8 : decode cX6_highest 8 = .ok (.iload_n 2, 1) := by decide +kernel
theorem dX6_highest_9 : decode cX6_highest 9 = .ok (.ldc 172, 2) := by decide +kernel
theorem dX6_highest_11 : decode cX6_highest 11 = .ok (.invokestatic 77, 3) := by decide +kernel
theorem dX6_highest_14 : decode cX6_highest 14 = .ok (.ifCond .ne 6, 3) := by decide +kernel
theorem dX6_highest_17 : decode cX6_highest 17 = .ok (.bipush (-2), 2) := by decide +kernel
theorem dX6_highest_19 : decode cX6_highest 19 = .ok (.ireturn, 1) := by decide +kernel
theorem dX6_highest_20 : decode cX6_highest 20 = .ok (.iconst 0, 1) := by decide +kernel
theorem dX6_highest_21 : decode cX6_highest 21 = .ok (.istore_n 3, 1) := by decide +kernel
theorem dX6_highest_22 : decode cX6_highest 22 = .ok (.bipush 16, 2) := by decide +kernel
theorem dX6_highest_24 : decode cX6_highest 24 = .ok (.istore 4, 2) := by decide +kernel
theorem dX6_highest_26 : decode cX6_highest 26 = .ok (.iload 4, 2) := by decide +kernel
theorem dX6_highest_28 : decode cX6_highest 28 = .ok (.ifCond .le 47, 3) := by decide +kernel
theorem dX6_highest_31 : decode cX6_highest 31 = .ok (.iload_n 3, 1) := by decide +kernel
theorem dX6_highest_32 : decode cX6_highest 32 = .ok (.iload 4, 2) := by decide +kernel
theorem dX6_highest_34 : decode cX6_highest 34 = .ok (.iadd, 1) := by decide +kernel
theorem dX6_highest_35 : decode cX6_highest 35 = .ok (.bipush 20, 2) := by decide +kernel
theorem dX6_highest_37 : decode cX6_highest 37 = .ok (.if_icmp .gt 29, 3) := by decide +kernel
theorem dX6_highest_40 : decode cX6_highest 40 = .ok (.aload_n 0, 1) := by decide +kernel
theorem dX6_highest_41 : decode cX6_highest 41 = .ok (.iload_n 1, 1) := by decide +kernel
theorem dX6_highest_42 : decode cX6_highest 42 = .ok (.iload_n 3, 1) := by decide +kernel
theorem dX6_highest_43 : decode cX6_highest 43 = .ok (.iload 4, 2) := by decide +kernel
theorem dX6_highest_45 : decode cX6_highest 45 = .ok (.iadd, 1) := by decide +kernel
theorem dX6_highest_46 : decode cX6_highest 46 = .ok (.invokevirtual 168, 3) := by decide +kernel
theorem dX6_highest_49 : decode cX6_highest 49 = .ok (.iload_n 3, 1) := by decide +kernel
theorem dX6_highest_50 : decode cX6_highest 50 = .ok (.aload_n 0, 1) := by decide +kernel
theorem dX6_highest_51 : decode cX6_highest 51 = .ok (.invokevirtual 173, 3) := by decide +kernel
theorem dX6_highest_54 : decode cX6_highest 54 = .ok (.iload_n 2, 1) := by decide +kernel
theorem dX6_highest_55 : decode cX6_highest 55 = .ok (.if_icmp .gt 8, 3) := by decide +kernel
theorem dX6_highest_58 : decode cX6_highest 58 = .ok (.iload 4, 2) := by decide +kernel
theorem dX6_highest_60 : decode cX6_highest 60 = .ok (.goto 4, 3) := by decide +kernel
theorem dX6_highest_63 : decode cX6_highest 63 = .ok (.iconst 0, 1) := by decide +kernel
theorem dX6_highest_64 : decode cX6_highest 64 = .ok (.iadd, 1) := by decide +kernel
theorem dX6_highest_65 : decode cX6_highest 65 = .ok (.istore_n 3, 1) := by decide +kernel
theorem dX6_highest_66 : decode cX6_highest 66 = .ok (.iload 4, 2) := by decide +kernel
theorem dX6_highest_68 : decode cX6_highest 68 = .ok (.iconst 1, 1) := by decide +kernel
theorem dX6_highest_69 : decode cX6_highest 69 = .ok (.ishr, 1) := by decide +kernel
theorem dX6_highest_70 : decode cX6_highest 70 = .ok (.istore 4, 2) := by decide +kernel
theorem dX6_highest_72 : decode cX6_highest 72 = .ok (.goto (-46), 3) := by decide +kernel
theorem dX6_highest_75 : decode cX6_highest 75 = .ok (.iload_n 3, 1) := by decide +kernel
theorem dX6_highest_76 : decode cX6_highest 76 = .ok (.ireturn, 1) := by decide +kernel
theorem dX6_again_0 : decode cX6_again 0 = .ok (.aload_n 0, 1) := by decide +kernel
theorem dX6_again_1 : decode cX6_again 1 = .ok (.iload_n 1, 1) := by decide +kernel
theorem dX6_again_2 : decode cX6_again 2 = .ok (.invokevirtual 104, 3) := by decide +kernel
theorem dX6_again_5 : decode cX6_again 5 = .ok (.ifCond .eq 20, 3) := by decide +kernel
theorem dX6_again_8 : decode cX6_again 8 = .ok (.iload_n 2, 1) := by decide +kernel
theorem dX6_again_9 : decode cX6_again 9 = .ok (.ldc 172, 2) := by decide +kernel
theorem dX6_again_11 : decode cX6_again 11 = .ok (.invokestatic 77, 3) := by decide +kernel
theorem dX6_again_14 : decode cX6_again 14 = .ok (.ifCond .eq 11, 3) := by decide +kernel
theorem dX6_again_17 : decode cX6_again 17 = .ok (.iload_n 3, 1) := by decide +kernel
theorem dX6_again_18 : decode cX6_again 18 = .ok (.iconst 2, 1) := by decide +kernel
theorem dX6_again_19 : decode cX6_again 19 = .ok (.invokestatic 77, 3) := by decide +kernel
theorem dX6_again_22 : decode cX6_again 22 = .ok (.ifCond .ne 6, 3) := by decide +kernel
theorem dX6_again_25 : decode cX6_again 25 = .ok (.bipush (-2), 2) := by decide +kernel
theorem dX6_again_27 : decode cX6_again 27 = .ok (.ireturn, 1) := by decide +kernel
theorem dX6_again_28 : decode cX6_again 28 = .ok (.aload_n 0, 1) := by decide +kernel
theorem dX6_again_29 : decode cX6_again 29 = .ok (.invokevirtual 158, 3) := by decide +kernel
theorem dX6_again_32 : decode cX6_again 32 = .ok (.aload_n 0, 1) := by decide +kernel
theorem dX6_again_33 : decode cX6_again 33 = .ok (.getfield 10, 3) := by decide +kernel
theorem dX6_again_36 : decode cX6_again 36 = .ok (.iload_n 1, 1) := by decide +kernel
theorem dX6_again_37 : decode cX6_again 37 = .ok (.invokevirtual 112, 3) := by decide +kernel
theorem dX6_again_40 : decode cX6_again 40 = .ok (.ifCond .eq 14, 3) := by decide +kernel
theorem dX6_again_43 : decode cX6_again 43 = .ok (.aload_n 0, 1) := by decide +kernel
theorem dX6_again_44 : decode cX6_again 44 = .ok (.getfield 24, 3) := by decide +kernel
theorem dX6_again_47 : decode cX6_again 47 = .ok (.invokevirtual 164, 3) := by decide +kernel
theorem dX6_again_50 : decode cX6_again 50 = .ok (.iconst (-1), 1) := by decide +kernel
theorem dX6_again_51 : decode cX6_again 51 = .ok (.if_icmp .ne 6, 3) := by decide +kernel
theorem dX6_again_54 : decode cX6_again 54 = .ok (.bipush (-3), 2) := by decide +kernel
theorem dX6_again_56 : decode cX6_again 56 = .ok (.ireturn, 1) := by decide +kernel
theorem dX6_again_57 : decode cX6_again 57 = .ok (.aload_n 0, 1) := by decide +kernel
theorem dX6_again_58 : decode cX6_again 58 = .ok (.iload_n 1, 1) := by decide +kernel
theorem dX6_again_59 : decode cX6_again 59 = .ok (.invokevirtual 176, 3) := by decide +kernel
theorem dX6_again_62 : decode cX6_again 62 = .ok (.aload_n 0, 1) := by decide +kernel
theorem dX6_again_63 : decode cX6_again 63 = .ok (.getfield 24, 3) := by decide +kernel
theorem dX6_again_66 : decode cX6_again 66 = .ok (.aload_n 0, 1) := by decide +kernel
theorem dX6_again_67 : decode cX6_again 67 = .ok (.getfield 20, 3) := by decide +kernel
theorem dX6_again_70 : decode cX6_again 70 = .ok (.aload_n 0, 1) := by decide +kernel
theorem dX6_again_71 : decode cX6_again 71 = .ok (.getfield 59, 3) := by decide +kernel
theorem dX6_again_74 : decode cX6_again 74 = .ok (.iload_n 2, 1) := by decide +kernel
theorem dX6_again_75 : decode cX6_again 75 = .ok (.invokevirtual 179, 3) := by decide +kernel
theorem dX6_again_78 : decode cX6_again 78 = .ok (.iload_n 3, 1) := by decide +kernel
theorem dX6_again_79 : decode cX6_again 79 = .ok (.ifCond .ne 13, 3) := by decide +kernel
theorem dX6_again_82 : decode cX6_again 82 = .ok (.aload_n 0, 1) := by decide +kernel
theorem dX6_again_83 : decode cX6_again 83 = .ok (.getfield 24, 3) := by decide +kernel
theorem dX6_again_86 : decode cX6_again 86 = .ok (.invokevirtual 183, 3) := by decide +kernel
theorem dX6_again_89 : decode cX6_again 89 = .ok (.goto 10, 3) := by decide +kernel
theorem dX6_again_92 : decode cX6_again 92 = .ok (.aload_n 0, 1) := by decide +kernel
theorem dX6_again_93 : decode cX6_again 93 = .ok (.getfield 24, 3) := by decide +kernel
theorem dX6_again_96 : decode cX6_again 96 = .ok (.invokevirtual 186, 3) := by decide +kernel
theorem dX6_again_99 : decode cX6_again 99 = .ok (.ireturn, 1) := by decide +kernel
theorem dX6_worth_0 : decode cX6_worth 0 = .ok (.iload_n 1, 1) := by decide +kernel
theorem dX6_worth_1 : decode cX6_worth 1 = .ok (.iconst 4, 1) := by decide +kernel
theorem dX6_worth_2 : decode cX6_worth 2 = .ok (.invokestatic 77, 3) := by decide +kernel
theorem dX6_worth_5 : decode cX6_worth 5 = .ok (.ifCond .eq 20, 3) := by decide +kernel
theorem dX6_worth_8 : decode cX6_worth 8 = .ok (.iload_n 2, 1) := by decide +kernel
theorem dX6_worth_9 : decode cX6_worth 9 = .ok (.iconst 4, 1) := by decide +kernel
theorem dX6_worth_10 : decode cX6_worth 10 = .ok (.invokestatic 77, 3) := by decide +kernel
theorem dX6_worth_13 : decode cX6_worth 13 = .ok (.ifCond .eq 12, 3) := by decide +kernel
theorem dX6_worth_16 : decode cX6_worth 16 = .ok (.iload_n 3, 1) := by decide +kernel
theorem dX6_worth_17 : decode cX6_worth 17 = .ok (.bipush 10, 2) := by decide +kernel
theorem dX6_worth_19 : decode cX6_worth 19 = .ok (.invokestatic 77, 3) := by decide +kernel
theorem dX6_worth_22 : decode cX6_worth 22 = .ok (.ifCond .ne 6, 3) := by decide +kernel
theorem dX6_worth_25 : decode cX6_worth 25 = .ok (.bipush (-2), 2) := by decide +kernel
theorem dX6_worth_27 : decode cX6_worth 27 = .ok (.ireturn, 1) := by decide +kernel
theorem dX6_worth_28 : decode cX6_worth 28 = .ok (.iload_n 1, 1) := by decide +kernel
theorem dX6_worth_29 : decode cX6_worth 29 = .ok (.iconst 4, 1) := by decide +kernel
theorem dX6_worth_30 : decode cX6_worth 30 = .ok (.imul, 1) := by decide +kernel
theorem dX6_worth_31 : decode cX6_worth 31 = .ok (.iload_n 2, 1) := by decide +kernel
theorem dX6_worth_32 : decode cX6_worth 32 = .ok (.iadd, 1) := by decide +kernel
theorem dX6_worth_33 : decode cX6_worth 33 = .ok (.istore 4, 2) := by decide +kernel
theorem dX6_worth_35 : decode cX6_worth 35 = .ok (.aload_n 0, 1) := by decide +kernel
theorem dX6_worth_36 : decode cX6_worth 36 = .ok (.getfield 53, 3) := by decide +kernel
theorem dX6_worth_39 : decode cX6_worth 39 = .ok (.iload 4, 2) := by decide +kernel
theorem dX6_worth_41 : decode cX6_worth 41 = .ok (.iaload, 1) := by decide +kernel
theorem dX6_worth_42 : decode cX6_worth 42 = .ok (.istore 5, 2) := by decide +kernel
theorem dX6_worth_44 : decode cX6_worth 44 = .ok (.aload_n 0, 1) := by decide +kernel
theorem dX6_worth_45 : decode cX6_worth 45 = .ok (.getfield 53, 3) := by decide +kernel
theorem dX6_worth_48 : decode cX6_worth 48 = .ok (.iload 4, 2) := by decide +kernel
theorem dX6_worth_50 : decode cX6_worth 50 = .ok (.iload_n 3, 1) := by decide +kernel
theorem dX6_worth_51 : decode cX6_worth 51 = .ok (.iastore, 1) := by decide +kernel
theorem dX6_worth_52 : decode cX6_worth 52 = .ok (.iload 5, 2) := by decide +kernel
theorem dX6_worth_54 : decode cX6_worth 54 = .ok (.ireturn, 1) := by decide +kernel
theorem dX6_value_0 : decode cX6_value 0 = .ok (.aload_n 0, 1) := by decide +kernel
theorem dX6_value_1 : decode cX6_value 1 = .ok (.iload_n 1, 1) := by decide +kernel
theorem dX6_value_2 : decode cX6_value 2 = .ok (.invokevirtual 104, 3) := by decide +kernel
theorem dX6_value_5 : decode cX6_value 5 = .ok (.ifCond .eq 11, 3) := by decide +kernel
theorem dX6_value_8 : decode cX6_value 8 = .ok (.iload_n 2, 1) := by decide +kernel
theorem dX6_value_9 : decode cX6_value 9 = .ok (.iconst 4, 1) := by decide +kernel
theorem dX6_value_10 : decode cX6_value 10 = .ok (.invokestatic 77, 3) := by decide +kernel
theorem dX6_value_13 : decode cX6_value 13 = .ok (.ifCond .ne 6, 3) := by decide +kernel
theorem dX6_value_16 : decode cX6_value 16 = .ok (.bipush (-2), 2) := by decide +kernel
theorem dX6_value_18 : decode cX6_value 18 = .ok (.ireturn, 1) := by decide +kernel
theorem dX6_value_19 : decode cX6_value 19 = .ok (.aload_n 0, 1) := by decide +kernel
theorem dX6_value_20 : decode cX6_value 20 = .ok (.iload_n 2, 1) := by decide +kernel
theorem dX6_value_21 : decode cX6_value 21 = .ok (.iload_n 1, 1) := by decide +kernel
theorem dX6_value_22 : decode cX6_value 22 = .ok (.invokevirtual 189, 3) := by decide +kernel
theorem dX6_value_25 : decode cX6_value 25 = .ok (.ireturn, 1) := by decide +kernel
theorem dX6_change_0 : decode cX6_change 0 = .ok (.aload_n 0, 1) := by decide +kernel
theorem dX6_change_1 : decode cX6_change 1 = .ok (.iload_n 1, 1) := by decide +kernel
theorem dX6_change_2 : decode cX6_change 2 = .ok (.invokevirtual 104, 3) := by decide +kernel
theorem dX6_change_5 : decode cX6_change 5 = .ok (.ifCond .eq 16, 3) := by decide +kernel
theorem dX6_change_8 : decode cX6_change 8 = .ok (.aload_n 0, 1) := by decide +kernel
theorem dX6_change_9 : decode cX6_change 9 = .ok (.iload_n 2, 1) := by decide +kernel
theorem dX6_change_10 : decode cX6_change 10 = .ok (.invokevirtual 104, 3) := by decide +kernel
theorem dX6_change_13 : decode cX6_change 13 = .ok (.ifCond .eq 8, 3) := by decide +kernel
theorem dX6_change_16 : decode cX6_change 16 = .ok (.iload_n 1, 1) := by decide +kernel
theorem dX6_change_17 : decode cX6_change 17 = .ok (.iload_n 2, 1) := by decide +kernel
theorem dX6_change_18 : decode cX6_change 18 = .ok (.if_icmp .ne 6, 3) := by decide +kernel
theorem dX6_change_21 : decode cX6_change 21 = .ok (.bipush (-2), 2) := by decide +kernel
theorem dX6_change_23 : decode cX6_change 23 = .ok (.ireturn, 1) := by decide +kernel
theorem dX6_change_24 : decode cX6_change 24 = .ok (.aload_n 0, 1) := by decide +kernel
theorem dX6_change_25 : decode cX6_change 25 = .ok (.iload_n 1, 1) := by decide +kernel
theorem dX6_change_26 : decode cX6_change 26 = .ok (.iload_n 2, 1) := by decide +kernel
theorem dX6_change_27 : decode cX6_change 27 = .ok (.invokevirtual 192, 3) := by decide +kernel
theorem dX6_change_30 : decode cX6_change 30 = .ok (.ifCond .eq 7, 3) := by decide +kernel
theorem dX6_change_33 : decode cX6_change 33 = .ok (.iconst 1, 1) := by decide +kernel
theorem dX6_change_34 : decode cX6_change 34 = .ok (.goto 4, 3) := by decide +kernel
theorem dX6_change_37 : decode cX6_change 37 = .ok (.iconst 0, 1) := by decide +kernel
theorem dX6_change_38 : decode cX6_change 38 = .ok (.ireturn, 1) := by decide +kernel
theorem dX6_changes_0 : decode cX6_changes 0 = .ok (.iload_n 1, 1) := by decide +kernel
theorem dX6_changes_1 : decode cX6_changes 1 = .ok (.iconst 2, 1) := by decide +kernel
theorem dX6_changes_2 : decode cX6_changes 2 = .ok (.invokestatic 77, 3) := by decide +kernel
theorem dX6_changes_5 : decode cX6_changes 5 = .ok (.ifCond .ne 6, 3) := by decide +kernel
theorem dX6_changes_8 : decode cX6_changes 8 = .ok (.bipush (-2), 2) := by decide +kernel
theorem dX6_changes_10 : decode cX6_changes 10 = .ok (.ireturn, 1) := by decide +kernel
theorem dX6_changes_11 : decode cX6_changes 11 = .ok (.iload_n 1, 1) := by decide +kernel
theorem dX6_changes_12 : decode cX6_changes 12 = .ok (.ifCond .ne 10, 3) := by decide +kernel
theorem dX6_changes_15 : decode cX6_changes 15 = .ok (.aload_n 0, 1) := by decide +kernel
theorem dX6_changes_16 : decode cX6_changes 16 = .ok (.invokevirtual 195, 3) := by decide +kernel
theorem dX6_changes_19 : decode cX6_changes 19 = .ok (.goto 7, 3) := by decide +kernel
theorem dX6_changes_22 : decode cX6_changes 22 = .ok (.aload_n 0, 1) := by decide +kernel
theorem dX6_changes_23 : decode cX6_changes 23 = .ok (.invokevirtual 198, 3) := by decide +kernel
theorem dX6_changes_26 : decode cX6_changes 26 = .ok (.ireturn, 1) := by decide +kernel
theorem dX6_sort_0 : decode cX6_sort 0 = .ok (.iload_n 1, 1) := by decide +kernel
theorem dX6_sort_1 : decode cX6_sort 1 = .ok (.iconst 3, 1) := by decide +kernel
theorem dX6_sort_2 : decode cX6_sort 2 = .ok (.invokestatic 77, 3) := by decide +kernel
theorem dX6_sort_5 : decode cX6_sort 5 = .ok (.ifCond .eq 11, 3) := by decide +kernel
theorem dX6_sort_8 : decode cX6_sort 8 = .ok (.iload_n 2, 1) := by decide +kernel
theorem dX6_sort_9 : decode cX6_sort 9 = .ok (.iconst 2, 1) := by decide +kernel
theorem dX6_sort_10 : decode cX6_sort 10 = .ok (.invokestatic 77, 3) := by decide +kernel
theorem dX6_sort_13 : decode cX6_sort 13 = .ok (.ifCond .ne 6, 3) := by decide +kernel
theorem dX6_sort_16 : decode cX6_sort 16 = .ok (.bipush (-2), 2) := by decide +kernel
theorem dX6_sort_18 : decode cX6_sort 18 = .ok (.ireturn, 1) := by decide +kernel
theorem dX6_sort_19 : decode cX6_sort 19 = .ok (.iload_n 3, 1) := by decide +kernel
theorem dX6_sort_20 : decode cX6_sort 20 = .ok (.iload_n 2, 1) := by decide +kernel
theorem dX6_sort_21 : decode cX6_sort 21 = .ok (.ifCond .ne 9, 3) := by decide +kernel
theorem dX6_sort_24 : decode cX6_sort 24 = .ok (.sipush 9999, 3) := by decide +kernel
theorem dX6_sort_27 : decode cX6_sort 27 = .ok (.goto 5, 3) := by decide +kernel
theorem dX6_sort_30 : decode cX6_sort 30 = .ok (.bipush 99, 2) := by decide +kernel
theorem dX6_sort_32 : decode cX6_sort 32 = .ok (.iconst 1, 1) := by decide +kernel
theorem dX6_sort_33 : decode cX6_sort 33 = .ok (.iadd, 1) := by decide +kernel
theorem dX6_sort_34 : decode cX6_sort 34 = .ok (.invokestatic 77, 3) := by decide +kernel
theorem dX6_sort_37 : decode cX6_sort 37 = .ok (.ifCond .ne 6, 3) := by decide +kernel
theorem dX6_sort_40 : decode cX6_sort 40 = .ok (.bipush (-2), 2) := by decide +kernel
theorem dX6_sort_42 : decode cX6_sort 42 = .ok (.ireturn, 1) := by decide +kernel
theorem dX6_sort_43 : decode cX6_sort 43 = .ok (.aload_n 0, 1) := by decide +kernel
theorem dX6_sort_44 : decode cX6_sort 44 = .ok (.iconst 0, 1) := by decide +kernel
theorem dX6_sort_45 : decode cX6_sort 45 = .ok (.putfield 201, 3) := by decide +kernel
theorem dX6_sort_48 : decode cX6_sort 48 = .ok (.iload_n 2, 1) := by decide +kernel
theorem dX6_sort_49 : decode cX6_sort 49 = .ok (.ifCond .ne 15, 3) := by decide +kernel
theorem dX6_sort_52 : decode cX6_sort 52 = .ok (.aload_n 0, 1) := by decide +kernel
theorem dX6_sort_53 : decode cX6_sort 53 = .ok (.getfield 31, 3) := by decide +kernel
theorem dX6_sort_56 : decode cX6_sort 56 = .ok (.iload_n 1, 1) := by decide +kernel
theorem dX6_sort_57 : decode cX6_sort 57 = .ok (.iload_n 3, 1) := by decide +kernel
theorem dX6_sort_58 : decode cX6_sort 58 = .ok (.invokevirtual 205, 3) := by decide +kernel
theorem dX6_sort_61 : decode cX6_sort 61 = .ok (.goto 12, 3) := by decide +kernel
theorem dX6_sort_64 : decode cX6_sort 64 = .ok (.aload_n 0, 1) := by decide +kernel
theorem dX6_sort_65 : decode cX6_sort 65 = .ok (.getfield 31, 3) := by decide +kernel
theorem dX6_sort_68 : decode cX6_sort 68 = .ok (.iload_n 1, 1) := by decide +kernel
theorem dX6_sort_69 : decode cX6_sort 69 = .ok (.iload_n 3, 1) := by decide +kernel
theorem dX6_sort_70 : decode cX6_sort 70 = .ok (.invokevirtual 208, 3) := by decide +kernel
theorem dX6_sort_73 : decode cX6_sort 73 = .ok (.ireturn, 1) := by decide +kernel
theorem dX6_set_0 : decode cX6_set 0 = .ok (.iload_n 1, 1) := by decide +kernel
theorem dX6_set_1 : decode cX6_set 1 = .ok (.iconst (-1), 1) := by decide +kernel
theorem dX6_set_2 : decode cX6_set 2 = .ok (.if_icmp .eq 14, 3) := by decide +kernel
theorem dX6_set_5 : decode cX6_set 5 = .ok (.aload_n 0, 1) := by decide +kernel
theorem dX6_set_6 : decode cX6_set 6 = .ok (.iload_n 1, 1) := by decide +kernel
theorem dX6_set_7 : decode cX6_set 7 = .ok (.invokevirtual 104, 3) := by decide +kernel
theorem dX6_set_10 : decode cX6_set 10 = .ok (.ifCond .ne 6, 3) := by decide +kernel
theorem dX6_set_13 : decode cX6_set 13 = .ok (.bipush (-2), 2) := by decide +kernel
theorem dX6_set_15 : decode cX6_set 15 = .ok (.ireturn, 1) := by decide +kernel
theorem dX6_set_16 : decode cX6_set 16 = .ok (.aload_n 0, 1) := by decide +kernel
theorem dX6_set_17 : decode cX6_set 17 = .ok (.getfield 201, 3) := by decide +kernel
theorem dX6_set_20 : decode cX6_set 20 = .ok (.ifCond .ne 29, 3) := by decide +kernel
theorem dX6_set_23 : decode cX6_set 23 = .ok (.aload_n 0, 1) := by decide +kernel
theorem dX6_set_24 : decode cX6_set 24 = .ok (.getfield 31, 3) := by decide +kernel
theorem dX6_set_27 : decode cX6_set 27 = .ok (.aload_n 0, 1) := by decide +kernel
theorem dX6_set_28 : decode cX6_set 28 = .ok (.getfield 10, 3) := by decide +kernel
theorem dX6_set_31 : decode cX6_set 31 = .ok (.invokevirtual 211, 3) := by decide +kernel
theorem dX6_set_34 : decode cX6_set 34 = .ok (.aload_n 0, 1) := by decide +kernel
theorem dX6_set_35 : decode cX6_set 35 = .ok (.getfield 20, 3) := by decide +kernel
theorem dX6_set_38 : decode cX6_set 38 = .ok (.invokevirtual 155, 3) := by decide +kernel
theorem dX6_set_41 : decode cX6_set 41 = .ok (.invokevirtual 215, 3) := by decide +kernel
theorem dX6_set_44 : decode cX6_set 44 = .ok (.aload_n 0, 1) := by decide +kernel
theorem dX6_set_45 : decode cX6_set 45 = .ok (.iconst 1, 1) := by decide +kernel
theorem dX6_set_46 : decode cX6_set 46 = .ok (.putfield 201, 3) := by decide +kernel
theorem dX6_set_49 : decode cX6_set 49 = .ok (.iload_n 1, 1) := by decide +kernel
theorem dX6_set_50 : decode cX6_set 50 = .ok (.iconst (-1), 1) := by decide +kernel
theorem dX6_set_51 : decode cX6_set 51 = .ok (.if_icmp .ne 13, 3) := by decide +kernel
theorem dX6_set_54 : decode cX6_set 54 = .ok (.aload_n 0, 1) := by decide +kernel
theorem dX6_set_55 : decode cX6_set 55 = .ok (.getfield 31, 3) := by decide +kernel
theorem dX6_set_58 : decode cX6_set 58 = .ok (.invokevirtual 218, 3) := by decide +kernel
theorem dX6_set_61 : decode cX6_set 61 = .ok (.goto 11, 3) := by decide +kernel
theorem dX6_set_64 : decode cX6_set 64 = .ok (.aload_n 0, 1) := by decide +kernel
theorem dX6_set_65 : decode cX6_set 65 = .ok (.getfield 31, 3) := by decide +kernel
theorem dX6_set_68 : decode cX6_set 68 = .ok (.iload_n 1, 1) := by decide +kernel
theorem dX6_set_69 : decode cX6_set 69 = .ok (.invokevirtual 221, 3) := by decide +kernel
theorem dX6_set_72 : decode cX6_set 72 = .ok (.ireturn, 1) := by decide +kernel
theorem dX6_seen_0 : decode cX6_seen 0 = .ok (.iload_n 1, 1) := by decide +kernel
theorem dX6_seen_1 : decode cX6_seen 1 = .ok (.iconst 4, 1) := by decide +kernel
theorem dX6_seen_2 : decode cX6_seen 2 = .ok (.invokestatic 77, 3) := by decide +kernel
theorem dX6_seen_5 : decode cX6_seen 5 = .ok (.ifCond .eq 12, 3) := by decide +kernel
theorem dX6_seen_8 : decode cX6_seen 8 = .ok (.iload_n 2, 1) := by decide +kernel
theorem dX6_seen_9 : decode cX6_seen 9 = .ok (.bipush 12, 2) := by decide +kernel
theorem dX6_seen_11 : decode cX6_seen 11 = .ok (.invokestatic 77, 3) := by decide +kernel
theorem dX6_seen_14 : decode cX6_seen 14 = .ok (.ifCond .ne 6, 3) := by decide +kernel
theorem dX6_seen_17 : decode cX6_seen 17 = .ok (.bipush (-2), 2) := by decide +kernel
theorem dX6_seen_19 : decode cX6_seen 19 = .ok (.ireturn, 1) := by decide +kernel
theorem dX6_seen_20 : decode cX6_seen 20 = .ok (.aload_n 0, 1) := by decide +kernel
theorem dX6_seen_21 : decode cX6_seen 21 = .ok (.getfield 224, 3) := by decide +kernel
theorem dX6_seen_24 : decode cX6_seen 24 = .ok (.bipush 8, 2) := by decide +kernel
theorem dX6_seen_26 : decode cX6_seen 26 = .ok (.if_icmp .lt 6, 3) := by decide +kernel
theorem dX6_seen_29 : decode cX6_seen 29 = .ok (.bipush (-4), 2) := by decide +kernel
theorem dX6_seen_31 : decode cX6_seen 31 = .ok (.ireturn, 1) := by decide +kernel
theorem dX6_seen_32 : decode cX6_seen 32 = .ok (.aload_n 0, 1) := by decide +kernel
theorem dX6_seen_33 : decode cX6_seen 33 = .ok (.getfield 62, 3) := by decide +kernel
theorem dX6_seen_36 : decode cX6_seen 36 = .ok (.aload_n 0, 1) := by decide +kernel
theorem dX6_seen_37 : decode cX6_seen 37 = .ok (.getfield 224, 3) := by decide +kernel
theorem dX6_seen_40 : decode cX6_seen 40 = .ok (.iload_n 1, 1) := by decide +kernel
theorem dX6_seen_41 : decode cX6_seen 41 = .ok (.iastore, 1) := by decide +kernel
theorem dX6_seen_42 : decode cX6_seen 42 = .ok (.aload_n 0, 1) := by decide +kernel
theorem dX6_seen_43 : decode cX6_seen 43 = .ok (.getfield 65, 3) := by decide +kernel
theorem dX6_seen_46 : decode cX6_seen 46 = .ok (.aload_n 0, 1) := by decide +kernel
theorem dX6_seen_47 : decode cX6_seen 47 = .ok (.getfield 224, 3) := by decide +kernel
theorem dX6_seen_50 : decode cX6_seen 50 = .ok (.iload_n 2, 1) := by decide +kernel
theorem dX6_seen_51 : decode cX6_seen 51 = .ok (.iastore, 1) := by decide +kernel
theorem dX6_seen_52 : decode cX6_seen 52 = .ok (.aload_n 0, 1) := by decide +kernel
theorem dX6_seen_53 : decode cX6_seen 53 = .ok (.dup, 1) := by decide +kernel
theorem dX6_seen_54 : decode cX6_seen 54 = .ok (.getfield 224, 3) := by decide +kernel
theorem dX6_seen_57 : decode cX6_seen 57 = .ok (.iconst 1, 1) := by decide +kernel
theorem dX6_seen_58 : decode cX6_seen 58 = .ok (.iadd, 1) := by decide +kernel
theorem dX6_seen_59 : decode cX6_seen 59 = .ok (.putfield 224, 3) := by decide +kernel
theorem dX6_seen_62 : decode cX6_seen 62 = .ok (.aload_n 0, 1) := by decide +kernel
theorem dX6_seen_63 : decode cX6_seen 63 = .ok (.getfield 224, 3) := by decide +kernel
theorem dX6_seen_66 : decode cX6_seen 66 = .ok (.ireturn, 1) := by decide +kernel
theorem dX6_forget_0 : decode cX6_forget 0 = .ok (.aload_n 0, 1) := by decide +kernel
theorem dX6_forget_1 : decode cX6_forget 1 = .ok (.getfield 224, 3) := by decide +kernel
theorem dX6_forget_4 : decode cX6_forget 4 = .ok (.istore_n 1, 1) := by decide +kernel
theorem dX6_forget_5 : decode cX6_forget 5 = .ok (.aload_n 0, 1) := by decide +kernel
theorem dX6_forget_6 : decode cX6_forget 6 = .ok (.iconst 0, 1) := by decide +kernel
theorem dX6_forget_7 : decode cX6_forget 7 = .ok (.putfield 224, 3) := by decide +kernel
theorem dX6_forget_10 : decode cX6_forget 10 = .ok (.iload_n 1, 1) := by decide +kernel
theorem dX6_forget_11 : decode cX6_forget 11 = .ok (.ireturn, 1) := by decide +kernel
theorem dX6_whose_0 : decode cX6_whose 0 = .ok (.iload_n 1, 1) := by decide +kernel
theorem dX6_whose_1 : decode cX6_whose 1 = .ok (.iconst 2, 1) := by decide +kernel
theorem dX6_whose_2 : decode cX6_whose 2 = .ok (.invokestatic 77, 3) := by decide +kernel
theorem dX6_whose_5 : decode cX6_whose 5 = .ok (.ifCond .ne 6, 3) := by decide +kernel
theorem dX6_whose_8 : decode cX6_whose 8 = .ok (.bipush (-2), 2) := by decide +kernel
theorem dX6_whose_10 : decode cX6_whose 10 = .ok (.ireturn, 1) := by decide +kernel
theorem dX6_whose_11 : decode cX6_whose 11 = .ok (.iconst 0, 1) := by decide +kernel
theorem dX6_whose_12 : decode cX6_whose 12 = .ok (.istore_n 2, 1) := by decide +kernel
theorem dX6_whose_13 : decode cX6_whose 13 = .ok (.iconst 0, 1) := by decide +kernel
theorem dX6_whose_14 : decode cX6_whose 14 = .ok (.istore_n 3, 1) := by decide +kernel
theorem dX6_whose_15 : decode cX6_whose 15 = .ok (.iconst 0, 1) := by decide +kernel
theorem dX6_whose_16 : decode cX6_whose 16 = .ok (.istore 4, 2) := by decide +kernel
theorem dX6_whose_18 : decode cX6_whose 18 = .ok (.iload 4, 2) := by decide +kernel
theorem dX6_whose_20 : decode cX6_whose 20 = .ok (.aload_n 0, 1) := by decide +kernel
theorem dX6_whose_21 : decode cX6_whose 21 = .ok (.getfield 20, 3) := by decide +kernel
theorem dX6_whose_24 : decode cX6_whose 24 = .ok (.invokevirtual 155, 3) := by decide +kernel
theorem dX6_whose_27 : decode cX6_whose 27 = .ok (.if_icmp .ge 37, 3) := by decide +kernel
theorem dX6_whose_30 : decode cX6_whose 30 = .ok (.aload_n 0, 1) := by decide +kernel
theorem dX6_whose_31 : decode cX6_whose 31 = .ok (.iload 4, 2) := by decide +kernel
theorem dX6_whose_33 : decode cX6_whose 33 = .ok (.invokevirtual 228, 3) := by decide +kernel
theorem dX6_whose_36 : decode cX6_whose 36 = .ok (.ifCond .eq 22, 3) := by decide +kernel
theorem dX6_whose_39 : decode cX6_whose 39 = .ok (.iload_n 2, 1) := by decide +kernel
theorem dX6_whose_40 : decode cX6_whose 40 = .ok (.iconst 1, 1) := by decide +kernel
theorem dX6_whose_41 : decode cX6_whose 41 = .ok (.iload 4, 2) := by decide +kernel
theorem dX6_whose_43 : decode cX6_whose 43 = .ok (.ishl, 1) := by decide +kernel
theorem dX6_whose_44 : decode cX6_whose 44 = .ok (.ior, 1) := by decide +kernel
theorem dX6_whose_45 : decode cX6_whose 45 = .ok (.istore_n 2, 1) := by decide +kernel
theorem dX6_whose_46 : decode cX6_whose 46 = .ok (.iload_n 3, 1) := by decide +kernel
theorem dX6_whose_47 : decode cX6_whose 47 = .ok (.iconst 1, 1) := by decide +kernel
theorem dX6_whose_48 : decode cX6_whose 48 = .ok (.aload_n 0, 1) := by decide +kernel
theorem dX6_whose_49 : decode cX6_whose 49 = .ok (.getfield 49, 3) := by decide +kernel
theorem dX6_whose_52 : decode cX6_whose 52 = .ok (.iload 4, 2) := by decide +kernel
theorem dX6_whose_54 : decode cX6_whose 54 = .ok (.iaload, 1) := by decide +kernel
theorem dX6_whose_55 : decode cX6_whose 55 = .ok (.ishl, 1) := by decide +kernel
theorem dX6_whose_56 : decode cX6_whose 56 = .ok (.ior, 1) := by decide +kernel
theorem dX6_whose_57 : decode cX6_whose 57 = .ok (.istore_n 3, 1) := by decide +kernel
theorem dX6_whose_58 : decode cX6_whose 58 = .ok (.iinc 4 1, 3) := by decide +kernel
theorem dX6_whose_61 : decode cX6_whose 61 = .ok (.goto (-43), 3) := by decide +kernel
theorem dX6_whose_64 : decode cX6_whose 64 = .ok (.iload_n 1, 1) := by decide +kernel
theorem dX6_whose_65 : decode cX6_whose 65 = .ok (.ifCond .ne 7, 3) := by decide +kernel
theorem dX6_whose_68 : decode cX6_whose 68 = .ok (.iload_n 2, 1) := by decide +kernel
theorem dX6_whose_69 : decode cX6_whose 69 = .ok (.goto 7, 3) := by decide +kernel
theorem dX6_whose_72 : decode cX6_whose 72 = .ok (.iload_n 3, 1) := by decide +kernel
theorem dX6_whose_73 : decode cX6_whose 73 = .ok (.invokestatic 231, 3) := by decide +kernel
theorem dX6_whose_76 : decode cX6_whose 76 = .ok (.ireturn, 1) := by decide +kernel
theorem dX6_clouds_0 : decode cX6_clouds 0 = .ok (.iload_n 1, 1) := by decide +kernel
theorem dX6_clouds_1 : decode cX6_clouds 1 = .ok (.iconst 4, 1) := by decide +kernel
theorem dX6_clouds_2 : decode cX6_clouds 2 = .ok (.invokestatic 77, 3) := by decide +kernel
theorem dX6_clouds_5 : decode cX6_clouds 5 = .ok (.ifCond .eq 12, 3) := by decide +kernel
theorem dX6_clouds_8 : decode cX6_clouds 8 = .ok (.iload_n 2, 1) := by decide +kernel
theorem dX6_clouds_9 : decode cX6_clouds 9 = .ok (.bipush 17, 2) := by decide +kernel
theorem dX6_clouds_11 : decode cX6_clouds 11 = .ok (.invokestatic 77, 3) := by decide +kernel
theorem dX6_clouds_14 : decode cX6_clouds 14 = .ok (.ifCond .ne 6, 3) := by decide +kernel
theorem dX6_clouds_17 : decode cX6_clouds 17 = .ok (.bipush (-2), 2) := by decide +kernel
theorem dX6_clouds_19 : decode cX6_clouds 19 = .ok (.ireturn, 1) := by decide +kernel
theorem dX6_clouds_20 : decode cX6_clouds 20 = .ok (.aload_n 0, 1) := by decide +kernel
theorem dX6_clouds_21 : decode cX6_clouds 21 = .ok (.getfield 68, 3) := by decide +kernel
theorem dX6_clouds_24 : decode cX6_clouds 24 = .ok (.iload_n 1, 1) := by decide +kernel
theorem dX6_clouds_25 : decode cX6_clouds 25 = .ok (.iaload, 1) := by decide +kernel
theorem dX6_clouds_26 : decode cX6_clouds 26 = .ok (.istore_n 3, 1) := by decide +kernel
theorem dX6_clouds_27 : decode cX6_clouds 27 = .ok (.aload_n 0, 1) := by decide +kernel
theorem dX6_clouds_28 : decode cX6_clouds 28 = .ok (.getfield 68, 3) := by decide +kernel
theorem dX6_clouds_31 : decode cX6_clouds 31 = .ok (.iload_n 1, 1) := by decide +kernel
theorem dX6_clouds_32 : decode cX6_clouds 32 = .ok (.iload_n 2, 1) := by decide +kernel
theorem dX6_clouds_33 : decode cX6_clouds 33 = .ok (.iastore, 1) := by decide +kernel
theorem dX6_clouds_34 : decode cX6_clouds 34 = .ok (.iload_n 3, 1) := by decide +kernel
theorem dX6_clouds_35 : decode cX6_clouds 35 = .ok (.ireturn, 1) := by decide +kernel
theorem dX6_clear_0 : decode cX6_clear 0 = .ok (.aload_n 0, 1) := by decide +kernel
theorem dX6_clear_1 : decode cX6_clear 1 = .ok (.iload_n 1, 1) := by decide +kernel
theorem dX6_clear_2 : decode cX6_clear 2 = .ok (.invokevirtual 104, 3) := by decide +kernel
theorem dX6_clear_5 : decode cX6_clear 5 = .ok (.ifCond .eq 11, 3) := by decide +kernel
theorem dX6_clear_8 : decode cX6_clear 8 = .ok (.iload_n 2, 1) := by decide +kernel
theorem dX6_clear_9 : decode cX6_clear 9 = .ok (.iconst 4, 1) := by decide +kernel
theorem dX6_clear_10 : decode cX6_clear 10 = .ok (.invokestatic 77, 3) := by decide +kernel
theorem dX6_clear_13 : decode cX6_clear 13 = .ok (.ifCond .ne 7, 3) := by decide +kernel
theorem dX6_clear_16 : decode cX6_clear 16 = .ok (.ldc2_w 236, 3) := by decide +kernel
theorem dX6_clear_19 : decode cX6_clear 19 = .ok (.lreturn, 1) := by decide +kernel
theorem dX6_clear_20 : decode cX6_clear 20 = .ok (.iload_n 3, 1) := by decide +kernel
theorem dX6_clear_21 : decode cX6_clear 21 = .ok (.iconst (-1), 1) := by decide +kernel
theorem dX6_clear_22 : decode cX6_clear 22 = .ok (.if_icmp .eq 12, 3) := by decide +kernel
theorem dX6_clear_25 : decode cX6_clear 25 = .ok (.iload_n 3, 1) := by decide +kernel
theorem dX6_clear_26 : decode cX6_clear 26 = .ok (.bipush 13, 2) := by decide +kernel
theorem dX6_clear_28 : decode cX6_clear 28 = .ok (.invokestatic 77, 3) := by decide +kernel
theorem dX6_clear_31 : decode cX6_clear 31 = .ok (.ifCond .eq 12, 3) := by decide +kernel
theorem dX6_clear_34 : decode cX6_clear 34 = .ok (.iload 4, 2) := by decide +kernel
theorem dX6_clear_36 : decode cX6_clear 36 = .ok (.iconst 2, 1) := by decide +kernel
theorem dX6_clear_37 : decode cX6_clear 37 = .ok (.invokestatic 77, 3) := by decide +kernel
theorem dX6_clear_40 : decode cX6_clear 40 = .ok (.ifCond .ne 7, 3) := by decide +kernel
theorem dX6_clear_43 : decode cX6_clear 43 = .ok (.ldc2_w 236, 3) := by decide +kernel
theorem dX6_clear_46 : decode cX6_clear 46 = .ok (.lreturn, 1) := by decide +kernel
theorem dX6_clear_47 : decode cX6_clear 47 = .ok (.aload_n 0, 1) := by decide +kernel
theorem dX6_clear_48 : decode cX6_clear 48 = .ok (.getfield 10, 3) := by decide +kernel
theorem dX6_clear_51 : decode cX6_clear 51 = .ok (.iload_n 1, 1) := by decide +kernel
theorem dX6_clear_52 : decode cX6_clear 52 = .ok (.iload_n 2, 1) := by decide +kernel
theorem dX6_clear_53 : decode cX6_clear 53 = .ok (.invokevirtual 152, 3) := by decide +kernel
theorem dX6_clear_56 : decode cX6_clear 56 = .ok (.istore 5, 2) := by decide +kernel
theorem dX6_clear_58 : decode cX6_clear 58 = .ok (.iload_n 3, 1) := by decide +kernel
theorem dX6_clear_59 : decode cX6_clear 59 = .ok (.iconst (-1), 1) := by decide +kernel
theorem dX6_clear_60 : decode cX6_clear 60 = .ok (.if_icmp .ne 21, 3) := by decide +kernel
theorem dX6_clear_63 : decode cX6_clear 63 = .ok (.aload_n 0, 1) := by decide +kernel
theorem dX6_clear_64 : decode cX6_clear 64 = .ok (.getfield 38, 3) := by decide +kernel
theorem dX6_clear_67 : decode cX6_clear 67 = .ok (.iload 5, 2) := by decide +kernel
theorem dX6_clear_69 : decode cX6_clear 69 = .ok (.aload_n 0, 1) := by decide +kernel
theorem dX6_clear_70 : decode cX6_clear 70 = .ok (.getfield 68, 3) := by decide +kernel
theorem dX6_clear_73 : decode cX6_clear 73 = .ok (.iload_n 2, 1) := by decide +kernel
theorem dX6_clear_74 : decode cX6_clear 74 = .ok (.iaload, 1) := by decide +kernel
theorem dX6_clear_75 : decode cX6_clear 75 = .ok (.invokevirtual 238, 3) := by decide +kernel
theorem dX6_clear_78 : decode cX6_clear 78 = .ok (.goto 19, 3) := by decide +kernel
theorem dX6_clear_81 : decode cX6_clear 81 = .ok (.aload_n 0, 1) := by decide +kernel
theorem dX6_clear_82 : decode cX6_clear 82 = .ok (.getfield 38, 3) := by decide +kernel
theorem dX6_clear_85 : decode cX6_clear 85 = .ok (.iload 5, 2) := by decide +kernel
theorem dX6_clear_87 : decode cX6_clear 87 = .ok (.aload_n 0, 1) := by decide +kernel
theorem dX6_clear_88 : decode cX6_clear 88 = .ok (.getfield 68, 3) := by decide +kernel
theorem dX6_clear_91 : decode cX6_clear 91 = .ok (.iload_n 2, 1) := by decide +kernel
theorem dX6_clear_92 : decode cX6_clear 92 = .ok (.iaload, 1) := by decide +kernel
theorem dX6_clear_93 : decode cX6_clear 93 = .ok (.iload_n 3, 1) := by decide +kernel
theorem dX6_clear_94 : decode cX6_clear 94 = .ok (.invokevirtual 241, 3) := by decide +kernel
theorem dX6_clear_97 : decode cX6_clear 97 = .ok (.iload 4, 2) := by decide +kernel
theorem dX6_clear_99 : decode cX6_clear 99 = .ok (.ifCond .ne 13, 3) := by decide +kernel
theorem dX6_clear_102 : decode cX6_clear 102 = .ok (.aload_n 0, 1) := by decide +kernel
theorem dX6_clear_103 : decode cX6_clear 103 = .ok (.getfield 38, 3) := by decide +kernel
theorem dX6_clear_106 : decode cX6_clear 106 = .ok (.invokevirtual 245, 3) := by decide +kernel
theorem dX6_clear_109 : decode cX6_clear 109 = .ok (.goto 10, 3) := by decide +kernel
theorem dX6_clear_112 : decode cX6_clear 112 = .ok (.aload_n 0, 1) := by decide +kernel
theorem dX6_clear_113 : decode cX6_clear 113 = .ok (.getfield 38, 3) := by decide +kernel
theorem dX6_clear_116 : decode cX6_clear 116 = .ok (.invokevirtual 249, 3) := by decide +kernel
theorem dX6_clear_119 : decode cX6_clear 119 = .ok (.lreturn, 1) := by decide +kernel
theorem dX6_sheet_0 : decode cX6_sheet 0 = .ok (.iload_n 1, 1) := by decide +kernel
theorem dX6_sheet_1 : decode cX6_sheet 1 = .ok (.iconst 4, 1) := by decide +kernel
theorem dX6_sheet_2 : decode cX6_sheet 2 = .ok (.invokestatic 77, 3) := by decide +kernel
theorem dX6_sheet_5 : decode cX6_sheet 5 = .ok (.ifCond .eq 17, 3) := by decide +kernel
theorem dX6_sheet_8 : decode cX6_sheet 8 = .ok (.iload_n 2, 1) := by decide +kernel
theorem dX6_sheet_9 : decode cX6_sheet 9 = .ok (.iconst 3, 1) := by decide +kernel
theorem dX6_sheet_10 : decode cX6_sheet 10 = .ok (.invokestatic 77, 3) := by decide +kernel
theorem dX6_sheet_13 : decode cX6_sheet 13 = .ok (.ifCond .eq 9, 3) := by decide +kernel
theorem dX6_sheet_16 : decode cX6_sheet 16 = .ok (.iload_n 3, 1) := by decide +kernel
theorem dX6_sheet_17 : decode cX6_sheet 17 = .ok (.bipush 48, 2) := by decide +kernel
theorem dX6_sheet_19 : decode cX6_sheet 19 = .ok (.if_icmp .le 6, 3) := by decide +kernel
theorem dX6_sheet_22 : decode cX6_sheet 22 = .ok (.bipush (-2), 2) := by decide +kernel
theorem dX6_sheet_24 : decode cX6_sheet 24 = .ok (.ireturn, 1) := by decide +kernel
theorem dX6_sheet_25 : decode cX6_sheet 25 = .ok (.iload_n 3, 1) := by decide +kernel
theorem dX6_sheet_26 : decode cX6_sheet 26 = .ok (.ifCond .ge 9, 3) := by decide +kernel
theorem dX6_sheet_29 : decode cX6_sheet 29 = .ok (.aload_n 0, 1) := by decide +kernel
theorem dX6_sheet_30 : decode cX6_sheet 30 = .ok (.iconst 5, 1) := by decide +kernel
theorem dX6_sheet_31 : decode cX6_sheet 31 = .ok (.invokevirtual 122, 3) := by decide +kernel
theorem dX6_sheet_34 : decode cX6_sheet 34 = .ok (.ireturn, 1) := by decide +kernel
theorem dX6_sheet_35 : decode cX6_sheet 35 = .ok (.aload_n 0, 1) := by decide +kernel
theorem dX6_sheet_36 : decode cX6_sheet 36 = .ok (.getfield 45, 3) := by decide +kernel
theorem dX6_sheet_39 : decode cX6_sheet 39 = .ok (.iload_n 1, 1) := by decide +kernel
theorem dX6_sheet_40 : decode cX6_sheet 40 = .ok (.iload_n 2, 1) := by decide +kernel
theorem dX6_sheet_41 : decode cX6_sheet 41 = .ok (.iload_n 3, 1) := by decide +kernel
theorem dX6_sheet_42 : decode cX6_sheet 42 = .ok (.invokevirtual 252, 3) := by decide +kernel
theorem dX6_sheet_45 : decode cX6_sheet 45 = .ok (.iload_n 3, 1) := by decide +kernel
theorem dX6_sheet_46 : decode cX6_sheet 46 = .ok (.ireturn, 1) := by decide +kernel
theorem dX6_lose_0 : decode cX6_lose 0 = .ok (.iload_n 1, 1) := by decide +kernel
theorem dX6_lose_1 : decode cX6_lose 1 = .ok (.iconst 4, 1) := by decide +kernel
theorem dX6_lose_2 : decode cX6_lose 2 = .ok (.invokestatic 77, 3) := by decide +kernel
theorem dX6_lose_5 : decode cX6_lose 5 = .ok (.ifCond .ne 6, 3) := by decide +kernel
theorem dX6_lose_8 : decode cX6_lose 8 = .ok (.bipush (-2), 2) := by decide +kernel
theorem dX6_lose_10 : decode cX6_lose 10 = .ok (.ireturn, 1) := by decide +kernel
theorem dX6_lose_11 : decode cX6_lose 11 = .ok (.aload_n 0, 1) := by decide +kernel
theorem dX6_lose_12 : decode cX6_lose 12 = .ok (.getfield 45, 3) := by decide +kernel
theorem dX6_lose_15 : decode cX6_lose 15 = .ok (.iload_n 1, 1) := by decide +kernel
theorem dX6_lose_16 : decode cX6_lose 16 = .ok (.invokevirtual 119, 3) := by decide +kernel
theorem dX6_lose_19 : decode cX6_lose 19 = .ok (.ifCond .eq 9, 3) := by decide +kernel
theorem dX6_lose_22 : decode cX6_lose 22 = .ok (.aload_n 0, 1) := by decide +kernel
theorem dX6_lose_23 : decode cX6_lose 23 = .ok (.iconst 1, 1) := by decide +kernel
theorem dX6_lose_24 : decode cX6_lose 24 = .ok (.invokevirtual 122, 3) := by decide +kernel
theorem dX6_lose_27 : decode cX6_lose 27 = .ok (.ireturn, 1) := by decide +kernel
theorem dX6_lose_28 : decode cX6_lose 28 = .ok (.aload_n 0, 1) := by decide +kernel
theorem dX6_lose_29 : decode cX6_lose 29 = .ok (.getfield 45, 3) := by decide +kernel
theorem dX6_lose_32 : decode cX6_lose 32 = .ok (.iload_n 1, 1) := by decide +kernel
theorem dX6_lose_33 : decode cX6_lose 33 = .ok (.invokevirtual 125, 3) := by decide +kernel
theorem dX6_lose_36 : decode cX6_lose 36 = .ok (.istore_n 2, 1) := by decide +kernel
theorem dX6_lose_37 : decode cX6_lose 37 = .ok (.aload_n 0, 1) := by decide +kernel
theorem dX6_lose_38 : decode cX6_lose 38 = .ok (.getfield 45, 3) := by decide +kernel
theorem dX6_lose_41 : decode cX6_lose 41 = .ok (.iload_n 1, 1) := by decide +kernel
theorem dX6_lose_42 : decode cX6_lose 42 = .ok (.invokevirtual 255, 3) := by decide +kernel
theorem dX6_lose_45 : decode cX6_lose 45 = .ok (.iload_n 2, 1) := by decide +kernel
theorem dX6_lose_46 : decode cX6_lose 46 = .ok (.ireturn, 1) := by decide +kernel
theorem dX6_put_0 : decode cX6_put 0 = .ok (.aload_n 0, 1) := by decide +kernel
theorem dX6_put_1 : decode cX6_put 1 = .ok (.iload_n 1, 1) := by decide +kernel
theorem dX6_put_2 : decode cX6_put 2 = .ok (.iload_n 2, 1) := by decide +kernel
theorem dX6_put_3 : decode cX6_put 3 = .ok (.iload_n 3, 1) := by decide +kernel
theorem dX6_put_4 : decode cX6_put 4 = .ok (.invokevirtual 258, 3) := by decide +kernel
theorem dX6_put_7 : decode cX6_put 7 = .ok (.istore 5, 2) := by decide +kernel
theorem dX6_put_9 : decode cX6_put 9 = .ok (.iload 5, 2) := by decide +kernel
theorem dX6_put_11 : decode cX6_put 11 = .ok (.ifCond .eq 6, 3) := by decide +kernel
theorem dX6_put_14 : decode cX6_put 14 = .ok (.iload 5, 2) := by decide +kernel
theorem dX6_put_16 : decode cX6_put 16 = .ok (.ireturn, 1) := by decide +kernel
theorem dX6_put_17 : decode cX6_put 17 = .ok (.aload_n 0, 1) := by decide +kernel
theorem dX6_put_18 : decode cX6_put 18 = .ok (.getfield 45, 3) := by decide +kernel
theorem dX6_put_21 : decode cX6_put 21 = .ok (.iload_n 1, 1) := by decide +kernel
theorem dX6_put_22 : decode cX6_put 22 = .ok (.iload_n 3, 1) := by decide +kernel
theorem dX6_put_23 : decode cX6_put 23 = .ok (.iload 4, 2) := by decide +kernel
theorem dX6_put_25 : decode cX6_put 25 = .ok (.invokevirtual 261, 3) := by decide +kernel
theorem dX6_put_28 : decode cX6_put 28 = .ok (.iconst 1, 1) := by decide +kernel
theorem dX6_put_29 : decode cX6_put 29 = .ok (.ireturn, 1) := by decide +kernel
theorem dX6_get_0 : decode cX6_get 0 = .ok (.aload_n 0, 1) := by decide +kernel
theorem dX6_get_1 : decode cX6_get 1 = .ok (.iload_n 1, 1) := by decide +kernel
theorem dX6_get_2 : decode cX6_get 2 = .ok (.iload_n 2, 1) := by decide +kernel
theorem dX6_get_3 : decode cX6_get 3 = .ok (.iload_n 3, 1) := by decide +kernel
theorem dX6_get_4 : decode cX6_get 4 = .ok (.invokevirtual 258, 3) := by decide +kernel
theorem dX6_get_7 : decode cX6_get 7 = .ok (.ifCond .eq 9, 3) := by decide +kernel
theorem dX6_get_10 : decode cX6_get 10 = .ok (.ldc_w 264, 3) := by decide +kernel
theorem dX6_get_13 : decode cX6_get 13 = .ok (.goto 12, 3) := by decide +kernel
theorem dX6_get_16 : decode cX6_get 16 = .ok (.aload_n 0, 1) := by decide +kernel
theorem dX6_get_17 : decode cX6_get 17 = .ok (.getfield 45, 3) := by decide +kernel
theorem dX6_get_20 : decode cX6_get 20 = .ok (.iload_n 1, 1) := by decide +kernel
theorem dX6_get_21 : decode cX6_get 21 = .ok (.iload_n 3, 1) := by decide +kernel
theorem dX6_get_22 : decode cX6_get 22 = .ok (.invokevirtual 133, 3) := by decide +kernel
theorem dX6_get_25 : decode cX6_get 25 = .ok (.ireturn, 1) := by decide +kernel
theorem dX6_copy_0 : decode cX6_copy 0 = .ok (.iload_n 1, 1) := by decide +kernel
theorem dX6_copy_1 : decode cX6_copy 1 = .ok (.iconst 4, 1) := by decide +kernel
theorem dX6_copy_2 : decode cX6_copy 2 = .ok (.invokestatic 77, 3) := by decide +kernel
theorem dX6_copy_5 : decode cX6_copy 5 = .ok (.ifCond .eq 11, 3) := by decide +kernel
theorem dX6_copy_8 : decode cX6_copy 8 = .ok (.iload_n 3, 1) := by decide +kernel
theorem dX6_copy_9 : decode cX6_copy 9 = .ok (.iconst 4, 1) := by decide +kernel
theorem dX6_copy_10 : decode cX6_copy 10 = .ok (.invokestatic 77, 3) := by decide +kernel
theorem dX6_copy_13 : decode cX6_copy 13 = .ok (.ifCond .ne 6, 3) := by decide +kernel
theorem dX6_copy_16 : decode cX6_copy 16 = .ok (.bipush (-2), 2) := by decide +kernel
theorem dX6_copy_18 : decode cX6_copy 18 = .ok (.ireturn, 1) := by decide +kernel
theorem dX6_copy_19 : decode cX6_copy 19 = .ok (.aload_n 0, 1) := by decide +kernel
theorem dX6_copy_20 : decode cX6_copy 20 = .ok (.getfield 45, 3) := by decide +kernel
theorem dX6_copy_23 : decode cX6_copy 23 = .ok (.iload_n 1, 1) := by decide +kernel
theorem dX6_copy_24 : decode cX6_copy 24 = .ok (.invokevirtual 119, 3) := by decide +kernel
theorem dX6_copy_27 : decode cX6_copy 27 = .ok (.ifCond .ne 14, 3) := by decide +kernel
theorem dX6_copy_30 : decode cX6_copy 30 = .ok (.aload_n 0, 1) := by decide +kernel
theorem dX6_copy_31 : decode cX6_copy 31 = .ok (.getfield 45, 3) := by decide +kernel
theorem dX6_copy_34 : decode cX6_copy 34 = .ok (.iload_n 3, 1) := by decide +kernel
theorem dX6_copy_35 : decode cX6_copy 35 = .ok (.invokevirtual 119, 3) := by decide +kernel
theorem dX6_copy_38 : decode cX6_copy 38 = .ok (.ifCond .eq 9, 3) := by decide +kernel
theorem dX6_copy_41 : decode cX6_copy 41 = .ok (.aload_n 0, 1) := by decide +kernel
theorem dX6_copy_42 : decode cX6_copy 42 = .ok (.iconst 1, 1) := by decide +kernel
theorem dX6_copy_43 : decode cX6_copy 43 = .ok (.invokevirtual 122, 3) := by decide +kernel
theorem dX6_copy_46 : decode cX6_copy 46 = .ok (.ireturn, 1) := by decide +kernel
theorem dX6_copy_47 : decode cX6_copy 47 = .ok (.aload_n 0, 1) := by decide +kernel
theorem dX6_copy_48 : decode cX6_copy 48 = .ok (.getfield 45, 3) := by decide +kernel
theorem dX6_copy_51 : decode cX6_copy 51 = .ok (.iload_n 1, 1) := by decide +kernel
theorem dX6_copy_52 : decode cX6_copy 52 = .ok (.invokevirtual 265, 3) := by decide +kernel
theorem dX6_copy_55 : decode cX6_copy 55 = .ok (.aload_n 0, 1) := by decide +kernel
theorem dX6_copy_56 : decode cX6_copy 56 = .ok (.getfield 45, 3) := by decide +kernel
theorem dX6_copy_59 : decode cX6_copy 59 = .ok (.iload_n 3, 1) := by decide +kernel
theorem dX6_copy_60 : decode cX6_copy 60 = .ok (.invokevirtual 265, 3) := by decide +kernel
theorem dX6_copy_63 : decode cX6_copy 63 = .ok (.if_icmp .eq 9, 3) := by decide +kernel
theorem dX6_copy_66 : decode cX6_copy 66 = .ok (.aload_n 0, 1) := by decide +kernel
theorem dX6_copy_67 : decode cX6_copy 67 = .ok (.iconst 4, 1) := by decide +kernel
theorem dX6_copy_68 : decode cX6_copy 68 = .ok (.invokevirtual 122, 3) := by decide +kernel
theorem dX6_copy_71 : decode cX6_copy 71 = .ok (.ireturn, 1) := by decide +kernel
theorem dX6_copy_72 : decode cX6_copy 72 = .ok (.aload_n 0, 1) := by decide +kernel
theorem dX6_copy_73 : decode cX6_copy 73 = .ok (.getfield 45, 3) := by decide +kernel
theorem dX6_copy_76 : decode cX6_copy 76 = .ok (.iload_n 1, 1) := by decide +kernel
theorem dX6_copy_77 : decode cX6_copy 77 = .ok (.iload_n 2, 1) := by decide +kernel
theorem dX6_copy_78 : decode cX6_copy 78 = .ok (.iload 5, 2) := by decide +kernel
theorem dX6_copy_80 : decode cX6_copy 80 = .ok (.invokevirtual 268, 3) := by decide +kernel
theorem dX6_copy_83 : decode cX6_copy 83 = .ok (.ifCond .eq 18, 3) := by decide +kernel
theorem dX6_copy_86 : decode cX6_copy 86 = .ok (.aload_n 0, 1) := by decide +kernel
theorem dX6_copy_87 : decode cX6_copy 87 = .ok (.getfield 45, 3) := by decide +kernel
theorem dX6_copy_90 : decode cX6_copy 90 = .ok (.iload_n 3, 1) := by decide +kernel
theorem dX6_copy_91 : decode cX6_copy 91 = .ok (.iload 4, 2) := by decide +kernel
theorem dX6_copy_93 : decode cX6_copy 93 = .ok (.iload 5, 2) := by decide +kernel
theorem dX6_copy_95 : decode cX6_copy 95 = .ok (.invokevirtual 268, 3) := by decide +kernel
theorem dX6_copy_98 : decode cX6_copy 98 = .ok (.ifCond .ne 9, 3) := by decide +kernel
theorem dX6_copy_101 : decode cX6_copy 101 = .ok (.aload_n 0, 1) := by decide +kernel
theorem dX6_copy_102 : decode cX6_copy 102 = .ok (.iconst 2, 1) := by decide +kernel
theorem dX6_copy_103 : decode cX6_copy 103 = .ok (.invokevirtual 122, 3) := by decide +kernel
theorem dX6_copy_106 : decode cX6_copy 106 = .ok (.ireturn, 1) := by decide +kernel
theorem dX6_copy_107 : decode cX6_copy 107 = .ok (.aload_n 0, 1) := by decide +kernel
theorem dX6_copy_108 : decode cX6_copy 108 = .ok (.getfield 45, 3) := by decide +kernel
theorem dX6_copy_111 : decode cX6_copy 111 = .ok (.iload_n 1, 1) := by decide +kernel
theorem dX6_copy_112 : decode cX6_copy 112 = .ok (.iload_n 2, 1) := by decide +kernel
theorem dX6_copy_113 : decode cX6_copy 113 = .ok (.iload_n 3, 1) := by decide +kernel
theorem dX6_copy_114 : decode cX6_copy 114 = .ok (.iload 4, 2) := by decide +kernel
theorem dX6_copy_116 : decode cX6_copy 116 = .ok (.iload 5, 2) := by decide +kernel
theorem dX6_copy_118 : decode cX6_copy 118 = .ok (.invokevirtual 272, 3) := by decide +kernel
theorem dX6_copy_121 : decode cX6_copy 121 = .ok (.iconst 1, 1) := by decide +kernel
theorem dX6_copy_122 : decode cX6_copy 122 = .ok (.ireturn, 1) := by decide +kernel
theorem dX6_write_0 : decode cX6_write 0 = .ok (.iload_n 1, 1) := by decide +kernel
theorem dX6_write_1 : decode cX6_write 1 = .ok (.iconst 4, 1) := by decide +kernel
theorem dX6_write_2 : decode cX6_write 2 = .ok (.invokestatic 77, 3) := by decide +kernel
theorem dX6_write_5 : decode cX6_write 5 = .ok (.ifCond .eq 11, 3) := by decide +kernel
theorem dX6_write_8 : decode cX6_write 8 = .ok (.iload_n 2, 1) := by decide +kernel
theorem dX6_write_9 : decode cX6_write 9 = .ok (.iconst 4, 1) := by decide +kernel
theorem dX6_write_10 : decode cX6_write 10 = .ok (.invokestatic 77, 3) := by decide +kernel
theorem dX6_write_13 : decode cX6_write 13 = .ok (.ifCond .ne 6, 3) := by decide +kernel
theorem dX6_write_16 : decode cX6_write 16 = .ok (.bipush (-2), 2) := by decide +kernel
theorem dX6_write_18 : decode cX6_write 18 = .ok (.ireturn, 1) := by decide +kernel
theorem dX6_write_19 : decode cX6_write 19 = .ok (.aload_n 0, 1) := by decide +kernel
theorem dX6_write_20 : decode cX6_write 20 = .ok (.getfield 45, 3) := by decide +kernel
theorem dX6_write_23 : decode cX6_write 23 = .ok (.iload_n 2, 1) := by decide +kernel
theorem dX6_write_24 : decode cX6_write 24 = .ok (.invokevirtual 119, 3) := by decide +kernel
theorem dX6_write_27 : decode cX6_write 27 = .ok (.ifCond .eq 9, 3) := by decide +kernel
theorem dX6_write_30 : decode cX6_write 30 = .ok (.aload_n 0, 1) := by decide +kernel
theorem dX6_write_31 : decode cX6_write 31 = .ok (.iconst 1, 1) := by decide +kernel
theorem dX6_write_32 : decode cX6_write 32 = .ok (.invokevirtual 122, 3) := by decide +kernel
theorem dX6_write_35 : decode cX6_write 35 = .ok (.ireturn, 1) := by decide +kernel
theorem dX6_write_36 : decode cX6_write 36 = .ok (.aload_n 0, 1) := by decide +kernel
theorem dX6_write_37 : decode cX6_write 37 = .ok (.getfield 45, 3) := by decide +kernel
theorem dX6_write_40 : decode cX6_write 40 = .ok (.iload_n 2, 1) := by decide +kernel
theorem dX6_write_41 : decode cX6_write 41 = .ok (.invokevirtual 125, 3) := by decide +kernel
theorem dX6_write_44 : decode cX6_write 44 = .ok (.aload_n 0, 1) := by decide +kernel
theorem dX6_write_45 : decode cX6_write 45 = .ok (.getfield 20, 3) := by decide +kernel
theorem dX6_write_48 : decode cX6_write 48 = .ok (.invokevirtual 155, 3) := by decide +kernel
theorem dX6_write_51 : decode cX6_write 51 = .ok (.invokestatic 128, 3) := by decide +kernel
theorem dX6_write_54 : decode cX6_write 54 = .ok (.istore_n 3, 1) := by decide +kernel
theorem dX6_write_55 : decode cX6_write 55 = .ok (.iconst 0, 1) := by decide +kernel
theorem dX6_write_56 : decode cX6_write 56 = .ok (.istore 4, 2) := by decide +kernel
theorem dX6_write_58 : decode cX6_write 58 = .ok (.iload 4, 2) := by decide +kernel
theorem dX6_write_60 : decode cX6_write 60 = .ok (.iload_n 3, 1) := by decide +kernel
theorem dX6_write_61 : decode cX6_write 61 = .ok (.if_icmp .ge 29, 3) := by decide +kernel
theorem dX6_write_64 : decode cX6_write 64 = .ok (.aload_n 0, 1) := by decide +kernel
theorem dX6_write_65 : decode cX6_write 65 = .ok (.getfield 45, 3) := by decide +kernel
theorem dX6_write_68 : decode cX6_write 68 = .ok (.iload_n 2, 1) := by decide +kernel
theorem dX6_write_69 : decode cX6_write 69 = .ok (.iload 4, 2) := by decide +kernel
theorem dX6_write_71 : decode cX6_write 71 = .ok (.aload_n 0, 1) := by decide +kernel
theorem dX6_write_72 : decode cX6_write 72 = .ok (.getfield 10, 3) := by decide +kernel
theorem dX6_write_75 : decode cX6_write 75 = .ok (.iload 4, 2) := by decide +kernel
theorem dX6_write_77 : decode cX6_write 77 = .ok (.iload_n 1, 1) := by decide +kernel
theorem dX6_write_78 : decode cX6_write 78 = .ok (.invokevirtual 152, 3) := by decide +kernel
theorem dX6_write_81 : decode cX6_write 81 = .ok (.invokevirtual 261, 3) := by decide +kernel
theorem dX6_write_84 : decode cX6_write 84 = .ok (.iinc 4 1, 3) := by decide +kernel
theorem dX6_write_87 : decode cX6_write 87 = .ok (.goto (-29), 3) := by decide +kernel
theorem dX6_write_90 : decode cX6_write 90 = .ok (.iload_n 3, 1) := by decide +kernel
theorem dX6_write_91 : decode cX6_write 91 = .ok (.ireturn, 1) := by decide +kernel
theorem dX6_count_0 : decode cX6_count 0 = .ok (.iload_n 1, 1) := by decide +kernel
theorem dX6_count_1 : decode cX6_count 1 = .ok (.tableswitch 111 0 8 #[51, 59, 67, 75, 80, 85, 90, 98, 106], 51) := by decide +kernel
theorem dX6_count_52 : decode cX6_count 52 = .ok (.aload_n 0, 1) := by decide +kernel
theorem dX6_count_53 : decode cX6_count 53 = .ok (.getfield 20, 3) := by decide +kernel
theorem dX6_count_56 : decode cX6_count 56 = .ok (.invokevirtual 155, 3) := by decide +kernel
theorem dX6_count_59 : decode cX6_count 59 = .ok (.ireturn, 1) := by decide +kernel
theorem dX6_count_60 : decode cX6_count 60 = .ok (.aload_n 0, 1) := by decide +kernel
theorem dX6_count_61 : decode cX6_count 61 = .ok (.getfield 20, 3) := by decide +kernel
theorem dX6_count_64 : decode cX6_count 64 = .ok (.invokevirtual 94, 3) := by decide +kernel
theorem dX6_count_67 : decode cX6_count 67 = .ok (.ireturn, 1) := by decide +kernel
theorem dX6_count_68 : decode cX6_count 68 = .ok (.aload_n 0, 1) := by decide +kernel
theorem dX6_count_69 : decode cX6_count 69 = .ok (.getfield 20, 3) := by decide +kernel
theorem dX6_count_72 : decode cX6_count 72 = .ok (.invokevirtual 276, 3) := by decide +kernel
theorem dX6_count_75 : decode cX6_count 75 = .ok (.ireturn, 1) := by decide +kernel
theorem dX6_count_76 : decode cX6_count 76 = .ok (.aload_n 0, 1) := by decide +kernel
theorem dX6_count_77 : decode cX6_count 77 = .ok (.invokevirtual 279, 3) := by decide +kernel
theorem dX6_count_80 : decode cX6_count 80 = .ok (.ireturn, 1) := by decide +kernel
theorem dX6_count_81 : decode cX6_count 81 = .ok (.aload_n 0, 1) := by decide +kernel
theorem dX6_count_82 : decode cX6_count 82 = .ok (.invokevirtual 282, 3) := by decide +kernel
theorem dX6_count_85 : decode cX6_count 85 = .ok (.ireturn, 1) := by decide +kernel
theorem dX6_count_86 : decode cX6_count 86 = .ok (.aload_n 0, 1) := by decide +kernel
theorem dX6_count_87 : decode cX6_count 87 = .ok (.getfield 224, 3) := by decide +kernel
theorem dX6_count_90 : decode cX6_count 90 = .ok (.ireturn, 1) := by decide +kernel
theorem dX6_count_91 : decode cX6_count 91 = .ok (.aload_n 0, 1) := by decide +kernel
theorem dX6_count_92 : decode cX6_count 92 = .ok (.getfield 10, 3) := by decide +kernel
theorem dX6_count_95 : decode cX6_count 95 = .ok (.invokevirtual 285, 3) := by decide +kernel
theorem dX6_count_98 : decode cX6_count 98 = .ok (.ireturn, 1) := by decide +kernel
theorem dX6_count_99 : decode cX6_count 99 = .ok (.aload_n 0, 1) := by decide +kernel
theorem dX6_count_100 : decode cX6_count 100 = .ok (.getfield 10, 3) := by decide +kernel
theorem dX6_count_103 : decode cX6_count 103 = .ok (.invokevirtual 288, 3) := by decide +kernel
theorem dX6_count_106 : decode cX6_count 106 = .ok (.ireturn, 1) := by decide +kernel
theorem dX6_count_107 : decode cX6_count 107 = .ok (.aload_n 0, 1) := by decide +kernel
theorem dX6_count_108 : decode cX6_count 108 = .ok (.getfield 291, 3) := by decide +kernel
theorem dX6_count_111 : decode cX6_count 111 = .ok (.ireturn, 1) := by decide +kernel
theorem dX6_count_112 : decode cX6_count 112 = .ok (.bipush (-2), 2) := by decide +kernel
theorem dX6_count_114 : decode cX6_count 114 = .ok (.ireturn, 1) := by decide +kernel
theorem dX6_digest_0 : decode cX6_digest 0 = .ok (.ldc2_w 294, 3) := by decide +kernel
theorem dX6_digest_3 : decode cX6_digest 3 = .ok (.lstore_n 1, 1) := by decide +kernel
theorem dX6_digest_4 : decode cX6_digest 4 = .ok (.iconst 0, 1) := by decide +kernel
theorem dX6_digest_5 : decode cX6_digest 5 = .ok (.istore_n 3, 1) := by decide +kernel
theorem dX6_digest_6 : decode cX6_digest 6 = .ok (.iload_n 3, 1) := by decide +kernel
theorem dX6_digest_7 : decode cX6_digest 7 = .ok (.bipush 7, 2) := by decide +kernel
theorem dX6_digest_9 : decode cX6_digest 9 = .ok (.if_icmp .gt 20, 3) := by decide +kernel
theorem dX6_digest_12 : decode cX6_digest 12 = .ok (.lload_n 1, 1) := by decide +kernel
theorem dX6_digest_13 : decode cX6_digest 13 = .ok (.aload_n 0, 1) := by decide +kernel
theorem dX6_digest_14 : decode cX6_digest 14 = .ok (.iload_n 3, 1) := by decide +kernel
theorem dX6_digest_15 : decode cX6_digest 15 = .ok (.invokevirtual 296, 3) := by decide +kernel
theorem dX6_digest_18 : decode cX6_digest 18 = .ok (.i2l, 1) := by decide +kernel
theorem dX6_digest_19 : decode cX6_digest 19 = .ok (.invokestatic 299, 3) := by decide +kernel
theorem dX6_digest_22 : decode cX6_digest 22 = .ok (.lstore_n 1, 1) := by decide +kernel
theorem dX6_digest_23 : decode cX6_digest 23 = .ok (.iinc 3 1, 3) := by decide +kernel
theorem dX6_digest_26 : decode cX6_digest 26 = .ok (.goto (-20), 3) := by decide +kernel
theorem dX6_digest_29 : decode cX6_digest 29 = .ok (.lload_n 1, 1) := by decide +kernel
theorem dX6_digest_30 : decode cX6_digest 30 = .ok (.aload_n 0, 1) := by decide +kernel
theorem dX6_digest_31 : decode cX6_digest 31 = .ok (.invokevirtual 303, 3) := by decide +kernel
theorem dX6_digest_34 : decode cX6_digest 34 = .ok (.i2l, 1) := by decide +kernel
theorem dX6_digest_35 : decode cX6_digest 35 = .ok (.invokestatic 299, 3) := by decide +kernel
theorem dX6_digest_38 : decode cX6_digest 38 = .ok (.lstore_n 1, 1) := by decide +kernel
theorem dX6_digest_39 : decode cX6_digest 39 = .ok (.iconst 0, 1) := by decide +kernel
theorem dX6_digest_40 : decode cX6_digest 40 = .ok (.istore_n 3, 1) := by decide +kernel
theorem dX6_digest_41 : decode cX6_digest 41 = .ok (.iload_n 3, 1) := by decide +kernel
theorem dX6_digest_42 : decode cX6_digest 42 = .ok (.aload_n 0, 1) := by decide +kernel
theorem dX6_digest_43 : decode cX6_digest 43 = .ok (.getfield 20, 3) := by decide +kernel
theorem dX6_digest_46 : decode cX6_digest 46 = .ok (.invokevirtual 155, 3) := by decide +kernel
theorem dX6_digest_49 : decode cX6_digest 49 = .ok (.if_icmp .ge 21, 3) := by decide +kernel
theorem dX6_digest_52 : decode cX6_digest 52 = .ok (.aload_n 0, 1) := by decide +kernel
theorem dX6_digest_53 : decode cX6_digest 53 = .ok (.aload_n 0, 1) := by decide +kernel
theorem dX6_digest_54 : decode cX6_digest 54 = .ok (.lload_n 1, 1) := by decide +kernel
theorem dX6_digest_55 : decode cX6_digest 55 = .ok (.iload_n 3, 1) := by decide +kernel
theorem dX6_digest_56 : decode cX6_digest 56 = .ok (.invokevirtual 306, 3) := by decide +kernel
theorem dX6_digest_59 : decode cX6_digest 59 = .ok (.iload_n 3, 1) := by decide +kernel
theorem dX6_digest_60 : decode cX6_digest 60 = .ok (.invokevirtual 310, 3) := by decide +kernel
theorem dX6_digest_63 : decode cX6_digest 63 = .ok (.lstore_n 1, 1) := by decide +kernel
theorem dX6_digest_64 : decode cX6_digest 64 = .ok (.iinc 3 1, 3) := by decide +kernel
theorem dX6_digest_67 : decode cX6_digest 67 = .ok (.goto (-26), 3) := by decide +kernel
theorem dX6_digest_70 : decode cX6_digest 70 = .ok (.iconst 0, 1) := by decide +kernel
theorem dX6_digest_71 : decode cX6_digest 71 = .ok (.istore_n 3, 1) := by decide +kernel
theorem dX6_digest_72 : decode cX6_digest 72 = .ok (.iload_n 3, 1) := by decide +kernel
theorem dX6_digest_73 : decode cX6_digest 73 = .ok (.iconst 4, 1) := by decide +kernel
theorem dX6_digest_74 : decode cX6_digest 74 = .ok (.if_icmp .ge 31, 3) := by decide +kernel
theorem dX6_digest_77 : decode cX6_digest 77 = .ok (.lload_n 1, 1) := by decide +kernel
theorem dX6_digest_78 : decode cX6_digest 78 = .ok (.aload_n 0, 1) := by decide +kernel
theorem dX6_digest_79 : decode cX6_digest 79 = .ok (.iload_n 3, 1) := by decide +kernel
theorem dX6_digest_80 : decode cX6_digest 80 = .ok (.iconst 0, 1) := by decide +kernel
theorem dX6_digest_81 : decode cX6_digest 81 = .ok (.invokevirtual 313, 3) := by decide +kernel
theorem dX6_digest_84 : decode cX6_digest 84 = .ok (.i2l, 1) := by decide +kernel
theorem dX6_digest_85 : decode cX6_digest 85 = .ok (.invokestatic 299, 3) := by decide +kernel
theorem dX6_digest_88 : decode cX6_digest 88 = .ok (.aload_n 0, 1) := by decide +kernel
theorem dX6_digest_89 : decode cX6_digest 89 = .ok (.iload_n 3, 1) := by decide +kernel
theorem dX6_digest_90 : decode cX6_digest 90 = .ok (.iconst 1, 1) := by decide +kernel
theorem dX6_digest_91 : decode cX6_digest 91 = .ok (.invokevirtual 313, 3) := by decide +kernel
theorem dX6_digest_94 : decode cX6_digest 94 = .ok (.i2l, 1) := by decide +kernel
theorem dX6_digest_95 : decode cX6_digest 95 = .ok (.invokestatic 299, 3) := by decide +kernel
theorem dX6_digest_98 : decode cX6_digest 98 = .ok (.lstore_n 1, 1) := by decide +kernel
theorem dX6_digest_99 : decode cX6_digest 99 = .ok (.iinc 3 1, 3) := by decide +kernel
theorem dX6_digest_102 : decode cX6_digest 102 = .ok (.goto (-30), 3) := by decide +kernel
theorem dX6_digest_105 : decode cX6_digest 105 = .ok (.lload_n 1, 1) := by decide +kernel
theorem dX6_digest_106 : decode cX6_digest 106 = .ok (.aload_n 0, 1) := by decide +kernel
theorem dX6_digest_107 : decode cX6_digest 107 = .ok (.iconst 0, 1) := by decide +kernel
theorem dX6_digest_108 : decode cX6_digest 108 = .ok (.invokevirtual 316, 3) := by decide +kernel
theorem dX6_digest_111 : decode cX6_digest 111 = .ok (.i2l, 1) := by decide +kernel
theorem dX6_digest_112 : decode cX6_digest 112 = .ok (.invokestatic 299, 3) := by decide +kernel
theorem dX6_digest_115 : decode cX6_digest 115 = .ok (.aload_n 0, 1) := by decide +kernel
theorem dX6_digest_116 : decode cX6_digest 116 = .ok (.iconst 1, 1) := by decide +kernel
theorem dX6_digest_117 : decode cX6_digest 117 = .ok (.invokevirtual 316, 3) := by decide +kernel
theorem dX6_digest_120 : decode cX6_digest 120 = .ok (.i2l, 1) := by decide +kernel
theorem dX6_digest_121 : decode cX6_digest 121 = .ok (.invokestatic 299, 3) := by decide +kernel
theorem dX6_digest_124 : decode cX6_digest 124 = .ok (.lstore_n 1, 1) := by decide +kernel
theorem dX6_digest_125 : decode cX6_digest 125 = .ok (.lload_n 1, 1) := by decide +kernel
theorem dX6_digest_126 : decode cX6_digest 126 = .ok (.aload_n 0, 1) := by decide +kernel
theorem dX6_digest_127 : decode cX6_digest 127 = .ok (.iconst 0, 1) := by decide +kernel
theorem dX6_digest_128 : decode cX6_digest 128 = .ok (.sipush 900, 3) := by decide +kernel
theorem dX6_digest_131 : decode cX6_digest 131 = .ok (.iconst 0, 1) := by decide +kernel
theorem dX6_digest_132 : decode cX6_digest 132 = .ok (.invokevirtual 319, 3) := by decide +kernel
theorem dX6_digest_135 : decode cX6_digest 135 = .ok (.i2l, 1) := by decide +kernel
theorem dX6_digest_136 : decode cX6_digest 136 = .ok (.invokestatic 299, 3) := by decide +kernel
theorem dX6_digest_139 : decode cX6_digest 139 = .ok (.lstore_n 1, 1) := by decide +kernel
theorem dX6_digest_140 : decode cX6_digest 140 = .ok (.lload_n 1, 1) := by decide +kernel
theorem dX6_digest_141 : decode cX6_digest 141 = .ok (.aload_n 0, 1) := by decide +kernel
theorem dX6_digest_142 : decode cX6_digest 142 = .ok (.iconst 0, 1) := by decide +kernel
theorem dX6_digest_143 : decode cX6_digest 143 = .ok (.invokevirtual 322, 3) := by decide +kernel
theorem dX6_digest_146 : decode cX6_digest 146 = .ok (.i2l, 1) := by decide +kernel
theorem dX6_digest_147 : decode cX6_digest 147 = .ok (.invokestatic 299, 3) := by decide +kernel
theorem dX6_digest_150 : decode cX6_digest 150 = .ok (.aload_n 0, 1) := by decide +kernel
theorem dX6_digest_151 : decode cX6_digest 151 = .ok (.iconst 1, 1) := by decide +kernel
theorem dX6_digest_152 : decode cX6_digest 152 = .ok (.invokevirtual 322, 3) := by decide +kernel
theorem dX6_digest_155 : decode cX6_digest 155 = .ok (.i2l, 1) := by decide +kernel
theorem dX6_digest_156 : decode cX6_digest 156 = .ok (.invokestatic 299, 3) := by decide +kernel
theorem dX6_digest_159 : decode cX6_digest 159 = .ok (.lstore_n 1, 1) := by decide +kernel
theorem dX6_digest_160 : decode cX6_digest 160 = .ok (.lload_n 1, 1) := by decide +kernel
theorem dX6_digest_161 : decode cX6_digest 161 = .ok (.aload_n 0, 1) := by decide +kernel
theorem dX6_digest_162 : decode cX6_digest 162 = .ok (.iconst (-1), 1) := by decide +kernel
theorem dX6_digest_163 : decode cX6_digest 163 = .ok (.invokevirtual 325, 3) := by decide +kernel
theorem dX6_digest_166 : decode cX6_digest 166 = .ok (.i2l, 1) := by decide +kernel
theorem dX6_digest_167 : decode cX6_digest 167 = .ok (.invokestatic 299, 3) := by decide +kernel
theorem dX6_digest_170 : decode cX6_digest 170 = .ok (.lstore_n 1, 1) := by decide +kernel
theorem dX6_digest_171 : decode cX6_digest 171 = .ok (.lload_n 1, 1) := by decide +kernel
theorem dX6_digest_172 : decode cX6_digest 172 = .ok (.aload_n 0, 1) := by decide +kernel
theorem dX6_digest_173 : decode cX6_digest 173 = .ok (.iconst 0, 1) := by decide +kernel
theorem dX6_digest_174 : decode cX6_digest 174 = .ok (.invokevirtual 328, 3) := by decide +kernel
theorem dX6_digest_177 : decode cX6_digest 177 = .ok (.i2l, 1) := by decide +kernel
theorem dX6_digest_178 : decode cX6_digest 178 = .ok (.invokestatic 299, 3) := by decide +kernel
theorem dX6_digest_181 : decode cX6_digest 181 = .ok (.aload_n 0, 1) := by decide +kernel
theorem dX6_digest_182 : decode cX6_digest 182 = .ok (.iconst 1, 1) := by decide +kernel
theorem dX6_digest_183 : decode cX6_digest 183 = .ok (.invokevirtual 328, 3) := by decide +kernel
theorem dX6_digest_186 : decode cX6_digest 186 = .ok (.i2l, 1) := by decide +kernel
theorem dX6_digest_187 : decode cX6_digest 187 = .ok (.invokestatic 299, 3) := by decide +kernel
theorem dX6_digest_190 : decode cX6_digest 190 = .ok (.lreturn, 1) := by decide +kernel
theorem dX6_mix_0 : decode cX6_mix 0 = .ok (.ldc2_w 331, 3) := by decide +kernel
theorem dX6_mix_3 : decode cX6_mix 3 = .ok (.lload_n 0, 1) := by decide +kernel
theorem dX6_mix_4 : decode cX6_mix 4 = .ok (.lmul, 1) := by decide +kernel
theorem dX6_mix_5 : decode cX6_mix 5 = .ok (.lload_n 2, 1) := by decide +kernel
theorem dX6_mix_6 : decode cX6_mix 6 = .ok (.ladd, 1) := by decide +kernel
theorem dX6_mix_7 : decode cX6_mix 7 = .ok (.lreturn, 1) := by decide +kernel
theorem dX6_mixCell_0 : decode cX6_mixCell 0 = .ok (.lload_n 1, 1) := by decide +kernel
theorem dX6_mixCell_1 : decode cX6_mixCell 1 = .ok (.lstore 4, 2) := by decide +kernel
theorem dX6_mixCell_3 : decode cX6_mixCell 3 = .ok (.iconst 0, 1) := by decide +kernel
theorem dX6_mixCell_4 : decode cX6_mixCell 4 = .ok (.istore 6, 2) := by decide +kernel
theorem dX6_mixCell_6 : decode cX6_mixCell 6 = .ok (.iload 6, 2) := by decide +kernel
theorem dX6_mixCell_8 : decode cX6_mixCell 8 = .ok (.iconst 3, 1) := by decide +kernel
theorem dX6_mixCell_9 : decode cX6_mixCell 9 = .ok (.if_icmp .ge 24, 3) := by decide +kernel
theorem dX6_mixCell_12 : decode cX6_mixCell 12 = .ok (.lload 4, 2) := by decide +kernel
theorem dX6_mixCell_14 : decode cX6_mixCell 14 = .ok (.aload_n 0, 1) := by decide +kernel
theorem dX6_mixCell_15 : decode cX6_mixCell 15 = .ok (.iload_n 3, 1) := by decide +kernel
theorem dX6_mixCell_16 : decode cX6_mixCell 16 = .ok (.iload 6, 2) := by decide +kernel
theorem dX6_mixCell_18 : decode cX6_mixCell 18 = .ok (.invokevirtual 333, 3) := by decide +kernel
theorem dX6_mixCell_21 : decode cX6_mixCell 21 = .ok (.i2l, 1) := by decide +kernel
theorem dX6_mixCell_22 : decode cX6_mixCell 22 = .ok (.invokestatic 299, 3) := by decide +kernel
theorem dX6_mixCell_25 : decode cX6_mixCell 25 = .ok (.lstore 4, 2) := by decide +kernel
theorem dX6_mixCell_27 : decode cX6_mixCell 27 = .ok (.iinc 6 1, 3) := by decide +kernel
theorem dX6_mixCell_30 : decode cX6_mixCell 30 = .ok (.goto (-24), 3) := by decide +kernel
theorem dX6_mixCell_33 : decode cX6_mixCell 33 = .ok (.iconst 0, 1) := by decide +kernel
theorem dX6_mixCell_34 : decode cX6_mixCell 34 = .ok (.istore 6, 2) := by decide +kernel
theorem dX6_mixCell_36 : decode cX6_mixCell 36 = .ok (.iload 6, 2) := by decide +kernel
theorem dX6_mixCell_38 : decode cX6_mixCell 38 = .ok (.iconst 4, 1) := by decide +kernel
theorem dX6_mixCell_39 : decode cX6_mixCell 39 = .ok (.if_icmp .ge 24, 3) := by decide +kernel
theorem dX6_mixCell_42 : decode cX6_mixCell 42 = .ok (.lload 4, 2) := by decide +kernel
theorem dX6_mixCell_44 : decode cX6_mixCell 44 = .ok (.aload_n 0, 1) := by decide +kernel
theorem dX6_mixCell_45 : decode cX6_mixCell 45 = .ok (.iload_n 3, 1) := by decide +kernel
theorem dX6_mixCell_46 : decode cX6_mixCell 46 = .ok (.iload 6, 2) := by decide +kernel
theorem dX6_mixCell_48 : decode cX6_mixCell 48 = .ok (.invokevirtual 336, 3) := by decide +kernel
theorem dX6_mixCell_51 : decode cX6_mixCell 51 = .ok (.i2l, 1) := by decide +kernel
theorem dX6_mixCell_52 : decode cX6_mixCell 52 = .ok (.invokestatic 299, 3) := by decide +kernel
theorem dX6_mixCell_55 : decode cX6_mixCell 55 = .ok (.lstore 4, 2) := by decide +kernel
theorem dX6_mixCell_57 : decode cX6_mixCell 57 = .ok (.iinc 6 1, 3) := by decide +kernel
theorem dX6_mixCell_60 : decode cX6_mixCell 60 = .ok (.goto (-24), 3) := by decide +kernel
theorem dX6_mixCell_63 : decode cX6_mixCell 63 = .ok (.lload 4, 2) := by decide +kernel
theorem dX6_mixCell_65 : decode cX6_mixCell 65 = .ok (.aload_n 0, 1) := by decide +kernel
theorem dX6_mixCell_66 : decode cX6_mixCell 66 = .ok (.iload_n 3, 1) := by decide +kernel
theorem dX6_mixCell_67 : decode cX6_mixCell 67 = .ok (.iconst (-1), 1) := by decide +kernel
theorem dX6_mixCell_68 : decode cX6_mixCell 68 = .ok (.invokevirtual 339, 3) := by decide +kernel
theorem dX6_mixCell_71 : decode cX6_mixCell 71 = .ok (.i2l, 1) := by decide +kernel
theorem dX6_mixCell_72 : decode cX6_mixCell 72 = .ok (.invokestatic 299, 3) := by decide +kernel
theorem dX6_mixCell_75 : decode cX6_mixCell 75 = .ok (.lstore 4, 2) := by decide +kernel
theorem dX6_mixCell_77 : decode cX6_mixCell 77 = .ok (.lload 4, 2) := by decide +kernel
theorem dX6_mixCell_79 : decode cX6_mixCell 79 = .ok (.aload_n 0, 1) := by decide +kernel
theorem dX6_mixCell_80 : decode cX6_mixCell 80 = .ok (.iload_n 3, 1) := by decide +kernel
theorem dX6_mixCell_81 : decode cX6_mixCell 81 = .ok (.iconst 0, 1) := by decide +kernel
theorem dX6_mixCell_82 : decode cX6_mixCell 82 = .ok (.iconst 3, 1) := by decide +kernel
theorem dX6_mixCell_83 : decode cX6_mixCell 83 = .ok (.invokevirtual 342, 3) := by decide +kernel
theorem dX6_mixCell_86 : decode cX6_mixCell 86 = .ok (.i2l, 1) := by decide +kernel
theorem dX6_mixCell_87 : decode cX6_mixCell 87 = .ok (.invokestatic 299, 3) := by decide +kernel
theorem dX6_mixCell_90 : decode cX6_mixCell 90 = .ok (.lstore 4, 2) := by decide +kernel
theorem dX6_mixCell_92 : decode cX6_mixCell 92 = .ok (.lload 4, 2) := by decide +kernel
theorem dX6_mixCell_94 : decode cX6_mixCell 94 = .ok (.aload_n 0, 1) := by decide +kernel
theorem dX6_mixCell_95 : decode cX6_mixCell 95 = .ok (.iload_n 3, 1) := by decide +kernel
theorem dX6_mixCell_96 : decode cX6_mixCell 96 = .ok (.iconst 1, 1) := by decide +kernel
theorem dX6_mixCell_97 : decode cX6_mixCell 97 = .ok (.invokevirtual 345, 3) := by decide +kernel
theorem dX6_mixCell_100 : decode cX6_mixCell 100 = .ok (.i2l, 1) := by decide +kernel
theorem dX6_mixCell_101 : decode cX6_mixCell 101 = .ok (.invokestatic 299, 3) := by decide +kernel
theorem dX6_mixCell_104 : decode cX6_mixCell 104 = .ok (.lstore 4, 2) := by decide +kernel
theorem dX6_mixCell_106 : decode cX6_mixCell 106 = .ok (.lload 4, 2) := by decide +kernel
theorem dX6_mixCell_108 : decode cX6_mixCell 108 = .ok (.aload_n 0, 1) := by decide +kernel
theorem dX6_mixCell_109 : decode cX6_mixCell 109 = .ok (.iload_n 3, 1) := by decide +kernel
theorem dX6_mixCell_110 : decode cX6_mixCell 110 = .ok (.sipush 500, 3) := by decide +kernel
theorem dX6_mixCell_113 : decode cX6_mixCell 113 = .ok (.invokevirtual 348, 3) := by decide +kernel
theorem dX6_mixCell_116 : decode cX6_mixCell 116 = .ok (.i2l, 1) := by decide +kernel
theorem dX6_mixCell_117 : decode cX6_mixCell 117 = .ok (.invokestatic 299, 3) := by decide +kernel
theorem dX6_mixCell_120 : decode cX6_mixCell 120 = .ok (.lstore 4, 2) := by decide +kernel
theorem dX6_mixCell_122 : decode cX6_mixCell 122 = .ok (.lload 4, 2) := by decide +kernel
theorem dX6_mixCell_124 : decode cX6_mixCell 124 = .ok (.aload_n 0, 1) := by decide +kernel
theorem dX6_mixCell_125 : decode cX6_mixCell 125 = .ok (.iload_n 3, 1) := by decide +kernel
theorem dX6_mixCell_126 : decode cX6_mixCell 126 = .ok (.invokevirtual 325, 3) := by decide +kernel
theorem dX6_mixCell_129 : decode cX6_mixCell 129 = .ok (.i2l, 1) := by decide +kernel
theorem dX6_mixCell_130 : decode cX6_mixCell 130 = .ok (.invokestatic 299, 3) := by decide +kernel
theorem dX6_mixCell_133 : decode cX6_mixCell 133 = .ok (.lreturn, 1) := by decide +kernel
theorem dX6_mixChances_0 : decode cX6_mixChances 0 = .ok (.lload_n 1, 1) := by decide +kernel
theorem dX6_mixChances_1 : decode cX6_mixChances 1 = .ok (.aload_n 0, 1) := by decide +kernel
theorem dX6_mixChances_2 : decode cX6_mixChances 2 = .ok (.iload_n 3, 1) := by decide +kernel
theorem dX6_mixChances_3 : decode cX6_mixChances 3 = .ok (.iconst 2, 1) := by decide +kernel
theorem dX6_mixChances_4 : decode cX6_mixChances 4 = .ok (.iconst (-1), 1) := by decide +kernel
theorem dX6_mixChances_5 : decode cX6_mixChances 5 = .ok (.iconst 0, 1) := by decide +kernel
theorem dX6_mixChances_6 : decode cX6_mixChances 6 = .ok (.invokevirtual 351, 3) := by decide +kernel
theorem dX6_mixChances_9 : decode cX6_mixChances 9 = .ok (.invokestatic 299, 3) := by decide +kernel
theorem dX6_mixChances_12 : decode cX6_mixChances 12 = .ok (.lstore 4, 2) := by decide +kernel
theorem dX6_mixChances_14 : decode cX6_mixChances 14 = .ok (.lload 4, 2) := by decide +kernel
theorem dX6_mixChances_16 : decode cX6_mixChances 16 = .ok (.aload_n 0, 1) := by decide +kernel
theorem dX6_mixChances_17 : decode cX6_mixChances 17 = .ok (.iload_n 3, 1) := by decide +kernel
theorem dX6_mixChances_18 : decode cX6_mixChances 18 = .ok (.iconst 2, 1) := by decide +kernel
theorem dX6_mixChances_19 : decode cX6_mixChances 19 = .ok (.iconst (-1), 1) := by decide +kernel
theorem dX6_mixChances_20 : decode cX6_mixChances 20 = .ok (.iconst 1, 1) := by decide +kernel
theorem dX6_mixChances_21 : decode cX6_mixChances 21 = .ok (.invokevirtual 351, 3) := by decide +kernel
theorem dX6_mixChances_24 : decode cX6_mixChances 24 = .ok (.invokestatic 299, 3) := by decide +kernel
theorem dX6_mixChances_27 : decode cX6_mixChances 27 = .ok (.lstore 4, 2) := by decide +kernel
theorem dX6_mixChances_29 : decode cX6_mixChances 29 = .ok (.lload 4, 2) := by decide +kernel
theorem dX6_mixChances_31 : decode cX6_mixChances 31 = .ok (.aload_n 0, 1) := by decide +kernel
theorem dX6_mixChances_32 : decode cX6_mixChances 32 = .ok (.iload_n 3, 1) := by decide +kernel
theorem dX6_mixChances_33 : decode cX6_mixChances 33 = .ok (.iconst 2, 1) := by decide +kernel
theorem dX6_mixChances_34 : decode cX6_mixChances 34 = .ok (.iconst 3, 1) := by decide +kernel
theorem dX6_mixChances_35 : decode cX6_mixChances 35 = .ok (.iconst 0, 1) := by decide +kernel
theorem dX6_mixChances_36 : decode cX6_mixChances 36 = .ok (.invokevirtual 351, 3) := by decide +kernel
theorem dX6_mixChances_39 : decode cX6_mixChances 39 = .ok (.invokestatic 299, 3) := by decide +kernel
theorem dX6_mixChances_42 : decode cX6_mixChances 42 = .ok (.lstore 4, 2) := by decide +kernel
theorem dX6_mixChances_44 : decode cX6_mixChances 44 = .ok (.lload 4, 2) := by decide +kernel
theorem dX6_mixChances_46 : decode cX6_mixChances 46 = .ok (.aload_n 0, 1) := by decide +kernel
theorem dX6_mixChances_47 : decode cX6_mixChances 47 = .ok (.iload_n 3, 1) := by decide +kernel
theorem dX6_mixChances_48 : decode cX6_mixChances 48 = .ok (.iconst 2, 1) := by decide +kernel
theorem dX6_mixChances_49 : decode cX6_mixChances 49 = .ok (.iconst 3, 1) := by decide +kernel
theorem dX6_mixChances_50 : decode cX6_mixChances 50 = .ok (.iconst 1, 1) := by decide +kernel
theorem dX6_mixChances_51 : decode cX6_mixChances 51 = .ok (.invokevirtual 351, 3) := by decide +kernel
theorem dX6_mixChances_54 : decode cX6_mixChances 54 = .ok (.invokestatic 299, 3) := by decide +kernel
theorem dX6_mixChances_57 : decode cX6_mixChances 57 = .ok (.lreturn, 1) := by decide +kernel
theorem dX6_isBelow_0 : decode cX6_isBelow 0 = .ok (.iload_n 0, 1) := by decide +kernel
theorem dX6_isBelow_1 : decode cX6_isBelow 1 = .ok (.ifCond .lt 12, 3) := by decide +kernel
theorem dX6_isBelow_4 : decode cX6_isBelow 4 = .ok (.iload_n 0, 1) := by decide +kernel
theorem dX6_isBelow_5 : decode cX6_isBelow 5 = .ok (.iload_n 1, 1) := by decide +kernel
theorem dX6_isBelow_6 : decode cX6_isBelow 6 = .ok (.if_icmp .ge 7, 3) := by decide +kernel
theorem dX6_isBelow_9 : decode cX6_isBelow 9 = .ok (.iconst 1, 1) := by decide +kernel
theorem dX6_isBelow_10 : decode cX6_isBelow 10 = .ok (.goto 4, 3) := by decide +kernel
theorem dX6_isBelow_13 : decode cX6_isBelow 13 = .ok (.iconst 0, 1) := by decide +kernel
theorem dX6_isBelow_14 : decode cX6_isBelow 14 = .ok (.ireturn, 1) := by decide +kernel
theorem dX6_isCell_0 : decode cX6_isCell 0 = .ok (.iload_n 1, 1) := by decide +kernel
theorem dX6_isCell_1 : decode cX6_isCell 1 = .ok (.aload_n 0, 1) := by decide +kernel
theorem dX6_isCell_2 : decode cX6_isCell 2 = .ok (.getfield 20, 3) := by decide +kernel
theorem dX6_isCell_5 : decode cX6_isCell 5 = .ok (.invokevirtual 155, 3) := by decide +kernel
theorem dX6_isCell_8 : decode cX6_isCell 8 = .ok (.invokestatic 77, 3) := by decide +kernel
theorem dX6_isCell_11 : decode cX6_isCell 11 = .ok (.ireturn, 1) := by decide +kernel
theorem dX6_found_0 : decode cX6_found 0 = .ok (.aload_n 0, 1) := by decide +kernel
theorem dX6_found_1 : decode cX6_found 1 = .ok (.iload_n 1, 1) := by decide +kernel
theorem dX6_found_2 : decode cX6_found 2 = .ok (.putfield 291, 3) := by decide +kernel

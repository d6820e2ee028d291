theorem dX7_partsOf_19 : decode cX7_partsOf 19 = .ok (.aload_n 0, 1) := by decide +kernel
theorem dX7_partsOf_20 : decode cX7_partsOf 20 = .ok (.iload_n 2, 1) := by decide +kernel
theorem dX7_partsOf_21 : decode cX7_partsOf 21 = .ok (.invokevirtual 160, 3) := by decide +kernel
theorem dX7_partsOf_24 : decode cX7_partsOf 24 = .ok (.ireturn, 1) := by decide +kernel
theorem dX7_parts_0 : decode cX7_parts 0 = .ok (.iload_n 1, 1) := by decide +kernel
theorem dX7_parts_1 : decode cX7_parts 1 = .ok (.iconst 0, 1) := by decide +kernel
theorem dX7_parts_2 : decode cX7_parts 2 = .ok (.iconst 1, 1) := by decide +kernel
theorem dX7_parts_3 : decode cX7_parts 3 = .ok (.invokestatic 77, 3) := by decide +kernel
theorem dX7_parts_6 : decode cX7_parts 6 = .ok (.ifCond .eq 11, 3) := by decide +kernel
theorem dX7_parts_9 : decode cX7_parts 9 = .ok (.aload_n 0, 1) := by decide +kernel
theorem dX7_parts_10 : decode cX7_parts 10 = .ok (.iload_n 1, 1) := by decide +kernel
theorem dX7_parts_11 : decode cX7_parts 11 = .ok (.invokevirtual 169, 3) := by decide +kernel
theorem dX7_parts_14 : decode cX7_parts 14 = .ok (.goto 5, 3) := by decide +kernel
theorem dX7_parts_17 : decode cX7_parts 17 = .ok (.bipush (-2), 2) := by decide +kernel
theorem dX7_parts_19 : decode cX7_parts 19 = .ok (.ireturn, 1) := by decide +kernel
theorem dX7_takenOf_0 : decode cX7_takenOf 0 = .ok (.aload_n 0, 1) := by decide +kernel
theorem dX7_takenOf_1 : decode cX7_takenOf 1 = .ok (.iload_n 3, 1) := by decide +kernel
theorem dX7_takenOf_2 : decode cX7_takenOf 2 = .ok (.iconst 1, 1) := by decide +kernel
theorem dX7_takenOf_3 : decode cX7_takenOf 3 = .ok (.invokevirtual 141, 3) := by decide +kernel
theorem dX7_takenOf_6 : decode cX7_takenOf 6 = .ok (.istore 4, 2) := by decide +kernel
theorem dX7_takenOf_8 : decode cX7_takenOf 8 = .ok (.aload_n 0, 1) := by decide +kernel
theorem dX7_takenOf_9 : decode cX7_takenOf 9 = .ok (.getfield 16, 3) := by decide +kernel
theorem dX7_takenOf_12 : decode cX7_takenOf 12 = .ok (.iload_n 1, 1) := by decide +kernel
theorem dX7_takenOf_13 : decode cX7_takenOf 13 = .ok (.iaload, 1) := by decide +kernel
theorem dX7_takenOf_14 : decode cX7_takenOf 14 = .ok (.istore 5, 2) := by decide +kernel
theorem dX7_takenOf_16 : decode cX7_takenOf 16 = .ok (.aload_n 0, 1) := by decide +kernel
theorem dX7_takenOf_17 : decode cX7_takenOf 17 = .ok (.getfield 16, 3) := by decide +kernel
theorem dX7_takenOf_20 : decode cX7_takenOf 20 = .ok (.iload_n 1, 1) := by decide +kernel
theorem dX7_takenOf_21 : decode cX7_takenOf 21 = .ok (.iload_n 2, 1) := by decide +kernel
theorem dX7_takenOf_22 : decode cX7_takenOf 22 = .ok (.iastore, 1) := by decide +kernel
theorem dX7_takenOf_23 : decode cX7_takenOf 23 = .ok (.aload_n 0, 1) := by decide +kernel
theorem dX7_takenOf_24 : decode cX7_takenOf 24 = .ok (.iload_n 3, 1) := by decide +kernel
theorem dX7_takenOf_25 : decode cX7_takenOf 25 = .ok (.iconst 1, 1) := by decide +kernel
theorem dX7_takenOf_26 : decode cX7_takenOf 26 = .ok (.invokevirtual 141, 3) := by decide +kernel
theorem dX7_takenOf_29 : decode cX7_takenOf 29 = .ok (.istore 6, 2) := by decide +kernel
theorem dX7_takenOf_31 : decode cX7_takenOf 31 = .ok (.aload_n 0, 1) := by decide +kernel
theorem dX7_takenOf_32 : decode cX7_takenOf 32 = .ok (.getfield 16, 3) := by decide +kernel
theorem dX7_takenOf_35 : decode cX7_takenOf 35 = .ok (.iload_n 1, 1) := by decide +kernel
theorem dX7_takenOf_36 : decode cX7_takenOf 36 = .ok (.iload 5, 2) := by decide +kernel
theorem dX7_takenOf_38 : decode cX7_takenOf 38 = .ok (.iastore, 1) := by decide +kernel
theorem dX7_takenOf_39 : decode cX7_takenOf 39 = .ok (.iload 4, 2) := by decide +kernel
theorem dX7_takenOf_41 : decode cX7_takenOf 41 = .ok (.iload 6, 2) := by decide +kernel
theorem dX7_takenOf_43 : decode cX7_takenOf 43 = .ok (.isub, 1) := by decide +kernel
theorem dX7_takenOf_44 : decode cX7_takenOf 44 = .ok (.ireturn, 1) := by decide +kernel
theorem dX7_taken_0 : decode cX7_taken 0 = .ok (.aload_n 0, 1) := by decide +kernel
theorem dX7_taken_1 : decode cX7_taken 1 = .ok (.iload_n 1, 1) := by decide +kernel
theorem dX7_taken_2 : decode cX7_taken 2 = .ok (.invokevirtual 102, 3) := by decide +kernel
theorem dX7_taken_5 : decode cX7_taken 5 = .ok (.ifCond .eq 30, 3) := by decide +kernel
theorem dX7_taken_8 : decode cX7_taken 8 = .ok (.iload_n 2, 1) := by decide +kernel
theorem dX7_taken_9 : decode cX7_taken 9 = .ok (.iconst 0, 1) := by decide +kernel
theorem dX7_taken_10 : decode cX7_taken 10 = .ok (.bipush 20, 2) := by decide +kernel
theorem dX7_taken_12 : decode cX7_taken 12 = .ok (.invokestatic 77, 3) := by decide +kernel
theorem dX7_taken_15 : decode cX7_taken 15 = .ok (.ifCond .eq 20, 3) := by decide +kernel
theorem dX7_taken_18 : decode cX7_taken 18 = .ok (.iload_n 3, 1) := by decide +kernel
theorem dX7_taken_19 : decode cX7_taken 19 = .ok (.invokestatic 113, 3) := by decide +kernel
theorem dX7_taken_22 : decode cX7_taken 22 = .ok (.ifCond .eq 13, 3) := by decide +kernel
theorem dX7_taken_25 : decode cX7_taken 25 = .ok (.aload_n 0, 1) := by decide +kernel
theorem dX7_taken_26 : decode cX7_taken 26 = .ok (.iload_n 1, 1) := by decide +kernel
theorem dX7_taken_27 : decode cX7_taken 27 = .ok (.iload_n 2, 1) := by decide +kernel
theorem dX7_taken_28 : decode cX7_taken 28 = .ok (.iload_n 3, 1) := by decide +kernel
theorem dX7_taken_29 : decode cX7_taken 29 = .ok (.invokevirtual 172, 3) := by decide +kernel
theorem dX7_taken_32 : decode cX7_taken 32 = .ok (.goto 5, 3) := by decide +kernel
theorem dX7_taken_35 : decode cX7_taken 35 = .ok (.ldc 175, 2) := by decide +kernel
theorem dX7_taken_37 : decode cX7_taken 37 = .ok (.ireturn, 1) := by decide +kernel
theorem dX7_highestOf_0 : decode cX7_highestOf 0 = .ok (.iconst (-1), 1) := by decide +kernel
theorem dX7_highestOf_1 : decode cX7_highestOf 1 = .ok (.istore_n 3, 1) := by decide +kernel
theorem dX7_highestOf_2 : decode cX7_highestOf 2 = .ok (.iconst 0, 1) := by decide +kernel
theorem dX7_highestOf_3 : decode cX7_highestOf 3 = .ok (.istore 4, 2) := by decide +kernel
theorem dX7_highestOf_5 : decode cX7_highestOf 5 = .ok (.iload 4, 2) := by decide +kernel
theorem dX7_highestOf_7 : decode cX7_highestOf 7 = .ok (.bipush 20, 2) := by decide +kernel
theorem dX7_highestOf_9 : decode cX7_highestOf 9 = .ok (.if_icmp .gt 64, 3) := by decide +kernel
theorem dX7_highestOf_12 : decode cX7_highestOf 12 = .ok (.iconst 1, 1) := by decide +kernel
theorem dX7_highestOf_13 : decode cX7_highestOf 13 = .ok (.istore 5, 2) := by decide +kernel
theorem dX7_highestOf_15 : decode cX7_highestOf 15 = .ok (.iconst 0, 1) := by decide +kernel
theorem dX7_highestOf_16 : decode cX7_highestOf 16 = .ok (.istore 6, 2) := by decide +kernel
theorem dX7_highestOf_18 : decode cX7_highestOf 18 = .ok (.iload 6, 2) := by decide +kernel
theorem dX7_highestOf_20 : decode cX7_highestOf 20 = .ok (.iconst 4, 1) := by decide +kernel
theorem dX7_highestOf_21 : decode cX7_highestOf 21 = .ok (.if_icmp .ge 34, 3) := by decide +kernel
theorem dX7_highestOf_24 : decode cX7_highestOf 24 = .ok (.iload 5, 2) := by decide +kernel
theorem dX7_highestOf_26 : decode cX7_highestOf 26 = .ok (.ifCond .eq 20, 3) := by decide +kernel
theorem dX7_highestOf_29 : decode cX7_highestOf 29 = .ok (.aload_n 0, 1) := by decide +kernel
theorem dX7_highestOf_30 : decode cX7_highestOf 30 = .ok (.iload_n 1, 1) := by decide +kernel
theorem dX7_highestOf_31 : decode cX7_highestOf 31 = .ok (.iload 4, 2) := by decide +kernel
theorem dX7_highestOf_33 : decode cX7_highestOf 33 = .ok (.iload 6, 2) := by decide +kernel
theorem dX7_highestOf_35 : decode cX7_highestOf 35 = .ok (.invokevirtual 172, 3) := by decide +kernel
theorem dX7_highestOf_38 : decode cX7_highestOf 38 = .ok (.iload_n 2, 1) := by decide +kernel
theorem dX7_highestOf_39 : decode cX7_highestOf 39 = .ok (.if_icmp .gt 7, 3) := by decide +kernel
theorem dX7_highestOf_42 : decode cX7_highestOf 42 = .ok (.iconst 1, 1) := by decide +kernel
theorem dX7_highestOf_43 : decode cX7_highestOf 43 = .ok (.goto 4, 3) := by decide +kernel
theorem dX7_highestOf_46 : decode cX7_highestOf 46 = .ok (.iconst 0, 1) := by decide +kernel
theorem dX7_highestOf_47 : decode cX7_highestOf 47 = .ok (.istore 5, 2) := by decide +kernel
theorem dX7_highestOf_49 : decode cX7_highestOf 49 = .ok (.iinc 6 1, 3) := by decide +kernel
theorem dX7_highestOf_52 : decode cX7_highestOf 52 = .ok (.goto (-34), 3) := by decide +kernel
theorem dX7_highestOf_55 : decode cX7_highestOf 55 = .ok (.iload 5, 2) := by decide +kernel
theorem dX7_highestOf_57 : decode cX7_highestOf 57 = .ok (.ifCond .eq 8, 3) := by decide +kernel
theorem dX7_highestOf_60 : decode cX7_highestOf 60 = .ok (.iload 4, 2) := by decide +kernel
theorem dX7_highestOf_62 : decode cX7_highestOf 62 = .ok (.goto 4, 3) := by decide +kernel
theorem dX7_highestOf_65 : decode cX7_highestOf 65 = .ok (.iload_n 3, 1) := by decide +kernel
theorem dX7_highestOf_66 : decode cX7_highestOf 66 = .ok (.istore_n 3, 1) := by decide +kernel
theorem dX7_highestOf_67 : decode cX7_highestOf 67 = .ok (.iinc 4 1, 3) := by decide +kernel
theorem dX7_highestOf_70 : decode cX7_highestOf 70 = .ok (.goto (-65), 3) := by decide +kernel
theorem dX7_highestOf_73 : decode cX7_highestOf 73 = .ok (.iload_n 3, 1) := by decide +kernel
theorem dX7_highestOf_74 : decode cX7_highestOf 74 = .ok (.ireturn, 1) := by decide +kernel
theorem dX7_highest_0 : decode cX7_highest 0 = .ok (.aload_n 0, 1) := by decide +kernel
theorem dX7_highest_1 : decode cX7_highest 1 = .ok (.iload_n 1, 1) := by decide +kernel
theorem dX7_highest_2 : decode cX7_highest 2 = .ok (.invokevirtual 102, 3) := by decide +kernel
theorem dX7_highest_5 : decode cX7_highest 5 = .ok (.ifCond .eq 22, 3) := by decide +kernel
theorem dX7_highest_8 : decode cX7_highest 8 = .ok (.iload_n 2, 1) := by decide +kernel
theorem dX7_highest_9 : decode cX7_highest 9 = .ok (.iconst 0, 1) := by decide +kernel
theorem dX7_highest_10 : decode cX7_highest 10 = .ok (.ldc 176, 2) := by decide +kernel
theorem dX7_highest_12 : decode cX7_highest 12 = .ok (.invokestatic 77, 3) := by decide +kernel
theorem dX7_highest_15 : decode cX7_highest 15 = .ok (.ifCond .eq 12, 3) := by decide +kernel
theorem dX7_highest_18 : decode cX7_highest 18 = .ok (.aload_n 0, 1) := by decide +kernel
theorem dX7_highest_19 : decode cX7_highest 19 = .ok (.iload_n 1, 1) := by decide +kernel
theorem dX7_highest_20 : decode cX7_highest 20 = .ok (.iload_n 2, 1) := by decide +kernel
theorem dX7_highest_21 : decode cX7_highest 21 = .ok (.invokevirtual 177, 3) := by decide +kernel
theorem dX7_highest_24 : decode cX7_highest 24 = .ok (.goto 5, 3) := by decide +kernel
theorem dX7_highest_27 : decode cX7_highest 27 = .ok (.bipush (-2), 2) := by decide +kernel
theorem dX7_highest_29 : decode cX7_highest 29 = .ok (.ireturn, 1) := by decide +kernel
theorem dX7_againOf_0 : decode cX7_againOf 0 = .ok (.aload_n 0, 1) := by decide +kernel
theorem dX7_againOf_1 : decode cX7_againOf 1 = .ok (.invokevirtual 166, 3) := by decide +kernel
theorem dX7_againOf_4 : decode cX7_againOf 4 = .ok (.istore 4, 2) := by decide +kernel
theorem dX7_againOf_6 : decode cX7_againOf 6 = .ok (.aload_n 0, 1) := by decide +kernel
theorem dX7_againOf_7 : decode cX7_againOf 7 = .ok (.getfield 16, 3) := by decide +kernel
theorem dX7_againOf_10 : decode cX7_againOf 10 = .ok (.iload_n 1, 1) := by decide +kernel
theorem dX7_againOf_11 : decode cX7_againOf 11 = .ok (.iaload, 1) := by decide +kernel
theorem dX7_againOf_12 : decode cX7_againOf 12 = .ok (.ifCond .eq 9, 3) := by decide +kernel
theorem dX7_againOf_15 : decode cX7_againOf 15 = .ok (.iload 4, 2) := by decide +kernel
theorem dX7_againOf_17 : decode cX7_againOf 17 = .ok (.iconst (-1), 1) := by decide +kernel
theorem dX7_againOf_18 : decode cX7_againOf 18 = .ok (.if_icmp .ne 6, 3) := by decide +kernel
theorem dX7_againOf_21 : decode cX7_againOf 21 = .ok (.bipush (-3), 2) := by decide +kernel
theorem dX7_againOf_23 : decode cX7_againOf 23 = .ok (.ireturn, 1) := by decide +kernel
theorem dX7_againOf_24 : decode cX7_againOf 24 = .ok (.aload_n 0, 1) := by decide +kernel
theorem dX7_againOf_25 : decode cX7_againOf 25 = .ok (.getfield 16, 3) := by decide +kernel
theorem dX7_againOf_28 : decode cX7_againOf 28 = .ok (.iload_n 1, 1) := by decide +kernel
theorem dX7_againOf_29 : decode cX7_againOf 29 = .ok (.iaload, 1) := by decide +kernel
theorem dX7_againOf_30 : decode cX7_againOf 30 = .ok (.istore 5, 2) := by decide +kernel
theorem dX7_againOf_32 : decode cX7_againOf 32 = .ok (.aload_n 0, 1) := by decide +kernel
theorem dX7_againOf_33 : decode cX7_againOf 33 = .ok (.getfield 16, 3) := by decide +kernel
theorem dX7_againOf_36 : decode cX7_againOf 36 = .ok (.iload_n 1, 1) := by decide +kernel
theorem dX7_againOf_37 : decode cX7_againOf 37 = .ok (.iconst 0, 1) := by decide +kernel
theorem dX7_againOf_38 : decode cX7_againOf 38 = .ok (.iastore, 1) := by decide +kernel
theorem dX7_againOf_39 : decode cX7_againOf 39 = .ok (.aload_n 0, 1) := by decide +kernel
theorem dX7_againOf_40 : decode cX7_againOf 40 = .ok (.invokevirtual 157, 3) := by decide +kernel
theorem dX7_againOf_43 : decode cX7_againOf 43 = .ok (.aload_n 0, 1) := by decide +kernel
theorem dX7_againOf_44 : decode cX7_againOf 44 = .ok (.getfield 16, 3) := by decide +kernel
theorem dX7_againOf_47 : decode cX7_againOf 47 = .ok (.iload_n 1, 1) := by decide +kernel
theorem dX7_againOf_48 : decode cX7_againOf 48 = .ok (.iload 5, 2) := by decide +kernel
theorem dX7_againOf_50 : decode cX7_againOf 50 = .ok (.iastore, 1) := by decide +kernel
theorem dX7_againOf_51 : decode cX7_againOf 51 = .ok (.iconst (-1), 1) := by decide +kernel
theorem dX7_againOf_52 : decode cX7_againOf 52 = .ok (.istore 6, 2) := by decide +kernel
theorem dX7_againOf_54 : decode cX7_againOf 54 = .ok (.iconst 1, 1) := by decide +kernel
theorem dX7_againOf_55 : decode cX7_againOf 55 = .ok (.istore 7, 2) := by decide +kernel
theorem dX7_againOf_57 : decode cX7_againOf 57 = .ok (.iload 7, 2) := by decide +kernel
theorem dX7_againOf_59 : decode cX7_againOf 59 = .ok (.aload_n 0, 1) := by decide +kernel
theorem dX7_againOf_60 : decode cX7_againOf 60 = .ok (.invokevirtual 154, 3) := by decide +kernel
theorem dX7_againOf_63 : decode cX7_againOf 63 = .ok (.if_icmp .ge 74, 3) := by decide +kernel
theorem dX7_againOf_66 : decode cX7_againOf 66 = .ok (.aload_n 0, 1) := by decide +kernel
theorem dX7_againOf_67 : decode cX7_againOf 67 = .ok (.iload 7, 2) := by decide +kernel
theorem dX7_againOf_69 : decode cX7_againOf 69 = .ok (.invokevirtual 160, 3) := by decide +kernel
theorem dX7_againOf_72 : decode cX7_againOf 72 = .ok (.iload_n 2, 1) := by decide +kernel
theorem dX7_againOf_73 : decode cX7_againOf 73 = .ok (.if_icmp .gt 32, 3) := by decide +kernel
theorem dX7_againOf_76 : decode cX7_againOf 76 = .ok (.iload 6, 2) := by decide +kernel
theorem dX7_againOf_78 : decode cX7_againOf 78 = .ok (.iconst (-1), 1) := by decide +kernel
theorem dX7_againOf_79 : decode cX7_againOf 79 = .ok (.if_icmp .eq 22, 3) := by decide +kernel
theorem dX7_againOf_82 : decode cX7_againOf 82 = .ok (.iload 7, 2) := by decide +kernel
theorem dX7_againOf_84 : decode cX7_againOf 84 = .ok (.iload 4, 2) := by decide +kernel
theorem dX7_againOf_86 : decode cX7_againOf 86 = .ok (.ixor, 1) := by decide +kernel
theorem dX7_againOf_87 : decode cX7_againOf 87 = .ok (.invokestatic 132, 3) := by decide +kernel
theorem dX7_againOf_90 : decode cX7_againOf 90 = .ok (.iload 6, 2) := by decide +kernel
theorem dX7_againOf_92 : decode cX7_againOf 92 = .ok (.iload 4, 2) := by decide +kernel
theorem dX7_againOf_94 : decode cX7_againOf 94 = .ok (.ixor, 1) := by decide +kernel
theorem dX7_againOf_95 : decode cX7_againOf 95 = .ok (.invokestatic 132, 3) := by decide +kernel
theorem dX7_againOf_98 : decode cX7_againOf 98 = .ok (.if_icmp .ge 7, 3) := by decide +kernel
theorem dX7_againOf_101 : decode cX7_againOf 101 = .ok (.iconst 1, 1) := by decide +kernel
theorem dX7_againOf_102 : decode cX7_againOf 102 = .ok (.goto 4, 3) := by decide +kernel
theorem dX7_againOf_105 : decode cX7_againOf 105 = .ok (.iconst 0, 1) := by decide +kernel
theorem dX7_againOf_106 : decode cX7_againOf 106 = .ok (.istore 8, 2) := by decide +kernel
theorem dX7_againOf_108 : decode cX7_againOf 108 = .ok (.iload 8, 2) := by decide +kernel
theorem dX7_againOf_110 : decode cX7_againOf 110 = .ok (.ifCond .eq 17, 3) := by decide +kernel
theorem dX7_againOf_113 : decode cX7_againOf 113 = .ok (.aload_n 0, 1) := by decide +kernel
theorem dX7_againOf_114 : decode cX7_againOf 114 = .ok (.iload 7, 2) := by decide +kernel
theorem dX7_againOf_116 : decode cX7_againOf 116 = .ok (.invokevirtual 163, 3) := by decide +kernel
theorem dX7_againOf_119 : decode cX7_againOf 119 = .ok (.ifCond .eq 8, 3) := by decide +kernel
theorem dX7_againOf_122 : decode cX7_againOf 122 = .ok (.iload 7, 2) := by decide +kernel
theorem dX7_againOf_124 : decode cX7_againOf 124 = .ok (.goto 5, 3) := by decide +kernel
theorem dX7_againOf_127 : decode cX7_againOf 127 = .ok (.iload 6, 2) := by decide +kernel
theorem dX7_againOf_129 : decode cX7_againOf 129 = .ok (.istore 6, 2) := by decide +kernel
theorem dX7_againOf_131 : decode cX7_againOf 131 = .ok (.iinc 7 2, 3) := by decide +kernel
theorem dX7_againOf_134 : decode cX7_againOf 134 = .ok (.goto (-77), 3) := by decide +kernel
theorem dX7_againOf_137 : decode cX7_againOf 137 = .ok (.iload 6, 2) := by decide +kernel
theorem dX7_againOf_139 : decode cX7_againOf 139 = .ok (.iconst (-1), 1) := by decide +kernel
theorem dX7_againOf_140 : decode cX7_againOf 140 = .ok (.if_icmp .eq 8, 3) := by decide +kernel
theorem dX7_againOf_143 : decode cX7_againOf 143 = .ok (.iload_n 3, 1) := by decide +kernel
theorem dX7_againOf_144 : decode cX7_againOf 144 = .ok (.iconst 1, 1) := by decide +kernel
theorem dX7_againOf_145 : decode cX7_againOf 145 = .ok (.if_icmp .ne 8, 3) := by decide +kernel
theorem dX7_againOf_148 : decode cX7_againOf 148 = .ok (.iload 6, 2) := by decide +kernel
theorem dX7_againOf_150 : decode cX7_againOf 150 = .ok (.goto 11, 3) := by decide +kernel
theorem dX7_againOf_153 : decode cX7_againOf 153 = .ok (.iload 6, 2) := by decide +kernel
theorem dX7_againOf_155 : decode cX7_againOf 155 = .ok (.iload 4, 2) := by decide +kernel
theorem dX7_againOf_157 : decode cX7_againOf 157 = .ok (.ixor, 1) := by decide +kernel
theorem dX7_againOf_158 : decode cX7_againOf 158 = .ok (.invokestatic 132, 3) := by decide +kernel
theorem dX7_againOf_161 : decode cX7_againOf 161 = .ok (.ireturn, 1) := by decide +kernel
theorem dX7_again_0 : decode cX7_again 0 = .ok (.aload_n 0, 1) := by decide +kernel
theorem dX7_again_1 : decode cX7_again 1 = .ok (.iload_n 1, 1) := by decide +kernel
theorem dX7_again_2 : decode cX7_again 2 = .ok (.invokevirtual 102, 3) := by decide +kernel
theorem dX7_again_5 : decode cX7_again 5 = .ok (.ifCond .eq 32, 3) := by decide +kernel
theorem dX7_again_8 : decode cX7_again 8 = .ok (.iload_n 2, 1) := by decide +kernel
theorem dX7_again_9 : decode cX7_again 9 = .ok (.iconst 0, 1) := by decide +kernel
theorem dX7_again_10 : decode cX7_again 10 = .ok (.ldc 176, 2) := by decide +kernel
theorem dX7_again_12 : decode cX7_again 12 = .ok (.invokestatic 77, 3) := by decide +kernel
theorem dX7_again_15 : decode cX7_again 15 = .ok (.ifCond .eq 22, 3) := by decide +kernel
theorem dX7_again_18 : decode cX7_again 18 = .ok (.iload_n 3, 1) := by decide +kernel
theorem dX7_again_19 : decode cX7_again 19 = .ok (.iconst 0, 1) := by decide +kernel
theorem dX7_again_20 : decode cX7_again 20 = .ok (.iconst 1, 1) := by decide +kernel
theorem dX7_again_21 : decode cX7_again 21 = .ok (.invokestatic 77, 3) := by decide +kernel
theorem dX7_again_24 : decode cX7_again 24 = .ok (.ifCond .eq 13, 3) := by decide +kernel
theorem dX7_again_27 : decode cX7_again 27 = .ok (.aload_n 0, 1) := by decide +kernel
theorem dX7_again_28 : decode cX7_again 28 = .ok (.iload_n 1, 1) := by decide +kernel
theorem dX7_again_29 : decode cX7_again 29 = .ok (.iload_n 2, 1) := by decide +kernel
theorem dX7_again_30 : decode cX7_again 30 = .ok (.iload_n 3, 1) := by decide +kernel
theorem dX7_again_31 : decode cX7_again 31 = .ok (.invokevirtual 180, 3) := by decide +kernel
theorem dX7_again_34 : decode cX7_again 34 = .ok (.goto 5, 3) := by decide +kernel
theorem dX7_again_37 : decode cX7_again 37 = .ok (.bipush (-2), 2) := by decide +kernel
theorem dX7_again_39 : decode cX7_again 39 = .ok (.ireturn, 1) := by decide +kernel
theorem dX7_worth_0 : decode cX7_worth 0 = .ok (.iload_n 1, 1) := by decide +kernel
theorem dX7_worth_1 : decode cX7_worth 1 = .ok (.invokestatic 113, 3) := by decide +kernel
theorem dX7_worth_4 : decode cX7_worth 4 = .ok (.ifCond .eq 20, 3) := by decide +kernel
theorem dX7_worth_7 : decode cX7_worth 7 = .ok (.iload_n 2, 1) := by decide +kernel
theorem dX7_worth_8 : decode cX7_worth 8 = .ok (.invokestatic 113, 3) := by decide +kernel
theorem dX7_worth_11 : decode cX7_worth 11 = .ok (.ifCond .eq 13, 3) := by decide +kernel
theorem dX7_worth_14 : decode cX7_worth 14 = .ok (.iload_n 3, 1) := by decide +kernel
theorem dX7_worth_15 : decode cX7_worth 15 = .ok (.iconst 0, 1) := by decide +kernel
theorem dX7_worth_16 : decode cX7_worth 16 = .ok (.bipush 9, 2) := by decide +kernel
theorem dX7_worth_18 : decode cX7_worth 18 = .ok (.invokestatic 77, 3) := by decide +kernel
theorem dX7_worth_21 : decode cX7_worth 21 = .ok (.ifCond .ne 6, 3) := by decide +kernel
theorem dX7_worth_24 : decode cX7_worth 24 = .ok (.bipush (-2), 2) := by decide +kernel
theorem dX7_worth_26 : decode cX7_worth 26 = .ok (.ireturn, 1) := by decide +kernel
theorem dX7_worth_27 : decode cX7_worth 27 = .ok (.aload_n 0, 1) := by decide +kernel
theorem dX7_worth_28 : decode cX7_worth 28 = .ok (.getfield 28, 3) := by decide +kernel
theorem dX7_worth_31 : decode cX7_worth 31 = .ok (.iconst 4, 1) := by decide +kernel
theorem dX7_worth_32 : decode cX7_worth 32 = .ok (.iload_n 1, 1) := by decide +kernel
theorem dX7_worth_33 : decode cX7_worth 33 = .ok (.imul, 1) := by decide +kernel
theorem dX7_worth_34 : decode cX7_worth 34 = .ok (.iload_n 2, 1) := by decide +kernel
theorem dX7_worth_35 : decode cX7_worth 35 = .ok (.iadd, 1) := by decide +kernel
theorem dX7_worth_36 : decode cX7_worth 36 = .ok (.iaload, 1) := by decide +kernel
theorem dX7_worth_37 : decode cX7_worth 37 = .ok (.istore 4, 2) := by decide +kernel
theorem dX7_worth_39 : decode cX7_worth 39 = .ok (.aload_n 0, 1) := by decide +kernel
theorem dX7_worth_40 : decode cX7_worth 40 = .ok (.getfield 28, 3) := by decide +kernel
theorem dX7_worth_43 : decode cX7_worth 43 = .ok (.iconst 4, 1) := by decide +kernel
theorem dX7_worth_44 : decode cX7_worth 44 = .ok (.iload_n 1, 1) := by decide +kernel
theorem dX7_worth_45 : decode cX7_worth 45 = .ok (.imul, 1) := by decide +kernel
theorem dX7_worth_46 : decode cX7_worth 46 = .ok (.iload_n 2, 1) := by decide +kernel
theorem dX7_worth_47 : decode cX7_worth 47 = .ok (.iadd, 1) := by decide +kernel
theorem dX7_worth_48 : decode cX7_worth 48 = .ok (.iload_n 3, 1) := by decide +kernel
theorem dX7_worth_49 : decode cX7_worth 49 = .ok (.iastore, 1) := by decide +kernel
theorem dX7_worth_50 : decode cX7_worth 50 = .ok (.iload 4, 2) := by decide +kernel
theorem dX7_worth_52 : decode cX7_worth 52 = .ok (.ireturn, 1) := by decide +kernel
theorem dX7_valueOf_0 : decode cX7_valueOf 0 = .ok (.iconst 0, 1) := by decide +kernel
theorem dX7_valueOf_1 : decode cX7_valueOf 1 = .ok (.istore_n 3, 1) := by decide +kernel
theorem dX7_valueOf_2 : decode cX7_valueOf 2 = .ok (.iconst 0, 1) := by decide +kernel
theorem dX7_valueOf_3 : decode cX7_valueOf 3 = .ok (.istore 4, 2) := by decide +kernel
theorem dX7_valueOf_5 : decode cX7_valueOf 5 = .ok (.iload 4, 2) := by decide +kernel
theorem dX7_valueOf_7 : decode cX7_valueOf 7 = .ok (.iconst 4, 1) := by decide +kernel
theorem dX7_valueOf_8 : decode cX7_valueOf 8 = .ok (.if_icmp .ge 42, 3) := by decide +kernel
theorem dX7_valueOf_11 : decode cX7_valueOf 11 = .ok (.iload_n 3, 1) := by decide +kernel
theorem dX7_valueOf_12 : decode cX7_valueOf 12 = .ok (.aload_n 0, 1) := by decide +kernel
theorem dX7_valueOf_13 : decode cX7_valueOf 13 = .ok (.iload_n 1, 1) := by decide +kernel
theorem dX7_valueOf_14 : decode cX7_valueOf 14 = .ok (.iload 4, 2) := by decide +kernel
theorem dX7_valueOf_16 : decode cX7_valueOf 16 = .ok (.invokevirtual 129, 3) := by decide +kernel
theorem dX7_valueOf_19 : decode cX7_valueOf 19 = .ok (.invokestatic 132, 3) := by decide +kernel
theorem dX7_valueOf_22 : decode cX7_valueOf 22 = .ok (.aload_n 0, 1) := by decide +kernel
theorem dX7_valueOf_23 : decode cX7_valueOf 23 = .ok (.getfield 22, 3) := by decide +kernel
theorem dX7_valueOf_26 : decode cX7_valueOf 26 = .ok (.iload 4, 2) := by decide +kernel
theorem dX7_valueOf_28 : decode cX7_valueOf 28 = .ok (.iaload, 1) := by decide +kernel
theorem dX7_valueOf_29 : decode cX7_valueOf 29 = .ok (.imul, 1) := by decide +kernel
theorem dX7_valueOf_30 : decode cX7_valueOf 30 = .ok (.aload_n 0, 1) := by decide +kernel
theorem dX7_valueOf_31 : decode cX7_valueOf 31 = .ok (.getfield 28, 3) := by decide +kernel
theorem dX7_valueOf_34 : decode cX7_valueOf 34 = .ok (.iconst 4, 1) := by decide +kernel
theorem dX7_valueOf_35 : decode cX7_valueOf 35 = .ok (.iload_n 2, 1) := by decide +kernel
theorem dX7_valueOf_36 : decode cX7_valueOf 36 = .ok (.imul, 1) := by decide +kernel
theorem dX7_valueOf_37 : decode cX7_valueOf 37 = .ok (.iload 4, 2) := by decide +kernel
theorem dX7_valueOf_39 : decode cX7_valueOf 39 = .ok (.iadd, 1) := by decide +kernel
theorem dX7_valueOf_40 : decode cX7_valueOf 40 = .ok (.iaload, 1) := by decide +kernel
theorem dX7_valueOf_41 : decode cX7_valueOf 41 = .ok (.imul, 1) := by decide +kernel
theorem dX7_valueOf_42 : decode cX7_valueOf 42 = .ok (.iadd, 1) := by decide +kernel
theorem dX7_valueOf_43 : decode cX7_valueOf 43 = .ok (.istore_n 3, 1) := by decide +kernel
theorem dX7_valueOf_44 : decode cX7_valueOf 44 = .ok (.iinc 4 1, 3) := by decide +kernel
theorem dX7_valueOf_47 : decode cX7_valueOf 47 = .ok (.goto (-42), 3) := by decide +kernel
theorem dX7_valueOf_50 : decode cX7_valueOf 50 = .ok (.iload_n 3, 1) := by decide +kernel
theorem dX7_valueOf_51 : decode cX7_valueOf 51 = .ok (.ireturn, 1) := by decide +kernel
theorem dX7_value_0 : decode cX7_value 0 = .ok (.aload_n 0, 1) := by decide +kernel
theorem dX7_value_1 : decode cX7_value 1 = .ok (.iload_n 1, 1) := by decide +kernel
theorem dX7_value_2 : decode cX7_value 2 = .ok (.invokevirtual 102, 3) := by decide +kernel
theorem dX7_value_5 : decode cX7_value 5 = .ok (.ifCond .eq 19, 3) := by decide +kernel
theorem dX7_value_8 : decode cX7_value 8 = .ok (.iload_n 2, 1) := by decide +kernel
theorem dX7_value_9 : decode cX7_value 9 = .ok (.invokestatic 113, 3) := by decide +kernel
theorem dX7_value_12 : decode cX7_value 12 = .ok (.ifCond .eq 12, 3) := by decide +kernel
theorem dX7_value_15 : decode cX7_value 15 = .ok (.aload_n 0, 1) := by decide +kernel
theorem dX7_value_16 : decode cX7_value 16 = .ok (.iload_n 1, 1) := by decide +kernel
theorem dX7_value_17 : decode cX7_value 17 = .ok (.iload_n 2, 1) := by decide +kernel
theorem dX7_value_18 : decode cX7_value 18 = .ok (.invokevirtual 183, 3) := by decide +kernel
theorem dX7_value_21 : decode cX7_value 21 = .ok (.goto 5, 3) := by decide +kernel
theorem dX7_value_24 : decode cX7_value 24 = .ok (.bipush (-2), 2) := by decide +kernel
theorem dX7_value_26 : decode cX7_value 26 = .ok (.ireturn, 1) := by decide +kernel
theorem dX7_isRather_0 : decode cX7_isRather 0 = .ok (.aload_n 0, 1) := by decide +kernel
theorem dX7_isRather_1 : decode cX7_isRather 1 = .ok (.iload_n 2, 1) := by decide +kernel
theorem dX7_isRather_2 : decode cX7_isRather 2 = .ok (.aload_n 0, 1) := by decide +kernel
theorem dX7_isRather_3 : decode cX7_isRather 3 = .ok (.getfield 19, 3) := by decide +kernel
theorem dX7_isRather_6 : decode cX7_isRather 6 = .ok (.iload_n 1, 1) := by decide +kernel
theorem dX7_isRather_7 : decode cX7_isRather 7 = .ok (.iaload, 1) := by decide +kernel
theorem dX7_isRather_8 : decode cX7_isRather 8 = .ok (.invokevirtual 183, 3) := by decide +kernel
theorem dX7_isRather_11 : decode cX7_isRather 11 = .ok (.aload_n 0, 1) := by decide +kernel
theorem dX7_isRather_12 : decode cX7_isRather 12 = .ok (.iload_n 1, 1) := by decide +kernel
theorem dX7_isRather_13 : decode cX7_isRather 13 = .ok (.aload_n 0, 1) := by decide +kernel
theorem dX7_isRather_14 : decode cX7_isRather 14 = .ok (.getfield 19, 3) := by decide +kernel
theorem dX7_isRather_17 : decode cX7_isRather 17 = .ok (.iload_n 1, 1) := by decide +kernel
theorem dX7_isRather_18 : decode cX7_isRather 18 = .ok (.iaload, 1) := by decide +kernel
theorem dX7_isRather_19 : decode cX7_isRather 19 = .ok (.invokevirtual 183, 3) := by decide +kernel
theorem dX7_isRather_22 : decode cX7_isRather 22 = .ok (.if_icmp .le 7, 3) := by decide +kernel
theorem dX7_isRather_25 : decode cX7_isRather 25 = .ok (.iconst 1, 1) := by decide +kernel
theorem dX7_isRather_26 : decode cX7_isRather 26 = .ok (.goto 4, 3) := by decide +kernel
theorem dX7_isRather_29 : decode cX7_isRather 29 = .ok (.iconst 0, 1) := by decide +kernel
theorem dX7_isRather_30 : decode cX7_isRather 30 = .ok (.ireturn, 1) := by decide +kernel
theorem dX7_isChange_0 : decode cX7_isChange 0 = .ok (.aload_n 0, 1) := by decide +kernel
theorem dX7_isChange_1 : decode cX7_isChange 1 = .ok (.getfield 19, 3) := by decide +kernel
theorem dX7_isChange_4 : decode cX7_isChange 4 = .ok (.iload_n 1, 1) := by decide +kernel
theorem dX7_isChange_5 : decode cX7_isChange 5 = .ok (.iaload, 1) := by decide +kernel
theorem dX7_isChange_6 : decode cX7_isChange 6 = .ok (.aload_n 0, 1) := by decide +kernel
theorem dX7_isChange_7 : decode cX7_isChange 7 = .ok (.getfield 19, 3) := by decide +kernel
theorem dX7_isChange_10 : decode cX7_isChange 10 = .ok (.iload_n 2, 1) := by decide +kernel
theorem dX7_isChange_11 : decode cX7_isChange 11 = .ok (.iaload, 1) := by decide +kernel
theorem dX7_isChange_12 : decode cX7_isChange 12 = .ok (.if_icmp .eq 25, 3) := by decide +kernel
theorem dX7_isChange_15 : decode cX7_isChange 15 = .ok (.aload_n 0, 1) := by decide +kernel
theorem dX7_isChange_16 : decode cX7_isChange 16 = .ok (.iload_n 1, 1) := by decide +kernel
theorem dX7_isChange_17 : decode cX7_isChange 17 = .ok (.iload_n 2, 1) := by decide +kernel
theorem dX7_isChange_18 : decode cX7_isChange 18 = .ok (.invokevirtual 186, 3) := by decide +kernel
theorem dX7_isChange_21 : decode cX7_isChange 21 = .ok (.ifCond .eq 16, 3) := by decide +kernel
theorem dX7_isChange_24 : decode cX7_isChange 24 = .ok (.aload_n 0, 1) := by decide +kernel
theorem dX7_isChange_25 : decode cX7_isChange 25 = .ok (.iload_n 2, 1) := by decide +kernel
theorem dX7_isChange_26 : decode cX7_isChange 26 = .ok (.iload_n 1, 1) := by decide +kernel
theorem dX7_isChange_27 : decode cX7_isChange 27 = .ok (.invokevirtual 186, 3) := by decide +kernel
theorem dX7_isChange_30 : decode cX7_isChange 30 = .ok (.ifCond .eq 7, 3) := by decide +kernel
theorem dX7_isChange_33 : decode cX7_isChange 33 = .ok (.iconst 1, 1) := by decide +kernel
theorem dX7_isChange_34 : decode cX7_isChange 34 = .ok (.goto 4, 3) := by decide +kernel
theorem dX7_isChange_37 : decode cX7_isChange 37 = .ok (.iconst 0, 1) := by decide +kernel
theorem dX7_isChange_38 : decode cX7_isChange 38 = .ok (.ireturn, 1) := by decide +kernel
theorem dX7_change_0 : decode cX7_change 0 = .ok (.aload_n 0, 1) := by decide +kernel
theorem dX7_change_1 : decode cX7_change 1 = .ok (.iload_n 1, 1) := by decide +kernel
theorem dX7_change_2 : decode cX7_change 2 = .ok (.invokevirtual 102, 3) := by decide +kernel
theorem dX7_change_5 : decode cX7_change 5 = .ok (.ifCond .eq 16, 3) := by decide +kernel
theorem dX7_change_8 : decode cX7_change 8 = .ok (.aload_n 0, 1) := by decide +kernel
theorem dX7_change_9 : decode cX7_change 9 = .ok (.iload_n 2, 1) := by decide +kernel
theorem dX7_change_10 : decode cX7_change 10 = .ok (.invokevirtual 102, 3) := by decide +kernel
theorem dX7_change_13 : decode cX7_change 13 = .ok (.ifCond .eq 8, 3) := by decide +kernel
theorem dX7_change_16 : decode cX7_change 16 = .ok (.iload_n 1, 1) := by decide +kernel
theorem dX7_change_17 : decode cX7_change 17 = .ok (.iload_n 2, 1) := by decide +kernel
theorem dX7_change_18 : decode cX7_change 18 = .ok (.if_icmp .ne 8, 3) := by decide +kernel
theorem dX7_change_21 : decode cX7_change 21 = .ok (.bipush (-2), 2) := by decide +kernel
theorem dX7_change_23 : decode cX7_change 23 = .ok (.goto 17, 3) := by decide +kernel
theorem dX7_change_26 : decode cX7_change 26 = .ok (.aload_n 0, 1) := by decide +kernel
theorem dX7_change_27 : decode cX7_change 27 = .ok (.iload_n 1, 1) := by decide +kernel
theorem dX7_change_28 : decode cX7_change 28 = .ok (.iload_n 2, 1) := by decide +kernel
theorem dX7_change_29 : decode cX7_change 29 = .ok (.invokevirtual 189, 3) := by decide +kernel
theorem dX7_change_32 : decode cX7_change 32 = .ok (.ifCond .eq 7, 3) := by decide +kernel
theorem dX7_change_35 : decode cX7_change 35 = .ok (.iconst 1, 1) := by decide +kernel
theorem dX7_change_36 : decode cX7_change 36 = .ok (.goto 4, 3) := by decide +kernel
theorem dX7_change_39 : decode cX7_change 39 = .ok (.iconst 0, 1) := by decide +kernel
theorem dX7_change_40 : decode cX7_change 40 = .ok (.ireturn, 1) := by decide +kernel
theorem dX7_changesOf_0 : decode cX7_changesOf 0 = .ok (.aload_n 0, 1) := by decide +kernel
theorem dX7_changesOf_1 : decode cX7_changesOf 1 = .ok (.invokevirtual 98, 3) := by decide +kernel
theorem dX7_changesOf_4 : decode cX7_changesOf 4 = .ok (.istore_n 2, 1) := by decide +kernel
theorem dX7_changesOf_5 : decode cX7_changesOf 5 = .ok (.iconst 0, 1) := by decide +kernel
theorem dX7_changesOf_6 : decode cX7_changesOf 6 = .ok (.istore_n 3, 1) := by decide +kernel
theorem dX7_changesOf_7 : decode cX7_changesOf 7 = .ok (.iload_n 3, 1) := by decide +kernel
theorem dX7_changesOf_8 : decode cX7_changesOf 8 = .ok (.aload_n 0, 1) := by decide +kernel
theorem dX7_changesOf_9 : decode cX7_changesOf 9 = .ok (.getfield 85, 3) := by decide +kernel
theorem dX7_changesOf_12 : decode cX7_changesOf 12 = .ok (.if_icmp .ge 77, 3) := by decide +kernel
theorem dX7_changesOf_15 : decode cX7_changesOf 15 = .ok (.aload_n 0, 1) := by decide +kernel
theorem dX7_changesOf_16 : decode cX7_changesOf 16 = .ok (.getfield 40, 3) := by decide +kernel
theorem dX7_changesOf_19 : decode cX7_changesOf 19 = .ok (.iload_n 3, 1) := by decide +kernel
theorem dX7_changesOf_20 : decode cX7_changesOf 20 = .ok (.iconst 0, 1) := by decide +kernel
theorem dX7_changesOf_21 : decode cX7_changesOf 21 = .ok (.iastore, 1) := by decide +kernel
theorem dX7_changesOf_22 : decode cX7_changesOf 22 = .ok (.iconst 0, 1) := by decide +kernel
theorem dX7_changesOf_23 : decode cX7_changesOf 23 = .ok (.istore 4, 2) := by decide +kernel
theorem dX7_changesOf_25 : decode cX7_changesOf 25 = .ok (.iload 4, 2) := by decide +kernel
theorem dX7_changesOf_27 : decode cX7_changesOf 27 = .ok (.aload_n 0, 1) := by decide +kernel
theorem dX7_changesOf_28 : decode cX7_changesOf 28 = .ok (.getfield 85, 3) := by decide +kernel
theorem dX7_changesOf_31 : decode cX7_changesOf 31 = .ok (.if_icmp .ge 52, 3) := by decide +kernel
theorem dX7_changesOf_34 : decode cX7_changesOf 34 = .ok (.aload_n 0, 1) := by decide +kernel
theorem dX7_changesOf_35 : decode cX7_changesOf 35 = .ok (.getfield 40, 3) := by decide +kernel
theorem dX7_changesOf_38 : decode cX7_changesOf 38 = .ok (.iload_n 3, 1) := by decide +kernel
theorem dX7_changesOf_39 : decode cX7_changesOf 39 = .ok (.dup2, 1) := by decide +kernel
theorem dX7_changesOf_40 : decode cX7_changesOf 40 = .ok (.iaload, 1) := by decide +kernel
theorem dX7_changesOf_41 : decode cX7_changesOf 41 = .ok (.aload_n 0, 1) := by decide +kernel
theorem dX7_changesOf_42 : decode cX7_changesOf 42 = .ok (.getfield 19, 3) := by decide +kernel
theorem dX7_changesOf_45 : decode cX7_changesOf 45 = .ok (.iload_n 3, 1) := by decide +kernel
theorem dX7_changesOf_46 : decode cX7_changesOf 46 = .ok (.iaload, 1) := by decide +kernel
theorem dX7_changesOf_47 : decode cX7_changesOf 47 = .ok (.aload_n 0, 1) := by decide +kernel
theorem dX7_changesOf_48 : decode cX7_changesOf 48 = .ok (.getfield 19, 3) := by decide +kernel
theorem dX7_changesOf_51 : decode cX7_changesOf 51 = .ok (.iload 4, 2) := by decide +kernel
theorem dX7_changesOf_53 : decode cX7_changesOf 53 = .ok (.iaload, 1) := by decide +kernel
theorem dX7_changesOf_54 : decode cX7_changesOf 54 = .ok (.if_icmp .eq 20, 3) := by decide +kernel
theorem dX7_changesOf_57 : decode cX7_changesOf 57 = .ok (.aload_n 0, 1) := by decide +kernel
theorem dX7_changesOf_58 : decode cX7_changesOf 58 = .ok (.iload_n 3, 1) := by decide +kernel
theorem dX7_changesOf_59 : decode cX7_changesOf 59 = .ok (.iload 4, 2) := by decide +kernel
theorem dX7_changesOf_61 : decode cX7_changesOf 61 = .ok (.invokevirtual 186, 3) := by decide +kernel
theorem dX7_changesOf_64 : decode cX7_changesOf 64 = .ok (.ifCond .eq 10, 3) := by decide +kernel
theorem dX7_changesOf_67 : decode cX7_changesOf 67 = .ok (.iconst 1, 1) := by decide +kernel
theorem dX7_changesOf_68 : decode cX7_changesOf 68 = .ok (.iload 4, 2) := by decide +kernel
theorem dX7_changesOf_70 : decode cX7_changesOf 70 = .ok (.ishl, 1) := by decide +kernel
theorem dX7_changesOf_71 : decode cX7_changesOf 71 = .ok (.goto 4, 3) := by decide +kernel
theorem dX7_changesOf_74 : decode cX7_changesOf 74 = .ok (.iconst 0, 1) := by decide +kernel
theorem dX7_changesOf_75 : decode cX7_changesOf 75 = .ok (.ior, 1) := by decide +kernel
theorem dX7_changesOf_76 : decode cX7_changesOf 76 = .ok (.iastore, 1) := by decide +kernel
theorem dX7_changesOf_77 : decode cX7_changesOf 77 = .ok (.iinc 4 1, 3) := by decide +kernel
theorem dX7_changesOf_80 : decode cX7_changesOf 80 = .ok (.goto (-55), 3) := by decide +kernel
theorem dX7_changesOf_83 : decode cX7_changesOf 83 = .ok (.iinc 3 1, 3) := by decide +kernel
theorem dX7_changesOf_86 : decode cX7_changesOf 86 = .ok (.goto (-79), 3) := by decide +kernel
theorem dX7_changesOf_89 : decode cX7_changesOf 89 = .ok (.iconst 0, 1) := by decide +kernel
theorem dX7_changesOf_90 : decode cX7_changesOf 90 = .ok (.istore_n 3, 1) := by decide +kernel
theorem dX7_changesOf_91 : decode cX7_changesOf 91 = .ok (.iconst 0, 1) := by decide +kernel
theorem dX7_changesOf_92 : decode cX7_changesOf 92 = .ok (.istore 4, 2) := by decide +kernel
theorem dX7_changesOf_94 : decode cX7_changesOf 94 = .ok (.iconst 0, 1) := by decide +kernel
theorem dX7_changesOf_95 : decode cX7_changesOf 95 = .ok (.istore 5, 2) := by decide +kernel
theorem dX7_changesOf_97 : decode cX7_changesOf 97 = .ok (.iload 5, 2) := by decide +kernel
theorem dX7_changesOf_99 : decode cX7_changesOf 99 = .ok (.aload_n 0, 1) := by decide +kernel
theorem dX7_changesOf_100 : decode cX7_changesOf 100 = .ok (.getfield 85, 3) := by decide +kernel
theorem dX7_changesOf_103 : decode cX7_changesOf 103 = .ok (.if_icmp .ge 171, 3) := by decide +kernel
theorem dX7_changesOf_106 : decode cX7_changesOf 106 = .ok (.iconst 0, 1) := by decide +kernel
theorem dX7_changesOf_107 : decode cX7_changesOf 107 = .ok (.istore 6, 2) := by decide +kernel
theorem dX7_changesOf_109 : decode cX7_changesOf 109 = .ok (.iload 6, 2) := by decide +kernel
theorem dX7_changesOf_111 : decode cX7_changesOf 111 = .ok (.aload_n 0, 1) := by decide +kernel
theorem dX7_changesOf_112 : decode cX7_changesOf 112 = .ok (.getfield 85, 3) := by decide +kernel
theorem dX7_changesOf_115 : decode cX7_changesOf 115 = .ok (.if_icmp .ge 153, 3) := by decide +kernel
theorem dX7_changesOf_118 : decode cX7_changesOf 118 = .ok (.iload_n 3, 1) := by decide +kernel
theorem dX7_changesOf_119 : decode cX7_changesOf 119 = .ok (.iload 6, 2) := by decide +kernel
theorem dX7_changesOf_121 : decode cX7_changesOf 121 = .ok (.iload 5, 2) := by decide +kernel
theorem dX7_changesOf_123 : decode cX7_changesOf 123 = .ok (.if_icmp .ge 37, 3) := by decide +kernel
theorem dX7_changesOf_126 : decode cX7_changesOf 126 = .ok (.aload_n 0, 1) := by decide +kernel
theorem dX7_changesOf_127 : decode cX7_changesOf 127 = .ok (.getfield 40, 3) := by decide +kernel
theorem dX7_changesOf_130 : decode cX7_changesOf 130 = .ok (.iload 5, 2) := by decide +kernel
theorem dX7_changesOf_132 : decode cX7_changesOf 132 = .ok (.iaload, 1) := by decide +kernel
theorem dX7_changesOf_133 : decode cX7_changesOf 133 = .ok (.iload 6, 2) := by decide +kernel
theorem dX7_changesOf_135 : decode cX7_changesOf 135 = .ok (.invokestatic 144, 3) := by decide +kernel
theorem dX7_changesOf_138 : decode cX7_changesOf 138 = .ok (.ifCond .eq 22, 3) := by decide +kernel
theorem dX7_changesOf_141 : decode cX7_changesOf 141 = .ok (.aload_n 0, 1) := by decide +kernel
theorem dX7_changesOf_142 : decode cX7_changesOf 142 = .ok (.getfield 40, 3) := by decide +kernel
theorem dX7_changesOf_145 : decode cX7_changesOf 145 = .ok (.iload 6, 2) := by decide +kernel
theorem dX7_changesOf_147 : decode cX7_changesOf 147 = .ok (.iaload, 1) := by decide +kernel
theorem dX7_changesOf_148 : decode cX7_changesOf 148 = .ok (.iload 5, 2) := by decide +kernel
theorem dX7_changesOf_150 : decode cX7_changesOf 150 = .ok (.invokestatic 144, 3) := by decide +kernel
theorem dX7_changesOf_153 : decode cX7_changesOf 153 = .ok (.ifCond .eq 7, 3) := by decide +kernel
theorem dX7_changesOf_156 : decode cX7_changesOf 156 = .ok (.iconst 1, 1) := by decide +kernel
theorem dX7_changesOf_157 : decode cX7_changesOf 157 = .ok (.goto 4, 3) := by decide +kernel
theorem dX7_changesOf_160 : decode cX7_changesOf 160 = .ok (.iconst 0, 1) := by decide +kernel
theorem dX7_changesOf_161 : decode cX7_changesOf 161 = .ok (.iadd, 1) := by decide +kernel
theorem dX7_changesOf_162 : decode cX7_changesOf 162 = .ok (.istore_n 3, 1) := by decide +kernel
theorem dX7_changesOf_163 : decode cX7_changesOf 163 = .ok (.iconst 0, 1) := by decide +kernel
theorem dX7_changesOf_164 : decode cX7_changesOf 164 = .ok (.istore 7, 2) := by decide +kernel
theorem dX7_changesOf_166 : decode cX7_changesOf 166 = .ok (.iload 7, 2) := by decide +kernel
theorem dX7_changesOf_168 : decode cX7_changesOf 168 = .ok (.aload_n 0, 1) := by decide +kernel
theorem dX7_changesOf_169 : decode cX7_changesOf 169 = .ok (.getfield 85, 3) := by decide +kernel
theorem dX7_changesOf_172 : decode cX7_changesOf 172 = .ok (.if_icmp .ge 90, 3) := by decide +kernel
theorem dX7_changesOf_175 : decode cX7_changesOf 175 = .ok (.iload 5, 2) := by decide +kernel
theorem dX7_changesOf_177 : decode cX7_changesOf 177 = .ok (.iload 6, 2) := by decide +kernel
theorem dX7_changesOf_179 : decode cX7_changesOf 179 = .ok (.if_icmp .ge 59, 3) := by decide +kernel
theorem dX7_changesOf_182 : decode cX7_changesOf 182 = .ok (.iload 5, 2) := by decide +kernel
theorem dX7_changesOf_184 : decode cX7_changesOf 184 = .ok (.iload 7, 2) := by decide +kernel
theorem dX7_changesOf_186 : decode cX7_changesOf 186 = .ok (.if_icmp .ge 52, 3) := by decide +kernel
theorem dX7_changesOf_189 : decode cX7_changesOf 189 = .ok (.aload_n 0, 1) := by decide +kernel
theorem dX7_changesOf_190 : decode cX7_changesOf 190 = .ok (.getfield 40, 3) := by decide +kernel
theorem dX7_changesOf_193 : decode cX7_changesOf 193 = .ok (.iload 5, 2) := by decide +kernel
theorem dX7_changesOf_195 : decode cX7_changesOf 195 = .ok (.iaload, 1) := by decide +kernel
theorem dX7_changesOf_196 : decode cX7_changesOf 196 = .ok (.iload 6, 2) := by decide +kernel
theorem dX7_changesOf_198 : decode cX7_changesOf 198 = .ok (.invokestatic 144, 3) := by decide +kernel
theorem dX7_changesOf_201 : decode cX7_changesOf 201 = .ok (.ifCond .eq 37, 3) := by decide +kernel
theorem dX7_changesOf_204 : decode cX7_changesOf 204 = .ok (.aload_n 0, 1) := by decide +kernel
theorem dX7_changesOf_205 : decode cX7_changesOf 205 = .ok (.getfield 40, 3) := by decide +kernel
theorem dX7_changesOf_208 : decode cX7_changesOf 208 = .ok (.iload 6, 2) := by decide +kernel
theorem dX7_changesOf_210 : decode cX7_changesOf 210 = .ok (.iaload, 1) := by decide +kernel
theorem dX7_changesOf_211 : decode cX7_changesOf 211 = .ok (.iload 7, 2) := by decide +kernel
theorem dX7_changesOf_213 : decode cX7_changesOf 213 = .ok (.invokestatic 144, 3) := by decide +kernel
theorem dX7_changesOf_216 : decode cX7_changesOf 216 = .ok (.ifCond .eq 22, 3) := by decide +kernel
theorem dX7_changesOf_219 : decode cX7_changesOf 219 = .ok (.aload_n 0, 1) := by decide +kernel
theorem dX7_changesOf_220 : decode cX7_changesOf 220 = .ok (.getfield 40, 3) := by decide +kernel
theorem dX7_changesOf_223 : decode cX7_changesOf 223 = .ok (.iload 7, 2) := by decide +kernel
theorem dX7_changesOf_225 : decode cX7_changesOf 225 = .ok (.iaload, 1) := by decide +kernel
theorem dX7_changesOf_226 : decode cX7_changesOf 226 = .ok (.iload 5, 2) := by decide +kernel
theorem dX7_changesOf_228 : decode cX7_changesOf 228 = .ok (.invokestatic 144, 3) := by decide +kernel
theorem dX7_changesOf_231 : decode cX7_changesOf 231 = .ok (.ifCond .eq 7, 3) := by decide +kernel
theorem dX7_changesOf_234 : decode cX7_changesOf 234 = .ok (.iconst 1, 1) := by decide +kernel
theorem dX7_changesOf_235 : decode cX7_changesOf 235 = .ok (.goto 4, 3) := by decide +kernel
theorem dX7_changesOf_238 : decode cX7_changesOf 238 = .ok (.iconst 0, 1) := by decide +kernel
theorem dX7_changesOf_239 : decode cX7_changesOf 239 = .ok (.istore 8, 2) := by decide +kernel
theorem dX7_changesOf_241 : decode cX7_changesOf 241 = .ok (.iload 4, 2) := by decide +kernel
theorem dX7_changesOf_243 : decode cX7_changesOf 243 = .ok (.iload 8, 2) := by decide +kernel
theorem dX7_changesOf_245 : decode cX7_changesOf 245 = .ok (.ifCond .eq 7, 3) := by decide +kernel
theorem dX7_changesOf_248 : decode cX7_changesOf 248 = .ok (.iconst 1, 1) := by decide +kernel
theorem dX7_changesOf_249 : decode cX7_changesOf 249 = .ok (.goto 4, 3) := by decide +kernel
theorem dX7_changesOf_252 : decode cX7_changesOf 252 = .ok (.iconst 0, 1) := by decide +kernel
theorem dX7_changesOf_253 : decode cX7_changesOf 253 = .ok (.iadd, 1) := by decide +kernel
theorem dX7_changesOf_254 : decode cX7_changesOf 254 = .ok (.istore 4, 2) := by decide +kernel
theorem dX7_changesOf_256 : decode cX7_changesOf 256 = .ok (.iinc 7 1, 3) := by decide +kernel
theorem dX7_changesOf_259 : decode cX7_changesOf 259 = .ok (.goto (-93), 3) := by decide +kernel
theorem dX7_changesOf_262 : decode cX7_changesOf 262 = .ok (.iinc 6 1, 3) := by decide +kernel
theorem dX7_changesOf_265 : decode cX7_changesOf 265 = .ok (.goto (-156), 3) := by decide +kernel
theorem dX7_changesOf_268 : decode cX7_changesOf 268 = .ok (.iinc 5 1, 3) := by decide +kernel
theorem dX7_changesOf_271 : decode cX7_changesOf 271 = .ok (.goto (-174), 3) := by decide +kernel
theorem dX7_changesOf_274 : decode cX7_changesOf 274 = .ok (.iload_n 1, 1) := by decide +kernel
theorem dX7_changesOf_275 : decode cX7_changesOf 275 = .ok (.ifCond .ne 7, 3) := by decide +kernel
theorem dX7_changesOf_278 : decode cX7_changesOf 278 = .ok (.iload_n 3, 1) := by decide +kernel
theorem dX7_changesOf_279 : decode cX7_changesOf 279 = .ok (.goto 5, 3) := by decide +kernel
theorem dX7_changesOf_282 : decode cX7_changesOf 282 = .ok (.iload 4, 2) := by decide +kernel
theorem dX7_changesOf_284 : decode cX7_changesOf 284 = .ok (.ireturn, 1) := by decide +kernel
theorem dX7_changes_0 : decode cX7_changes 0 = .ok (.iload_n 1, 1) := by decide +kernel
theorem dX7_changes_1 : decode cX7_changes 1 = .ok (.iconst 0, 1) := by decide +kernel
theorem dX7_changes_2 : decode cX7_changes 2 = .ok (.iconst 1, 1) := by decide +kernel
theorem dX7_changes_3 : decode cX7_changes 3 = .ok (.invokestatic 77, 3) := by decide +kernel
theorem dX7_changes_6 : decode cX7_changes 6 = .ok (.ifCond .eq 11, 3) := by decide +kernel
theorem dX7_changes_9 : decode cX7_changes 9 = .ok (.aload_n 0, 1) := by decide +kernel
theorem dX7_changes_10 : decode cX7_changes 10 = .ok (.iload_n 1, 1) := by decide +kernel
theorem dX7_changes_11 : decode cX7_changes 11 = .ok (.invokevirtual 192, 3) := by decide +kernel
theorem dX7_changes_14 : decode cX7_changes 14 = .ok (.goto 5, 3) := by decide +kernel
theorem dX7_changes_17 : decode cX7_changes 17 = .ok (.bipush (-2), 2) := by decide +kernel
theorem dX7_changes_19 : decode cX7_changes 19 = .ok (.ireturn, 1) := by decide +kernel
theorem dX7_sort_0 : decode cX7_sort 0 = .ok (.iload_n 1, 1) := by decide +kernel
theorem dX7_sort_1 : decode cX7_sort 1 = .ok (.iconst 0, 1) := by decide +kernel
theorem dX7_sort_2 : decode cX7_sort 2 = .ok (.iconst 2, 1) := by decide +kernel
theorem dX7_sort_3 : decode cX7_sort 3 = .ok (.invokestatic 77, 3) := by decide +kernel
theorem dX7_sort_6 : decode cX7_sort 6 = .ok (.ifCond .eq 32, 3) := by decide +kernel
theorem dX7_sort_9 : decode cX7_sort 9 = .ok (.iload_n 2, 1) := by decide +kernel
theorem dX7_sort_10 : decode cX7_sort 10 = .ok (.iconst 0, 1) := by decide +kernel
theorem dX7_sort_11 : decode cX7_sort 11 = .ok (.iconst 1, 1) := by decide +kernel
theorem dX7_sort_12 : decode cX7_sort 12 = .ok (.invokestatic 77, 3) := by decide +kernel
theorem dX7_sort_15 : decode cX7_sort 15 = .ok (.ifCond .eq 23, 3) := by decide +kernel
theorem dX7_sort_18 : decode cX7_sort 18 = .ok (.iload_n 3, 1) := by decide +kernel
theorem dX7_sort_19 : decode cX7_sort 19 = .ok (.iconst 0, 1) := by decide +kernel
theorem dX7_sort_20 : decode cX7_sort 20 = .ok (.iload_n 2, 1) := by decide +kernel
theorem dX7_sort_21 : decode cX7_sort 21 = .ok (.ifCond .ne 9, 3) := by decide +kernel
theorem dX7_sort_24 : decode cX7_sort 24 = .ok (.sipush 9999, 3) := by decide +kernel
theorem dX7_sort_27 : decode cX7_sort 27 = .ok (.goto 5, 3) := by decide +kernel
theorem dX7_sort_30 : decode cX7_sort 30 = .ok (.bipush 99, 2) := by decide +kernel
theorem dX7_sort_32 : decode cX7_sort 32 = .ok (.invokestatic 77, 3) := by decide +kernel
theorem dX7_sort_35 : decode cX7_sort 35 = .ok (.ifCond .ne 6, 3) := by decide +kernel
theorem dX7_sort_38 : decode cX7_sort 38 = .ok (.bipush (-2), 2) := by decide +kernel
theorem dX7_sort_40 : decode cX7_sort 40 = .ok (.ireturn, 1) := by decide +kernel
theorem dX7_sort_41 : decode cX7_sort 41 = .ok (.iload_n 2, 1) := by decide +kernel
theorem dX7_sort_42 : decode cX7_sort 42 = .ok (.ifCond .ne 12, 3) := by decide +kernel
theorem dX7_sort_45 : decode cX7_sort 45 = .ok (.aload_n 0, 1) := by decide +kernel
theorem dX7_sort_46 : decode cX7_sort 46 = .ok (.getfield 31, 3) := by decide +kernel
theorem dX7_sort_49 : decode cX7_sort 49 = .ok (.iload_n 1, 1) := by decide +kernel
theorem dX7_sort_50 : decode cX7_sort 50 = .ok (.iaload, 1) := by decide +kernel
theorem dX7_sort_51 : decode cX7_sort 51 = .ok (.goto 9, 3) := by decide +kernel
theorem dX7_sort_54 : decode cX7_sort 54 = .ok (.aload_n 0, 1) := by decide +kernel
theorem dX7_sort_55 : decode cX7_sort 55 = .ok (.getfield 34, 3) := by decide +kernel
theorem dX7_sort_58 : decode cX7_sort 58 = .ok (.iload_n 1, 1) := by decide +kernel
theorem dX7_sort_59 : decode cX7_sort 59 = .ok (.iaload, 1) := by decide +kernel
theorem dX7_sort_60 : decode cX7_sort 60 = .ok (.istore 4, 2) := by decide +kernel
theorem dX7_sort_62 : decode cX7_sort 62 = .ok (.iload_n 2, 1) := by decide +kernel
theorem dX7_sort_63 : decode cX7_sort 63 = .ok (.ifCond .ne 13, 3) := by decide +kernel
theorem dX7_sort_66 : decode cX7_sort 66 = .ok (.aload_n 0, 1) := by decide +kernel
theorem dX7_sort_67 : decode cX7_sort 67 = .ok (.getfield 31, 3) := by decide +kernel
theorem dX7_sort_70 : decode cX7_sort 70 = .ok (.iload_n 1, 1) := by decide +kernel
theorem dX7_sort_71 : decode cX7_sort 71 = .ok (.iload_n 3, 1) := by decide +kernel
theorem dX7_sort_72 : decode cX7_sort 72 = .ok (.iastore, 1) := by decide +kernel
theorem dX7_sort_73 : decode cX7_sort 73 = .ok (.goto 10, 3) := by decide +kernel
theorem dX7_sort_76 : decode cX7_sort 76 = .ok (.aload_n 0, 1) := by decide +kernel
theorem dX7_sort_77 : decode cX7_sort 77 = .ok (.getfield 34, 3) := by decide +kernel
theorem dX7_sort_80 : decode cX7_sort 80 = .ok (.iload_n 1, 1) := by decide +kernel
theorem dX7_sort_81 : decode cX7_sort 81 = .ok (.iload_n 3, 1) := by decide +kernel
theorem dX7_sort_82 : decode cX7_sort 82 = .ok (.iastore, 1) := by decide +kernel
theorem dX7_sort_83 : decode cX7_sort 83 = .ok (.iload 4, 2) := by decide +kernel
theorem dX7_sort_85 : decode cX7_sort 85 = .ok (.ireturn, 1) := by decide +kernel
theorem dX7_fives_0 : decode cX7_fives 0 = .ok (.iload_n 0, 1) := by decide +kernel
theorem dX7_fives_1 : decode cX7_fives 1 = .ok (.ifCond .ne 7, 3) := by decide +kernel
theorem dX7_fives_4 : decode cX7_fives 4 = .ok (.iconst 1, 1) := by decide +kernel
theorem dX7_fives_5 : decode cX7_fives 5 = .ok (.goto 14, 3) := by decide +kernel
theorem dX7_fives_8 : decode cX7_fives 8 = .ok (.iload_n 0, 1) := by decide +kernel
theorem dX7_fives_9 : decode cX7_fives 9 = .ok (.iconst 1, 1) := by decide +kernel
theorem dX7_fives_10 : decode cX7_fives 10 = .ok (.if_icmp .ne 7, 3) := by decide +kernel
theorem dX7_fives_13 : decode cX7_fives 13 = .ok (.iconst 5, 1) := by decide +kernel
theorem dX7_fives_14 : decode cX7_fives 14 = .ok (.goto 5, 3) := by decide +kernel
theorem dX7_fives_17 : decode cX7_fives 17 = .ok (.bipush 25, 2) := by decide +kernel
theorem dX7_fives_19 : decode cX7_fives 19 = .ok (.ireturn, 1) := by decide +kernel
theorem dX7_setOf_0 : decode cX7_setOf 0 = .ok (.aload_n 0, 1) := by decide +kernel
theorem dX7_setOf_1 : decode cX7_setOf 1 = .ok (.invokevirtual 98, 3) := by decide +kernel
theorem dX7_setOf_4 : decode cX7_setOf 4 = .ok (.istore_n 2, 1) := by decide +kernel
theorem dX7_setOf_5 : decode cX7_setOf 5 = .ok (.aload_n 0, 1) := by decide +kernel
theorem dX7_setOf_6 : decode cX7_setOf 6 = .ok (.invokevirtual 157, 3) := by decide +kernel
theorem dX7_setOf_9 : decode cX7_setOf 9 = .ok (.iconst 0, 1) := by decide +kernel
theorem dX7_setOf_10 : decode cX7_setOf 10 = .ok (.istore_n 3, 1) := by decide +kernel
theorem dX7_setOf_11 : decode cX7_setOf 11 = .ok (.iload_n 3, 1) := by decide +kernel
theorem dX7_setOf_12 : decode cX7_setOf 12 = .ok (.bipush 125, 2) := by decide +kernel
theorem dX7_setOf_14 : decode cX7_setOf 14 = .ok (.if_icmp .ge 24, 3) := by decide +kernel
theorem dX7_setOf_17 : decode cX7_setOf 17 = .ok (.aload_n 0, 1) := by decide +kernel
theorem dX7_setOf_18 : decode cX7_setOf 18 = .ok (.getfield 43, 3) := by decide +kernel
theorem dX7_setOf_21 : decode cX7_setOf 21 = .ok (.bipush 125, 2) := by decide +kernel
theorem dX7_setOf_23 : decode cX7_setOf 23 = .ok (.aload_n 0, 1) := by decide +kernel
theorem dX7_setOf_24 : decode cX7_setOf 24 = .ok (.getfield 85, 3) := by decide +kernel
theorem dX7_setOf_27 : decode cX7_setOf 27 = .ok (.imul, 1) := by decide +kernel
theorem dX7_setOf_28 : decode cX7_setOf 28 = .ok (.iload_n 3, 1) := by decide +kernel
theorem dX7_setOf_29 : decode cX7_setOf 29 = .ok (.iadd, 1) := by decide +kernel
theorem dX7_setOf_30 : decode cX7_setOf 30 = .ok (.iconst 0, 1) := by decide +kernel
theorem dX7_setOf_31 : decode cX7_setOf 31 = .ok (.iastore, 1) := by decide +kernel
theorem dX7_setOf_32 : decode cX7_setOf 32 = .ok (.iinc 3 1, 3) := by decide +kernel
theorem dX7_setOf_35 : decode cX7_setOf 35 = .ok (.goto (-24), 3) := by decide +kernel
theorem dX7_setOf_38 : decode cX7_setOf 38 = .ok (.aload_n 0, 1) := by decide +kernel
theorem dX7_setOf_39 : decode cX7_setOf 39 = .ok (.getfield 85, 3) := by decide +kernel
theorem dX7_setOf_42 : decode cX7_setOf 42 = .ok (.iconst 1, 1) := by decide +kernel
theorem dX7_setOf_43 : decode cX7_setOf 43 = .ok (.isub, 1) := by decide +kernel
theorem dX7_setOf_44 : decode cX7_setOf 44 = .ok (.istore_n 3, 1) := by decide +kernel
theorem dX7_setOf_45 : decode cX7_setOf 45 = .ok (.iload_n 3, 1) := by decide +kernel
theorem dX7_setOf_46 : decode cX7_setOf 46 = .ok (.ifCond .lt 172, 3) := by decide +kernel
theorem dX7_setOf_49 : decode cX7_setOf 49 = .ok (.iconst 0, 1) := by decide +kernel
theorem dX7_setOf_50 : decode cX7_setOf 50 = .ok (.istore 4, 2) := by decide +kernel
theorem dX7_setOf_52 : decode cX7_setOf 52 = .ok (.iload 4, 2) := by decide +kernel
theorem dX7_setOf_54 : decode cX7_setOf 54 = .ok (.bipush 125, 2) := by decide +kernel
theorem dX7_setOf_56 : decode cX7_setOf 56 = .ok (.if_icmp .ge 156, 3) := by decide +kernel
theorem dX7_setOf_59 : decode cX7_setOf 59 = .ok (.aload_n 0, 1) := by decide +kernel
theorem dX7_setOf_60 : decode cX7_setOf 60 = .ok (.getfield 43, 3) := by decide +kernel
theorem dX7_setOf_63 : decode cX7_setOf 63 = .ok (.bipush 125, 2) := by decide +kernel
theorem dX7_setOf_65 : decode cX7_setOf 65 = .ok (.iload_n 3, 1) := by decide +kernel
theorem dX7_setOf_66 : decode cX7_setOf 66 = .ok (.imul, 1) := by decide +kernel
theorem dX7_setOf_67 : decode cX7_setOf 67 = .ok (.iload 4, 2) := by decide +kernel
theorem dX7_setOf_69 : decode cX7_setOf 69 = .ok (.iadd, 1) := by decide +kernel
theorem dX7_setOf_70 : decode cX7_setOf 70 = .ok (.aload_n 0, 1) := by decide +kernel
theorem dX7_setOf_71 : decode cX7_setOf 71 = .ok (.getfield 43, 3) := by decide +kernel
theorem dX7_setOf_74 : decode cX7_setOf 74 = .ok (.bipush 125, 2) := by decide +kernel
theorem dX7_setOf_76 : decode cX7_setOf 76 = .ok (.iload_n 3, 1) := by decide +kernel
theorem dX7_setOf_77 : decode cX7_setOf 77 = .ok (.iconst 1, 1) := by decide +kernel
theorem dX7_setOf_78 : decode cX7_setOf 78 = .ok (.iadd, 1) := by decide +kernel
theorem dX7_setOf_79 : decode cX7_setOf 79 = .ok (.imul, 1) := by decide +kernel
theorem dX7_setOf_80 : decode cX7_setOf 80 = .ok (.iload 4, 2) := by decide +kernel
theorem dX7_setOf_82 : decode cX7_setOf 82 = .ok (.iadd, 1) := by decide +kernel
theorem dX7_setOf_83 : decode cX7_setOf 83 = .ok (.iaload, 1) := by decide +kernel
theorem dX7_setOf_84 : decode cX7_setOf 84 = .ok (.iastore, 1) := by decide +kernel
theorem dX7_setOf_85 : decode cX7_setOf 85 = .ok (.iconst 0, 1) := by decide +kernel
theorem dX7_setOf_86 : decode cX7_setOf 86 = .ok (.istore 5, 2) := by decide +kernel
theorem dX7_setOf_88 : decode cX7_setOf 88 = .ok (.iload 5, 2) := by decide +kernel
theorem dX7_setOf_90 : decode cX7_setOf 90 = .ok (.iconst 3, 1) := by decide +kernel
theorem dX7_setOf_91 : decode cX7_setOf 91 = .ok (.if_icmp .ge 115, 3) := by decide +kernel
theorem dX7_setOf_94 : decode cX7_setOf 94 = .ok (.aload_n 0, 1) := by decide +kernel
theorem dX7_setOf_95 : decode cX7_setOf 95 = .ok (.getfield 37, 3) := by decide +kernel
theorem dX7_setOf_98 : decode cX7_setOf 98 = .ok (.iload_n 3, 1) := by decide +kernel
theorem dX7_setOf_99 : decode cX7_setOf 99 = .ok (.iaload, 1) := by decide +kernel
theorem dX7_setOf_100 : decode cX7_setOf 100 = .ok (.aload_n 0, 1) := by decide +kernel
theorem dX7_setOf_101 : decode cX7_setOf 101 = .ok (.getfield 31, 3) := by decide +kernel
theorem dX7_setOf_104 : decode cX7_setOf 104 = .ok (.iload 5, 2) := by decide +kernel
theorem dX7_setOf_106 : decode cX7_setOf 106 = .ok (.iaload, 1) := by decide +kernel
theorem dX7_setOf_107 : decode cX7_setOf 107 = .ok (.if_icmp .lt 93, 3) := by decide +kernel
theorem dX7_setOf_110 : decode cX7_setOf 110 = .ok (.iload 4, 2) := by decide +kernel
theorem dX7_setOf_112 : decode cX7_setOf 112 = .ok (.iload 5, 2) := by decide +kernel
theorem dX7_setOf_114 : decode cX7_setOf 114 = .ok (.invokestatic 195, 3) := by decide +kernel
theorem dX7_setOf_117 : decode cX7_setOf 117 = .ok (.idiv, 1) := by decide +kernel
theorem dX7_setOf_118 : decode cX7_setOf 118 = .ok (.iconst 5, 1) := by decide +kernel
theorem dX7_setOf_119 : decode cX7_setOf 119 = .ok (.irem, 1) := by decide +kernel
theorem dX7_setOf_120 : decode cX7_setOf 120 = .ok (.iconst 4, 1) := by decide +kernel
theorem dX7_setOf_121 : decode cX7_setOf 121 = .ok (.if_icmp .ge 79, 3) := by decide +kernel
theorem dX7_setOf_124 : decode cX7_setOf 124 = .ok (.aload_n 0, 1) := by decide +kernel
theorem dX7_setOf_125 : decode cX7_setOf 125 = .ok (.getfield 34, 3) := by decide +kernel
theorem dX7_setOf_128 : decode cX7_setOf 128 = .ok (.iload 5, 2) := by decide +kernel
theorem dX7_setOf_130 : decode cX7_setOf 130 = .ok (.iaload, 1) := by decide +kernel
theorem dX7_setOf_131 : decode cX7_setOf 131 = .ok (.aload_n 0, 1) := by decide +kernel
theorem dX7_setOf_132 : decode cX7_setOf 132 = .ok (.getfield 43, 3) := by decide +kernel
theorem dX7_setOf_135 : decode cX7_setOf 135 = .ok (.bipush 125, 2) := by decide +kernel
theorem dX7_setOf_137 : decode cX7_setOf 137 = .ok (.iload_n 3, 1) := by decide +kernel
theorem dX7_setOf_138 : decode cX7_setOf 138 = .ok (.iconst 1, 1) := by decide +kernel
theorem dX7_setOf_139 : decode cX7_setOf 139 = .ok (.iadd, 1) := by decide +kernel
theorem dX7_setOf_140 : decode cX7_setOf 140 = .ok (.imul, 1) := by decide +kernel
theorem dX7_setOf_141 : decode cX7_setOf 141 = .ok (.iload 4, 2) := by decide +kernel
theorem dX7_setOf_143 : decode cX7_setOf 143 = .ok (.iadd, 1) := by decide +kernel
theorem dX7_setOf_144 : decode cX7_setOf 144 = .ok (.iload 5, 2) := by decide +kernel
theorem dX7_setOf_146 : decode cX7_setOf 146 = .ok (.invokestatic 195, 3) := by decide +kernel
theorem dX7_setOf_149 : decode cX7_setOf 149 = .ok (.iadd, 1) := by decide +kernel
theorem dX7_setOf_150 : decode cX7_setOf 150 = .ok (.iaload, 1) := by decide +kernel
theorem dX7_setOf_151 : decode cX7_setOf 151 = .ok (.iadd, 1) := by decide +kernel
theorem dX7_setOf_152 : decode cX7_setOf 152 = .ok (.istore 6, 2) := by decide +kernel
theorem dX7_setOf_154 : decode cX7_setOf 154 = .ok (.aload_n 0, 1) := by decide +kernel
theorem dX7_setOf_155 : decode cX7_setOf 155 = .ok (.getfield 43, 3) := by decide +kernel
theorem dX7_setOf_158 : decode cX7_setOf 158 = .ok (.bipush 125, 2) := by decide +kernel
theorem dX7_setOf_160 : decode cX7_setOf 160 = .ok (.iload_n 3, 1) := by decide +kernel
theorem dX7_setOf_161 : decode cX7_setOf 161 = .ok (.imul, 1) := by decide +kernel
theorem dX7_setOf_162 : decode cX7_setOf 162 = .ok (.iload 4, 2) := by decide +kernel
theorem dX7_setOf_164 : decode cX7_setOf 164 = .ok (.iadd, 1) := by decide +kernel
theorem dX7_setOf_165 : decode cX7_setOf 165 = .ok (.iload 6, 2) := by decide +kernel
theorem dX7_setOf_167 : decode cX7_setOf 167 = .ok (.aload_n 0, 1) := by decide +kernel
theorem dX7_setOf_168 : decode cX7_setOf 168 = .ok (.getfield 43, 3) := by decide +kernel
theorem dX7_setOf_171 : decode cX7_setOf 171 = .ok (.bipush 125, 2) := by decide +kernel
theorem dX7_setOf_173 : decode cX7_setOf 173 = .ok (.iload_n 3, 1) := by decide +kernel
theorem dX7_setOf_174 : decode cX7_setOf 174 = .ok (.imul, 1) := by decide +kernel
theorem dX7_setOf_175 : decode cX7_setOf 175 = .ok (.iload 4, 2) := by decide +kernel
theorem dX7_setOf_177 : decode cX7_setOf 177 = .ok (.iadd, 1) := by decide +kernel
theorem dX7_setOf_178 : decode cX7_setOf 178 = .ok (.iaload, 1) := by decide +kernel
theorem dX7_setOf_179 : decode cX7_setOf 179 = .ok (.if_icmp .le 8, 3) := by decide +kernel
theorem dX7_setOf_182 : decode cX7_setOf 182 = .ok (.iload 6, 2) := by decide +kernel
theorem dX7_setOf_184 : decode cX7_setOf 184 = .ok (.goto 15, 3) := by decide +kernel
theorem dX7_setOf_187 : decode cX7_setOf 187 = .ok (.aload_n 0, 1) := by decide +kernel
theorem dX7_setOf_188 : decode cX7_setOf 188 = .ok (.getfield 43, 3) := by decide +kernel
theorem dX7_setOf_191 : decode cX7_setOf 191 = .ok (.bipush 125, 2) := by decide +kernel
theorem dX7_setOf_193 : decode cX7_setOf 193 = .ok (.iload_n 3, 1) := by decide +kernel
theorem dX7_setOf_194 : decode cX7_setOf 194 = .ok (.imul, 1) := by decide +kernel
theorem dX7_setOf_195 : decode cX7_setOf 195 = .ok (.iload 4, 2) := by decide +kernel
theorem dX7_setOf_197 : decode cX7_setOf 197 = .ok (.iadd, 1) := by decide +kernel
theorem dX7_setOf_198 : decode cX7_setOf 198 = .ok (.iaload, 1) := by decide +kernel
theorem dX7_setOf_199 : decode cX7_setOf 199 = .ok (.iastore, 1) := by decide +kernel
theorem dX7_setOf_200 : decode cX7_setOf 200 = .ok (.iinc 5 1, 3) := by decide +kernel
theorem dX7_setOf_203 : decode cX7_setOf 203 = .ok (.goto (-115), 3) := by decide +kernel
theorem dX7_setOf_206 : decode cX7_setOf 206 = .ok (.iinc 4 1, 3) := by decide +kernel
theorem dX7_setOf_209 : decode cX7_setOf 209 = .ok (.goto (-157), 3) := by decide +kernel
theorem dX7_setOf_212 : decode cX7_setOf 212 = .ok (.iinc 3 (-1), 3) := by decide +kernel
theorem dX7_setOf_215 : decode cX7_setOf 215 = .ok (.goto (-170), 3) := by decide +kernel
theorem dX7_setOf_218 : decode cX7_setOf 218 = .ok (.iconst 0, 1) := by decide +kernel
theorem dX7_setOf_219 : decode cX7_setOf 219 = .ok (.istore_n 3, 1) := by decide +kernel
theorem dX7_setOf_220 : decode cX7_setOf 220 = .ok (.iconst 0, 1) := by decide +kernel
theorem dX7_setOf_221 : decode cX7_setOf 221 = .ok (.istore 4, 2) := by decide +kernel
theorem dX7_setOf_223 : decode cX7_setOf 223 = .ok (.iload 4, 2) := by decide +kernel
theorem dX7_setOf_225 : decode cX7_setOf 225 = .ok (.aload_n 0, 1) := by decide +kernel
theorem dX7_setOf_226 : decode cX7_setOf 226 = .ok (.getfield 85, 3) := by decide +kernel
theorem dX7_setOf_229 : decode cX7_setOf 229 = .ok (.if_icmp .ge 186, 3) := by decide +kernel
theorem dX7_setOf_232 : decode cX7_setOf 232 = .ok (.aload_n 0, 1) := by decide +kernel
theorem dX7_setOf_233 : decode cX7_setOf 233 = .ok (.getfield 46, 3) := by decide +kernel
theorem dX7_setOf_236 : decode cX7_setOf 236 = .ok (.iload 4, 2) := by decide +kernel
theorem dX7_setOf_238 : decode cX7_setOf 238 = .ok (.aload_n 0, 1) := by decide +kernel
theorem dX7_setOf_239 : decode cX7_setOf 239 = .ok (.getfield 43, 3) := by decide +kernel
theorem dX7_setOf_242 : decode cX7_setOf 242 = .ok (.bipush 125, 2) := by decide +kernel
theorem dX7_setOf_244 : decode cX7_setOf 244 = .ok (.iload 4, 2) := by decide +kernel
theorem dX7_setOf_246 : decode cX7_setOf 246 = .ok (.iconst 1, 1) := by decide +kernel
theorem dX7_setOf_247 : decode cX7_setOf 247 = .ok (.iadd, 1) := by decide +kernel
theorem dX7_setOf_248 : decode cX7_setOf 248 = .ok (.imul, 1) := by decide +kernel
theorem dX7_setOf_249 : decode cX7_setOf 249 = .ok (.iload_n 3, 1) := by decide +kernel
theorem dX7_setOf_250 : decode cX7_setOf 250 = .ok (.iadd, 1) := by decide +kernel
theorem dX7_setOf_251 : decode cX7_setOf 251 = .ok (.iaload, 1) := by decide +kernel
theorem dX7_setOf_252 : decode cX7_setOf 252 = .ok (.aload_n 0, 1) := by decide +kernel
theorem dX7_setOf_253 : decode cX7_setOf 253 = .ok (.getfield 43, 3) := by decide +kernel
theorem dX7_setOf_256 : decode cX7_setOf 256 = .ok (.bipush 125, 2) := by decide +kernel
theorem dX7_setOf_258 : decode cX7_setOf 258 = .ok (.iload 4, 2) := by decide +kernel
theorem dX7_setOf_260 : decode cX7_setOf 260 = .ok (.imul, 1) := by decide +kernel
theorem dX7_setOf_261 : decode cX7_setOf 261 = .ok (.iload_n 3, 1) := by decide +kernel
theorem dX7_setOf_262 : decode cX7_setOf 262 = .ok (.iadd, 1) := by decide +kernel
theorem dX7_setOf_263 : decode cX7_setOf 263 = .ok (.iaload, 1) := by decide +kernel
theorem dX7_setOf_264 : decode cX7_setOf 264 = .ok (.if_icmp .ne 7, 3) := by decide +kernel
theorem dX7_setOf_267 : decode cX7_setOf 267 = .ok (.iconst (-1), 1) := by decide +kernel
theorem dX7_setOf_268 : decode cX7_setOf 268 = .ok (.goto 4, 3) := by decide +kernel
theorem dX7_setOf_271 : decode cX7_setOf 271 = .ok (.iconst 3, 1) := by decide +kernel
theorem dX7_setOf_272 : decode cX7_setOf 272 = .ok (.iastore, 1) := by decide +kernel
theorem dX7_setOf_273 : decode cX7_setOf 273 = .ok (.iconst 0, 1) := by decide +kernel
theorem dX7_setOf_274 : decode cX7_setOf 274 = .ok (.istore 5, 2) := by decide +kernel
theorem dX7_setOf_276 : decode cX7_setOf 276 = .ok (.iload 5, 2) := by decide +kernel
theorem dX7_setOf_278 : decode cX7_setOf 278 = .ok (.iconst 3, 1) := by decide +kernel
theorem dX7_setOf_279 : decode cX7_setOf 279 = .ok (.if_icmp .ge 102, 3) := by decide +kernel
theorem dX7_setOf_282 : decode cX7_setOf 282 = .ok (.aload_n 0, 1) := by decide +kernel
theorem dX7_setOf_283 : decode cX7_setOf 283 = .ok (.getfield 46, 3) := by decide +kernel
theorem dX7_setOf_286 : decode cX7_setOf 286 = .ok (.iload 4, 2) := by decide +kernel
theorem dX7_setOf_288 : decode cX7_setOf 288 = .ok (.iaload, 1) := by decide +kernel
theorem dX7_setOf_289 : decode cX7_setOf 289 = .ok (.iconst 3, 1) := by decide +kernel
theorem dX7_setOf_290 : decode cX7_setOf 290 = .ok (.if_icmp .ne 91, 3) := by decide +kernel
theorem dX7_setOf_293 : decode cX7_setOf 293 = .ok (.aload_n 0, 1) := by decide +kernel
theorem dX7_setOf_294 : decode cX7_setOf 294 = .ok (.getfield 37, 3) := by decide +kernel
theorem dX7_setOf_297 : decode cX7_setOf 297 = .ok (.iload 4, 2) := by decide +kernel
theorem dX7_setOf_299 : decode cX7_setOf 299 = .ok (.iaload, 1) := by decide +kernel
theorem dX7_setOf_300 : decode cX7_setOf 300 = .ok (.aload_n 0, 1) := by decide +kernel
theorem dX7_setOf_301 : decode cX7_setOf 301 = .ok (.getfield 31, 3) := by decide +kernel
theorem dX7_setOf_304 : decode cX7_setOf 304 = .ok (.iload 5, 2) := by decide +kernel
theorem dX7_setOf_306 : decode cX7_setOf 306 = .ok (.iaload, 1) := by decide +kernel
theorem dX7_setOf_307 : decode cX7_setOf 307 = .ok (.if_icmp .lt 68, 3) := by decide +kernel
theorem dX7_setOf_310 : decode cX7_setOf 310 = .ok (.iload_n 3, 1) := by decide +kernel
theorem dX7_setOf_311 : decode cX7_setOf 311 = .ok (.iload 5, 2) := by decide +kernel
theorem dX7_setOf_313 : decode cX7_setOf 313 = .ok (.invokestatic 195, 3) := by decide +kernel
theorem dX7_setOf_316 : decode cX7_setOf 316 = .ok (.idiv, 1) := by decide +kernel
theorem dX7_setOf_317 : decode cX7_setOf 317 = .ok (.iconst 5, 1) := by decide +kernel
theorem dX7_setOf_318 : decode cX7_setOf 318 = .ok (.irem, 1) := by decide +kernel
theorem dX7_setOf_319 : decode cX7_setOf 319 = .ok (.iconst 4, 1) := by decide +kernel
theorem dX7_setOf_320 : decode cX7_setOf 320 = .ok (.if_icmp .ge 55, 3) := by decide +kernel
theorem dX7_setOf_323 : decode cX7_setOf 323 = .ok (.aload_n 0, 1) := by decide +kernel
theorem dX7_setOf_324 : decode cX7_setOf 324 = .ok (.getfield 34, 3) := by decide +kernel
theorem dX7_setOf_327 : decode cX7_setOf 327 = .ok (.iload 5, 2) := by decide +kernel
theorem dX7_setOf_329 : decode cX7_setOf 329 = .ok (.iaload, 1) := by decide +kernel
theorem dX7_setOf_330 : decode cX7_setOf 330 = .ok (.aload_n 0, 1) := by decide +kernel
theorem dX7_setOf_331 : decode cX7_setOf 331 = .ok (.getfield 43, 3) := by decide +kernel
theorem dX7_setOf_334 : decode cX7_setOf 334 = .ok (.bipush 125, 2) := by decide +kernel
theorem dX7_setOf_336 : decode cX7_setOf 336 = .ok (.iload 4, 2) := by decide +kernel
theorem dX7_setOf_338 : decode cX7_setOf 338 = .ok (.iconst 1, 1) := by decide +kernel
theorem dX7_setOf_339 : decode cX7_setOf 339 = .ok (.iadd, 1) := by decide +kernel
theorem dX7_setOf_340 : decode cX7_setOf 340 = .ok (.imul, 1) := by decide +kernel
theorem dX7_setOf_341 : decode cX7_setOf 341 = .ok (.iload_n 3, 1) := by decide +kernel
theorem dX7_setOf_342 : decode cX7_setOf 342 = .ok (.iadd, 1) := by decide +kernel
theorem dX7_setOf_343 : decode cX7_setOf 343 = .ok (.iload 5, 2) := by decide +kernel
theorem dX7_setOf_345 : decode cX7_setOf 345 = .ok (.invokestatic 195, 3) := by decide +kernel
theorem dX7_setOf_348 : decode cX7_setOf 348 = .ok (.iadd, 1) := by decide +kernel
theorem dX7_setOf_349 : decode cX7_setOf 349 = .ok (.iaload, 1) := by decide +kernel
theorem dX7_setOf_350 : decode cX7_setOf 350 = .ok (.iadd, 1) := by decide +kernel
theorem dX7_setOf_351 : decode cX7_setOf 351 = .ok (.aload_n 0, 1) := by decide +kernel
theorem dX7_setOf_352 : decode cX7_setOf 352 = .ok (.getfield 43, 3) := by decide +kernel
theorem dX7_setOf_355 : decode cX7_setOf 355 = .ok (.bipush 125, 2) := by decide +kernel
theorem dX7_setOf_357 : decode cX7_setOf 357 = .ok (.iload 4, 2) := by decide +kernel
theorem dX7_setOf_359 : decode cX7_setOf 359 = .ok (.imul, 1) := by decide +kernel
theorem dX7_setOf_360 : decode cX7_setOf 360 = .ok (.iload_n 3, 1) := by decide +kernel
theorem dX7_setOf_361 : decode cX7_setOf 361 = .ok (.iadd, 1) := by decide +kernel
theorem dX7_setOf_362 : decode cX7_setOf 362 = .ok (.iaload, 1) := by decide +kernel
theorem dX7_setOf_363 : decode cX7_setOf 363 = .ok (.if_icmp .ne 12, 3) := by decide +kernel
theorem dX7_setOf_366 : decode cX7_setOf 366 = .ok (.aload_n 0, 1) := by decide +kernel
theorem dX7_setOf_367 : decode cX7_setOf 367 = .ok (.getfield 46, 3) := by decide +kernel
theorem dX7_setOf_370 : decode cX7_setOf 370 = .ok (.iload 4, 2) := by decide +kernel
theorem dX7_setOf_372 : decode cX7_setOf 372 = .ok (.iload 5, 2) := by decide +kernel
theorem dX7_setOf_374 : decode cX7_setOf 374 = .ok (.iastore, 1) := by decide +kernel
theorem dX7_setOf_375 : decode cX7_setOf 375 = .ok (.iinc 5 1, 3) := by decide +kernel
theorem dX7_setOf_378 : decode cX7_setOf 378 = .ok (.goto (-102), 3) := by decide +kernel
theorem dX7_setOf_381 : decode cX7_setOf 381 = .ok (.iload_n 3, 1) := by decide +kernel
theorem dX7_setOf_382 : decode cX7_setOf 382 = .ok (.aload_n 0, 1) := by decide +kernel
theorem dX7_setOf_383 : decode cX7_setOf 383 = .ok (.getfield 46, 3) := by decide +kernel
theorem dX7_setOf_386 : decode cX7_setOf 386 = .ok (.iload 4, 2) := by decide +kernel
theorem dX7_setOf_388 : decode cX7_setOf 388 = .ok (.iaload, 1) := by decide +kernel
theorem dX7_setOf_389 : decode cX7_setOf 389 = .ok (.iconst (-1), 1) := by decide +kernel
theorem dX7_setOf_390 : decode cX7_setOf 390 = .ok (.if_icmp .ne 7, 3) := by decide +kernel
theorem dX7_setOf_393 : decode cX7_setOf 393 = .ok (.iconst 0, 1) := by decide +kernel
theorem dX7_setOf_394 : decode cX7_setOf 394 = .ok (.goto 13, 3) := by decide +kernel
theorem dX7_setOf_397 : decode cX7_setOf 397 = .ok (.aload_n 0, 1) := by decide +kernel
theorem dX7_setOf_398 : decode cX7_setOf 398 = .ok (.getfield 46, 3) := by decide +kernel
theorem dX7_setOf_401 : decode cX7_setOf 401 = .ok (.iload 4, 2) := by decide +kernel
theorem dX7_setOf_403 : decode cX7_setOf 403 = .ok (.iaload, 1) := by decide +kernel
theorem dX7_setOf_404 : decode cX7_setOf 404 = .ok (.invokestatic 195, 3) := by decide +kernel
theorem dX7_setOf_407 : decode cX7_setOf 407 = .ok (.iadd, 1) := by decide +kernel
theorem dX7_setOf_408 : decode cX7_setOf 408 = .ok (.istore_n 3, 1) := by decide +kernel
theorem dX7_setOf_409 : decode cX7_setOf 409 = .ok (.iinc 4 1, 3) := by decide +kernel
theorem dX7_setOf_412 : decode cX7_setOf 412 = .ok (.goto (-189), 3) := by decide +kernel
theorem dX7_setOf_415 : decode cX7_setOf 415 = .ok (.iload_n 1, 1) := by decide +kernel
theorem dX7_setOf_416 : decode cX7_setOf 416 = .ok (.iconst (-1), 1) := by decide +kernel
theorem dX7_setOf_417 : decode cX7_setOf 417 = .ok (.if_icmp .ne 12, 3) := by decide +kernel
theorem dX7_setOf_420 : decode cX7_setOf 420 = .ok (.aload_n 0, 1) := by decide +kernel
theorem dX7_setOf_421 : decode cX7_setOf 421 = .ok (.getfield 43, 3) := by decide +kernel
theorem dX7_setOf_424 : decode cX7_setOf 424 = .ok (.iconst 0, 1) := by decide +kernel
theorem dX7_setOf_425 : decode cX7_setOf 425 = .ok (.iaload, 1) := by decide +kernel
theorem dX7_setOf_426 : decode cX7_setOf 426 = .ok (.goto 9, 3) := by decide +kernel
theorem dX7_setOf_429 : decode cX7_setOf 429 = .ok (.aload_n 0, 1) := by decide +kernel
theorem dX7_setOf_430 : decode cX7_setOf 430 = .ok (.getfield 46, 3) := by decide +kernel
theorem dX7_setOf_433 : decode cX7_setOf 433 = .ok (.iload_n 1, 1) := by decide +kernel
theorem dX7_setOf_434 : decode cX7_setOf 434 = .ok (.iaload, 1) := by decide +kernel
theorem dX7_setOf_435 : decode cX7_setOf 435 = .ok (.ireturn, 1) := by decide +kernel
theorem dX7_set_0 : decode cX7_set 0 = .ok (.iload_n 1, 1) := by decide +kernel
theorem dX7_set_1 : decode cX7_set 1 = .ok (.iconst (-1), 1) := by decide +kernel
theorem dX7_set_2 : decode cX7_set 2 = .ok (.if_icmp .eq 11, 3) := by decide +kernel
theorem dX7_set_5 : decode cX7_set 5 = .ok (.aload_n 0, 1) := by decide +kernel
theorem dX7_set_6 : decode cX7_set 6 = .ok (.iload_n 1, 1) := by decide +kernel
theorem dX7_set_7 : decode cX7_set 7 = .ok (.invokevirtual 102, 3) := by decide +kernel
theorem dX7_set_10 : decode cX7_set 10 = .ok (.ifCond .eq 11, 3) := by decide +kernel
theorem dX7_set_13 : decode cX7_set 13 = .ok (.aload_n 0, 1) := by decide +kernel
theorem dX7_set_14 : decode cX7_set 14 = .ok (.iload_n 1, 1) := by decide +kernel
theorem dX7_set_15 : decode cX7_set 15 = .ok (.invokevirtual 198, 3) := by decide +kernel
theorem dX7_set_18 : decode cX7_set 18 = .ok (.goto 5, 3) := by decide +kernel
theorem dX7_set_21 : decode cX7_set 21 = .ok (.bipush (-2), 2) := by decide +kernel
theorem dX7_set_23 : decode cX7_set 23 = .ok (.ireturn, 1) := by decide +kernel
theorem dX7_seen_0 : decode cX7_seen 0 = .ok (.iload_n 1, 1) := by decide +kernel
theorem dX7_seen_1 : decode cX7_seen 1 = .ok (.invokestatic 113, 3) := by decide +kernel
theorem dX7_seen_4 : decode cX7_seen 4 = .ok (.ifCond .eq 10, 3) := by decide +kernel
theorem dX7_seen_7 : decode cX7_seen 7 = .ok (.iload_n 2, 1) := by decide +kernel
theorem dX7_seen_8 : decode cX7_seen 8 = .ok (.invokestatic 110, 3) := by decide +kernel
theorem dX7_seen_11 : decode cX7_seen 11 = .ok (.ifCond .ne 6, 3) := by decide +kernel
theorem dX7_seen_14 : decode cX7_seen 14 = .ok (.bipush (-2), 2) := by decide +kernel
theorem dX7_seen_16 : decode cX7_seen 16 = .ok (.ireturn, 1) := by decide +kernel
theorem dX7_seen_17 : decode cX7_seen 17 = .ok (.aload_n 0, 1) := by decide +kernel
theorem dX7_seen_18 : decode cX7_seen 18 = .ok (.getfield 201, 3) := by decide +kernel
theorem dX7_seen_21 : decode cX7_seen 21 = .ok (.bipush 8, 2) := by decide +kernel
theorem dX7_seen_23 : decode cX7_seen 23 = .ok (.if_icmp .ne 6, 3) := by decide +kernel
theorem dX7_seen_26 : decode cX7_seen 26 = .ok (.bipush (-4), 2) := by decide +kernel
theorem dX7_seen_28 : decode cX7_seen 28 = .ok (.ireturn, 1) := by decide +kernel
theorem dX7_seen_29 : decode cX7_seen 29 = .ok (.aload_n 0, 1) := by decide +kernel
theorem dX7_seen_30 : decode cX7_seen 30 = .ok (.getfield 49, 3) := by decide +kernel
theorem dX7_seen_33 : decode cX7_seen 33 = .ok (.aload_n 0, 1) := by decide +kernel
theorem dX7_seen_34 : decode cX7_seen 34 = .ok (.getfield 201, 3) := by decide +kernel
theorem dX7_seen_37 : decode cX7_seen 37 = .ok (.iload_n 1, 1) := by decide +kernel
theorem dX7_seen_38 : decode cX7_seen 38 = .ok (.iastore, 1) := by decide +kernel
theorem dX7_seen_39 : decode cX7_seen 39 = .ok (.aload_n 0, 1) := by decide +kernel
theorem dX7_seen_40 : decode cX7_seen 40 = .ok (.getfield 52, 3) := by decide +kernel
theorem dX7_seen_43 : decode cX7_seen 43 = .ok (.aload_n 0, 1) := by decide +kernel
theorem dX7_seen_44 : decode cX7_seen 44 = .ok (.getfield 201, 3) := by decide +kernel
theorem dX7_seen_47 : decode cX7_seen 47 = .ok (.iload_n 2, 1) := by decide +kernel
theorem dX7_seen_48 : decode cX7_seen 48 = .ok (.iastore, 1) := by decide +kernel
theorem dX7_seen_49 : decode cX7_seen 49 = .ok (.aload_n 0, 1) := by decide +kernel
theorem dX7_seen_50 : decode cX7_seen 50 = .ok (.dup, 1) := by decide +kernel
theorem dX7_seen_51 : decode cX7_seen 51 = .ok (.getfield 201, 3) := by decide +kernel
theorem dX7_seen_54 : decode cX7_seen 54 = .ok (.iconst 1, 1) := by decide +kernel
theorem dX7_seen_55 : decode cX7_seen 55 = .ok (.iadd, 1) := by decide +kernel
theorem dX7_seen_56 : decode cX7_seen 56 = .ok (.putfield 201, 3) := by decide +kernel
theorem dX7_seen_59 : decode cX7_seen 59 = .ok (.aload_n 0, 1) := by decide +kernel
theorem dX7_seen_60 : decode cX7_seen 60 = .ok (.getfield 201, 3) := by decide +kernel
theorem dX7_seen_63 : decode cX7_seen 63 = .ok (.ireturn, 1) := by decide +kernel
theorem dX7_forget_0 : decode cX7_forget 0 = .ok (.aload_n 0, 1) := by decide +kernel
theorem dX7_forget_1 : decode cX7_forget 1 = .ok (.getfield 201, 3) := by decide +kernel
theorem dX7_forget_4 : decode cX7_forget 4 = .ok (.istore_n 1, 1) := by decide +kernel
theorem dX7_forget_5 : decode cX7_forget 5 = .ok (.aload_n 0, 1) := by decide +kernel
theorem dX7_forget_6 : decode cX7_forget 6 = .ok (.iconst 0, 1) := by decide +kernel
theorem dX7_forget_7 : decode cX7_forget 7 = .ok (.putfield 201, 3) := by decide +kernel
theorem dX7_forget_10 : decode cX7_forget 10 = .ok (.iload_n 1, 1) := by decide +kernel
theorem dX7_forget_11 : decode cX7_forget 11 = .ok (.ireturn, 1) := by decide +kernel
theorem dX7_whoseOf_0 : decode cX7_whoseOf 0 = .ok (.aload_n 0, 1) := by decide +kernel
theorem dX7_whoseOf_1 : decode cX7_whoseOf 1 = .ok (.invokevirtual 98, 3) := by decide +kernel
theorem dX7_whoseOf_4 : decode cX7_whoseOf 4 = .ok (.istore_n 2, 1) := by decide +kernel
theorem dX7_whoseOf_5 : decode cX7_whoseOf 5 = .ok (.iconst 0, 1) := by decide +kernel
theorem dX7_whoseOf_6 : decode cX7_whoseOf 6 = .ok (.istore_n 3, 1) := by decide +kernel
theorem dX7_whoseOf_7 : decode cX7_whoseOf 7 = .ok (.iconst 0, 1) := by decide +kernel
theorem dX7_whoseOf_8 : decode cX7_whoseOf 8 = .ok (.istore 4, 2) := by decide +kernel
theorem dX7_whoseOf_10 : decode cX7_whoseOf 10 = .ok (.iconst 0, 1) := by decide +kernel
theorem dX7_whoseOf_11 : decode cX7_whoseOf 11 = .ok (.istore 5, 2) := by decide +kernel
theorem dX7_whoseOf_13 : decode cX7_whoseOf 13 = .ok (.iload 5, 2) := by decide +kernel
theorem dX7_whoseOf_15 : decode cX7_whoseOf 15 = .ok (.aload_n 0, 1) := by decide +kernel
theorem dX7_whoseOf_16 : decode cX7_whoseOf 16 = .ok (.getfield 85, 3) := by decide +kernel
theorem dX7_whoseOf_19 : decode cX7_whoseOf 19 = .ok (.if_icmp .ge 105, 3) := by decide +kernel
theorem dX7_whoseOf_22 : decode cX7_whoseOf 22 = .ok (.iconst 1, 1) := by decide +kernel
theorem dX7_whoseOf_23 : decode cX7_whoseOf 23 = .ok (.istore 6, 2) := by decide +kernel
theorem dX7_whoseOf_25 : decode cX7_whoseOf 25 = .ok (.iconst 0, 1) := by decide +kernel
theorem dX7_whoseOf_26 : decode cX7_whoseOf 26 = .ok (.istore 7, 2) := by decide +kernel
theorem dX7_whoseOf_28 : decode cX7_whoseOf 28 = .ok (.iload 7, 2) := by decide +kernel
theorem dX7_whoseOf_30 : decode cX7_whoseOf 30 = .ok (.aload_n 0, 1) := by decide +kernel
theorem dX7_whoseOf_31 : decode cX7_whoseOf 31 = .ok (.getfield 201, 3) := by decide +kernel
theorem dX7_whoseOf_34 : decode cX7_whoseOf 34 = .ok (.if_icmp .ge 45, 3) := by decide +kernel
theorem dX7_whoseOf_37 : decode cX7_whoseOf 37 = .ok (.iload 6, 2) := by decide +kernel
theorem dX7_whoseOf_39 : decode cX7_whoseOf 39 = .ok (.ifCond .eq 31, 3) := by decide +kernel
theorem dX7_whoseOf_42 : decode cX7_whoseOf 42 = .ok (.aload_n 0, 1) := by decide +kernel
theorem dX7_whoseOf_43 : decode cX7_whoseOf 43 = .ok (.iload 5, 2) := by decide +kernel
theorem dX7_whoseOf_45 : decode cX7_whoseOf 45 = .ok (.aload_n 0, 1) := by decide +kernel
theorem dX7_whoseOf_46 : decode cX7_whoseOf 46 = .ok (.getfield 49, 3) := by decide +kernel
theorem dX7_whoseOf_49 : decode cX7_whoseOf 49 = .ok (.iload 7, 2) := by decide +kernel
theorem dX7_whoseOf_51 : decode cX7_whoseOf 51 = .ok (.iaload, 1) := by decide +kernel
theorem dX7_whoseOf_52 : decode cX7_whoseOf 52 = .ok (.aload_n 0, 1) := by decide +kernel
theorem dX7_whoseOf_53 : decode cX7_whoseOf 53 = .ok (.getfield 52, 3) := by decide +kernel
theorem dX7_whoseOf_56 : decode cX7_whoseOf 56 = .ok (.iload 7, 2) := by decide +kernel
theorem dX7_whoseOf_58 : decode cX7_whoseOf 58 = .ok (.iaload, 1) := by decide +kernel
theorem dX7_whoseOf_59 : decode cX7_whoseOf 59 = .ok (.invokevirtual 125, 3) := by decide +kernel
theorem dX7_whoseOf_62 : decode cX7_whoseOf 62 = .ok (.iconst (-1), 1) := by decide +kernel
theorem dX7_whoseOf_63 : decode cX7_whoseOf 63 = .ok (.if_icmp .ne 7, 3) := by decide +kernel
theorem dX7_whoseOf_66 : decode cX7_whoseOf 66 = .ok (.iconst 1, 1) := by decide +kernel
theorem dX7_whoseOf_67 : decode cX7_whoseOf 67 = .ok (.goto 4, 3) := by decide +kernel
theorem dX7_whoseOf_70 : decode cX7_whoseOf 70 = .ok (.iconst 0, 1) := by decide +kernel
theorem dX7_whoseOf_71 : decode cX7_whoseOf 71 = .ok (.istore 6, 2) := by decide +kernel
theorem dX7_whoseOf_73 : decode cX7_whoseOf 73 = .ok (.iinc 7 1, 3) := by decide +kernel
theorem dX7_whoseOf_76 : decode cX7_whoseOf 76 = .ok (.goto (-48), 3) := by decide +kernel
theorem dX7_whoseOf_79 : decode cX7_whoseOf 79 = .ok (.iload_n 3, 1) := by decide +kernel
theorem dX7_whoseOf_80 : decode cX7_whoseOf 80 = .ok (.iload 6, 2) := by decide +kernel
theorem dX7_whoseOf_82 : decode cX7_whoseOf 82 = .ok (.ifCond .eq 10, 3) := by decide +kernel
theorem dX7_whoseOf_85 : decode cX7_whoseOf 85 = .ok (.iconst 1, 1) := by decide +kernel
theorem dX7_whoseOf_86 : decode cX7_whoseOf 86 = .ok (.iload 5, 2) := by decide +kernel
theorem dX7_whoseOf_88 : decode cX7_whoseOf 88 = .ok (.ishl, 1) := by decide +kernel
theorem dX7_whoseOf_89 : decode cX7_whoseOf 89 = .ok (.goto 4, 3) := by decide +kernel
theorem dX7_whoseOf_92 : decode cX7_whoseOf 92 = .ok (.iconst 0, 1) := by decide +kernel
theorem dX7_whoseOf_93 : decode cX7_whoseOf 93 = .ok (.ior, 1) := by decide +kernel
theorem dX7_whoseOf_94 : decode cX7_whoseOf 94 = .ok (.istore_n 3, 1) := by decide +kernel
theorem dX7_whoseOf_95 : decode cX7_whoseOf 95 = .ok (.iload 4, 2) := by decide +kernel
theorem dX7_whoseOf_97 : decode cX7_whoseOf 97 = .ok (.iload 6, 2) := by decide +kernel
theorem dX7_whoseOf_99 : decode cX7_whoseOf 99 = .ok (.ifCond .eq 15, 3) := by decide +kernel
theorem dX7_whoseOf_102 : decode cX7_whoseOf 102 = .ok (.iconst 1, 1) := by decide +kernel
theorem dX7_whoseOf_103 : decode cX7_whoseOf 103 = .ok (.aload_n 0, 1) := by decide +kernel
theorem dX7_whoseOf_104 : decode cX7_whoseOf 104 = .ok (.getfield 19, 3) := by decide +kernel
theorem dX7_whoseOf_107 : decode cX7_whoseOf 107 = .ok (.iload 5, 2) := by decide +kernel
theorem dX7_whoseOf_109 : decode cX7_whoseOf 109 = .ok (.iaload, 1) := by decide +kernel
theorem dX7_whoseOf_110 : decode cX7_whoseOf 110 = .ok (.ishl, 1) := by decide +kernel
theorem dX7_whoseOf_111 : decode cX7_whoseOf 111 = .ok (.goto 4, 3) := by decide +kernel
theorem dX7_whoseOf_114 : decode cX7_whoseOf 114 = .ok (.iconst 0, 1) := by decide +kernel
theorem dX7_whoseOf_115 : decode cX7_whoseOf 115 = .ok (.ior, 1) := by decide +kernel
theorem dX7_whoseOf_116 : decode cX7_whoseOf 116 = .ok (.istore 4, 2) := by decide +kernel
theorem dX7_whoseOf_118 : decode cX7_whoseOf 118 = .ok (.iinc 5 1, 3) := by decide +kernel
theorem dX7_whoseOf_121 : decode cX7_whoseOf 121 = .ok (.goto (-108), 3) := by decide +kernel
theorem dX7_whoseOf_124 : decode cX7_whoseOf 124 = .ok (.iload_n 1, 1) := by decide +kernel
theorem dX7_whoseOf_125 : decode cX7_whoseOf 125 = .ok (.ifCond .ne 7, 3) := by decide +kernel
theorem dX7_whoseOf_128 : decode cX7_whoseOf 128 = .ok (.iload_n 3, 1) := by decide +kernel
theorem dX7_whoseOf_129 : decode cX7_whoseOf 129 = .ok (.goto 8, 3) := by decide +kernel
theorem dX7_whoseOf_132 : decode cX7_whoseOf 132 = .ok (.iload 4, 2) := by decide +kernel
theorem dX7_whoseOf_134 : decode cX7_whoseOf 134 = .ok (.invokestatic 132, 3) := by decide +kernel
theorem dX7_whoseOf_137 : decode cX7_whoseOf 137 = .ok (.ireturn, 1) := by decide +kernel
theorem dX7_whose_0 : decode cX7_whose 0 = .ok (.iload_n 1, 1) := by decide +kernel
theorem dX7_whose_1 : decode cX7_whose 1 = .ok (.iconst 0, 1) := by decide +kernel
theorem dX7_whose_2 : decode cX7_whose 2 = .ok (.iconst 1, 1) := by decide +kernel
theorem dX7_whose_3 : decode cX7_whose 3 = .ok (.invokestatic 77, 3) := by decide +kernel
theorem dX7_whose_6 : decode cX7_whose 6 = .ok (.ifCond .eq 11, 3) := by decide +kernel
theorem dX7_whose_9 : decode cX7_whose 9 = .ok (.aload_n 0, 1) := by decide +kernel
theorem dX7_whose_10 : decode cX7_whose 10 = .ok (.iload_n 1, 1) := by decide +kernel
theorem dX7_whose_11 : decode cX7_whose 11 = .ok (.invokevirtual 204, 3) := by decide +kernel
theorem dX7_whose_14 : decode cX7_whose 14 = .ok (.goto 5, 3) := by decide +kernel
theorem dX7_whose_17 : decode cX7_whose 17 = .ok (.bipush (-2), 2) := by decide +kernel
theorem dX7_whose_19 : decode cX7_whose 19 = .ok (.ireturn, 1) := by decide +kernel
theorem dX7_clouds_0 : decode cX7_clouds 0 = .ok (.iload_n 1, 1) := by decide +kernel
theorem dX7_clouds_1 : decode cX7_clouds 1 = .ok (.invokestatic 113, 3) := by decide +kernel
theorem dX7_clouds_4 : decode cX7_clouds 4 = .ok (.ifCond .eq 13, 3) := by decide +kernel
theorem dX7_clouds_7 : decode cX7_clouds 7 = .ok (.iload_n 2, 1) := by decide +kernel
theorem dX7_clouds_8 : decode cX7_clouds 8 = .ok (.iconst 0, 1) := by decide +kernel
theorem dX7_clouds_9 : decode cX7_clouds 9 = .ok (.bipush 16, 2) := by decide +kernel
theorem dX7_clouds_11 : decode cX7_clouds 11 = .ok (.invokestatic 77, 3) := by decide +kernel
theorem dX7_clouds_14 : decode cX7_clouds 14 = .ok (.ifCond .ne 6, 3) := by decide +kernel
theorem dX7_clouds_17 : decode cX7_clouds 17 = .ok (.bipush (-2), 2) := by decide +kernel
theorem dX7_clouds_19 : decode cX7_clouds 19 = .ok (.ireturn, 1) := by decide +kernel
theorem dX7_clouds_20 : decode cX7_clouds 20 = .ok (.aload_n 0, 1) := by decide +kernel
theorem dX7_clouds_21 : decode cX7_clouds 21 = .ok (.getfield 25, 3) := by decide +kernel
theorem dX7_clouds_24 : decode cX7_clouds 24 = .ok (.iload_n 1, 1) := by decide +kernel
theorem dX7_clouds_25 : decode cX7_clouds 25 = .ok (.iaload, 1) := by decide +kernel
theorem dX7_clouds_26 : decode cX7_clouds 26 = .ok (.istore_n 3, 1) := by decide +kernel
theorem dX7_clouds_27 : decode cX7_clouds 27 = .ok (.aload_n 0, 1) := by decide +kernel
theorem dX7_clouds_28 : decode cX7_clouds 28 = .ok (.getfield 25, 3) := by decide +kernel
theorem dX7_clouds_31 : decode cX7_clouds 31 = .ok (.iload_n 1, 1) := by decide +kernel
theorem dX7_clouds_32 : decode cX7_clouds 32 = .ok (.iload_n 2, 1) := by decide +kernel
theorem dX7_clouds_33 : decode cX7_clouds 33 = .ok (.iastore, 1) := by decide +kernel
theorem dX7_clouds_34 : decode cX7_clouds 34 = .ok (.iload_n 3, 1) := by decide +kernel
theorem dX7_clouds_35 : decode cX7_clouds 35 = .ok (.ireturn, 1) := by decide +kernel
theorem dX7_clearOf_0 : decode cX7_clearOf 0 = .ok (.aload_n 0, 1) := by decide +kernel
theorem dX7_clearOf_1 : decode cX7_clearOf 1 = .ok (.iload_n 1, 1) := by decide +kernel
theorem dX7_clearOf_2 : decode cX7_clearOf 2 = .ok (.iload_n 2, 1) := by decide +kernel
theorem dX7_clearOf_3 : decode cX7_clearOf 3 = .ok (.invokevirtual 129, 3) := by decide +kernel
theorem dX7_clearOf_6 : decode cX7_clearOf 6 = .ok (.invokestatic 132, 3) := by decide +kernel
theorem dX7_clearOf_9 : decode cX7_clearOf 9 = .ok (.istore 5, 2) := by decide +kernel
theorem dX7_clearOf_11 : decode cX7_clearOf 11 = .ok (.bipush 16, 2) := by decide +kernel
theorem dX7_clearOf_13 : decode cX7_clearOf 13 = .ok (.aload_n 0, 1) := by decide +kernel
theorem dX7_clearOf_14 : decode cX7_clearOf 14 = .ok (.getfield 25, 3) := by decide +kernel
theorem dX7_clearOf_17 : decode cX7_clearOf 17 = .ok (.iload_n 2, 1) := by decide +kernel
theorem dX7_clearOf_18 : decode cX7_clearOf 18 = .ok (.iaload, 1) := by decide +kernel
theorem dX7_clearOf_19 : decode cX7_clearOf 19 = .ok (.isub, 1) := by decide +kernel
theorem dX7_clearOf_20 : decode cX7_clearOf 20 = .ok (.istore 6, 2) := by decide +kernel
theorem dX7_clearOf_22 : decode cX7_clearOf 22 = .ok (.iload_n 3, 1) := by decide +kernel
theorem dX7_clearOf_23 : decode cX7_clearOf 23 = .ok (.iconst (-1), 1) := by decide +kernel
theorem dX7_clearOf_24 : decode cX7_clearOf 24 = .ok (.if_icmp .ne 18, 3) := by decide +kernel
theorem dX7_clearOf_27 : decode cX7_clearOf 27 = .ok (.iload 5, 2) := by decide +kernel
theorem dX7_clearOf_29 : decode cX7_clearOf 29 = .ok (.iload 6, 2) := by decide +kernel
theorem dX7_clearOf_31 : decode cX7_clearOf 31 = .ok (.imul, 1) := by decide +kernel
theorem dX7_clearOf_32 : decode cX7_clearOf 32 = .ok (.i2l, 1) := by decide +kernel
theorem dX7_clearOf_33 : decode cX7_clearOf 33 = .ok (.ldc2_w 207, 3) := by decide +kernel
theorem dX7_clearOf_36 : decode cX7_clearOf 36 = .ok (.iload 4, 2) := by decide +kernel
theorem dX7_clearOf_38 : decode cX7_clearOf 38 = .ok (.invokestatic 209, 3) := by decide +kernel
theorem dX7_clearOf_41 : decode cX7_clearOf 41 = .ok (.lreturn, 1) := by decide +kernel
theorem dX7_clearOf_42 : decode cX7_clearOf 42 = .ok (.lconst 1, 1) := by decide +kernel
theorem dX7_clearOf_43 : decode cX7_clearOf 43 = .ok (.lstore 7, 2) := by decide +kernel
theorem dX7_clearOf_45 : decode cX7_clearOf 45 = .ok (.iconst 0, 1) := by decide +kernel
theorem dX7_clearOf_46 : decode cX7_clearOf 46 = .ok (.istore 9, 2) := by decide +kernel
theorem dX7_clearOf_48 : decode cX7_clearOf 48 = .ok (.iload 9, 2) := by decide +kernel
theorem dX7_clearOf_50 : decode cX7_clearOf 50 = .ok (.bipush 14, 2) := by decide +kernel
theorem dX7_clearOf_52 : decode cX7_clearOf 52 = .ok (.if_icmp .ge 26, 3) := by decide +kernel
theorem dX7_clearOf_55 : decode cX7_clearOf 55 = .ok (.aload_n 0, 1) := by decide +kernel
theorem dX7_clearOf_56 : decode cX7_clearOf 56 = .ok (.getfield 55, 3) := by decide +kernel
theorem dX7_clearOf_59 : decode cX7_clearOf 59 = .ok (.iload 9, 2) := by decide +kernel
theorem dX7_clearOf_61 : decode cX7_clearOf 61 = .ok (.iload 9, 2) := by decide +kernel
theorem dX7_clearOf_63 : decode cX7_clearOf 63 = .ok (.ifCond .ne 7, 3) := by decide +kernel
theorem dX7_clearOf_66 : decode cX7_clearOf 66 = .ok (.lconst 1, 1) := by decide +kernel
theorem dX7_clearOf_67 : decode cX7_clearOf 67 = .ok (.goto 4, 3) := by decide +kernel
theorem dX7_clearOf_70 : decode cX7_clearOf 70 = .ok (.lconst 0, 1) := by decide +kernel
theorem dX7_clearOf_71 : decode cX7_clearOf 71 = .ok (.lastore, 1) := by decide +kernel
theorem dX7_clearOf_72 : decode cX7_clearOf 72 = .ok (.iinc 9 1, 3) := by decide +kernel
theorem dX7_clearOf_75 : decode cX7_clearOf 75 = .ok (.goto (-27), 3) := by decide +kernel
theorem dX7_clearOf_78 : decode cX7_clearOf 78 = .ok (.iconst 0, 1) := by decide +kernel
theorem dX7_clearOf_79 : decode cX7_clearOf 79 = .ok (.istore 9, 2) := by decide +kernel
theorem dX7_clearOf_81 : decode cX7_clearOf 81 = .ok (.iload 9, 2) := by decide +kernel
theorem dX7_clearOf_83 : decode cX7_clearOf 83 = .ok (.iload 5, 2) := by decide +kernel
theorem dX7_clearOf_85 : decode cX7_clearOf 85 = .ok (.if_icmp .ge 76, 3) := by decide +kernel
theorem dX7_clearOf_88 : decode cX7_clearOf 88 = .ok (.lload 7, 2) := by decide +kernel
theorem dX7_clearOf_90 : decode cX7_clearOf 90 = .ok (.ldc2_w 207, 3) := by decide +kernel
theorem dX7_clearOf_93 : decode cX7_clearOf 93 = .ok (.lmul, 1) := by decide +kernel
theorem dX7_clearOf_94 : decode cX7_clearOf 94 = .ok (.lstore 7, 2) := by decide +kernel
theorem dX7_clearOf_96 : decode cX7_clearOf 96 = .ok (.bipush 13, 2) := by decide +kernel
theorem dX7_clearOf_98 : decode cX7_clearOf 98 = .ok (.istore 10, 2) := by decide +kernel
theorem dX7_clearOf_100 : decode cX7_clearOf 100 = .ok (.iload 10, 2) := by decide +kernel
theorem dX7_clearOf_102 : decode cX7_clearOf 102 = .ok (.ifCond .lt 53, 3) := by decide +kernel
theorem dX7_clearOf_105 : decode cX7_clearOf 105 = .ok (.aload_n 0, 1) := by decide +kernel
theorem dX7_clearOf_106 : decode cX7_clearOf 106 = .ok (.getfield 55, 3) := by decide +kernel
theorem dX7_clearOf_109 : decode cX7_clearOf 109 = .ok (.iload 10, 2) := by decide +kernel
theorem dX7_clearOf_111 : decode cX7_clearOf 111 = .ok (.aload_n 0, 1) := by decide +kernel
theorem dX7_clearOf_112 : decode cX7_clearOf 112 = .ok (.getfield 55, 3) := by decide +kernel
theorem dX7_clearOf_115 : decode cX7_clearOf 115 = .ok (.iload 10, 2) := by decide +kernel
theorem dX7_clearOf_117 : decode cX7_clearOf 117 = .ok (.laload, 1) := by decide +kernel
theorem dX7_clearOf_118 : decode cX7_clearOf 118 = .ok (.bipush 16, 2) := by decide +kernel
theorem dX7_clearOf_120 : decode cX7_clearOf 120 = .ok (.iload 6, 2) := by decide +kernel
theorem dX7_clearOf_122 : decode cX7_clearOf 122 = .ok (.isub, 1) := by decide +kernel
theorem dX7_clearOf_123 : decode cX7_clearOf 123 = .ok (.i2l, 1) := by decide +kernel
theorem dX7_clearOf_124 : decode cX7_clearOf 124 = .ok (.lmul, 1) := by decide +kernel
theorem dX7_clearOf_125 : decode cX7_clearOf 125 = .ok (.iload 10, 2) := by decide +kernel
theorem dX7_clearOf_127 : decode cX7_clearOf 127 = .ok (.ifCond .le 19, 3) := by decide +kernel
theorem dX7_clearOf_130 : decode cX7_clearOf 130 = .ok (.aload_n 0, 1) := by decide +kernel
theorem dX7_clearOf_131 : decode cX7_clearOf 131 = .ok (.getfield 55, 3) := by decide +kernel
theorem dX7_clearOf_134 : decode cX7_clearOf 134 = .ok (.iload 10, 2) := by decide +kernel
theorem dX7_clearOf_136 : decode cX7_clearOf 136 = .ok (.iconst 1, 1) := by decide +kernel
theorem dX7_clearOf_137 : decode cX7_clearOf 137 = .ok (.isub, 1) := by decide +kernel
theorem dX7_clearOf_138 : decode cX7_clearOf 138 = .ok (.laload, 1) := by decide +kernel
theorem dX7_clearOf_139 : decode cX7_clearOf 139 = .ok (.iload 6, 2) := by decide +kernel
theorem dX7_clearOf_141 : decode cX7_clearOf 141 = .ok (.i2l, 1) := by decide +kernel
theorem dX7_clearOf_142 : decode cX7_clearOf 142 = .ok (.lmul, 1) := by decide +kernel
theorem dX7_clearOf_143 : decode cX7_clearOf 143 = .ok (.goto 4, 3) := by decide +kernel
theorem dX7_clearOf_146 : decode cX7_clearOf 146 = .ok (.lconst 0, 1) := by decide +kernel
theorem dX7_clearOf_147 : decode cX7_clearOf 147 = .ok (.ladd, 1) := by decide +kernel
theorem dX7_clearOf_148 : decode cX7_clearOf 148 = .ok (.lastore, 1) := by decide +kernel
theorem dX7_clearOf_149 : decode cX7_clearOf 149 = .ok (.iinc 10 (-1), 3) := by decide +kernel
theorem dX7_clearOf_152 : decode cX7_clearOf 152 = .ok (.goto (-52), 3) := by decide +kernel
theorem dX7_clearOf_155 : decode cX7_clearOf 155 = .ok (.iinc 9 1, 3) := by decide +kernel
theorem dX7_clearOf_158 : decode cX7_clearOf 158 = .ok (.goto (-77), 3) := by decide +kernel
theorem dX7_clearOf_161 : decode cX7_clearOf 161 = .ok (.lconst 0, 1) := by decide +kernel
theorem dX7_clearOf_162 : decode cX7_clearOf 162 = .ok (.lstore 9, 2) := by decide +kernel
theorem dX7_clearOf_164 : decode cX7_clearOf 164 = .ok (.iload_n 3, 1) := by decide +kernel
theorem dX7_clearOf_165 : decode cX7_clearOf 165 = .ok (.istore 11, 2) := by decide +kernel
theorem dX7_clearOf_167 : decode cX7_clearOf 167 = .ok (.iload 11, 2) := by decide +kernel
theorem dX7_clearOf_169 : decode cX7_clearOf 169 = .ok (.bipush 14, 2) := by decide +kernel
theorem dX7_clearOf_171 : decode cX7_clearOf 171 = .ok (.if_icmp .ge 21, 3) := by decide +kernel
theorem dX7_clearOf_174 : decode cX7_clearOf 174 = .ok (.lload 9, 2) := by decide +kernel
theorem dX7_clearOf_176 : decode cX7_clearOf 176 = .ok (.aload_n 0, 1) := by decide +kernel
theorem dX7_clearOf_177 : decode cX7_clearOf 177 = .ok (.getfield 55, 3) := by decide +kernel
theorem dX7_clearOf_180 : decode cX7_clearOf 180 = .ok (.iload 11, 2) := by decide +kernel
theorem dX7_clearOf_182 : decode cX7_clearOf 182 = .ok (.laload, 1) := by decide +kernel
theorem dX7_clearOf_183 : decode cX7_clearOf 183 = .ok (.ladd, 1) := by decide +kernel
theorem dX7_clearOf_184 : decode cX7_clearOf 184 = .ok (.lstore 9, 2) := by decide +kernel
theorem dX7_clearOf_186 : decode cX7_clearOf 186 = .ok (.iinc 11 1, 3) := by decide +kernel
theorem dX7_clearOf_189 : decode cX7_clearOf 189 = .ok (.goto (-22), 3) := by decide +kernel
theorem dX7_clearOf_192 : decode cX7_clearOf 192 = .ok (.lload 9, 2) := by decide +kernel
theorem dX7_clearOf_194 : decode cX7_clearOf 194 = .ok (.lload 7, 2) := by decide +kernel
theorem dX7_clearOf_196 : decode cX7_clearOf 196 = .ok (.iload 4, 2) := by decide +kernel
theorem dX7_clearOf_198 : decode cX7_clearOf 198 = .ok (.invokestatic 209, 3) := by decide +kernel
theorem dX7_clearOf_201 : decode cX7_clearOf 201 = .ok (.lreturn, 1) := by decide +kernel
theorem dX7_clear_0 : decode cX7_clear 0 = .ok (.aload_n 0, 1) := by decide +kernel
theorem dX7_clear_1 : decode cX7_clear 1 = .ok (.iload_n 1, 1) := by decide +kernel
theorem dX7_clear_2 : decode cX7_clear 2 = .ok (.invokevirtual 102, 3) := by decide +kernel
theorem dX7_clear_5 : decode cX7_clear 5 = .ok (.ifCond .eq 42, 3) := by decide +kernel
theorem dX7_clear_8 : decode cX7_clear 8 = .ok (.iload_n 2, 1) := by decide +kernel
theorem dX7_clear_9 : decode cX7_clear 9 = .ok (.invokestatic 113, 3) := by decide +kernel
theorem dX7_clear_12 : decode cX7_clear 12 = .ok (.ifCond .eq 35, 3) := by decide +kernel
theorem dX7_clear_15 : decode cX7_clear 15 = .ok (.iload_n 3, 1) := by decide +kernel
theorem dX7_clear_16 : decode cX7_clear 16 = .ok (.iconst (-1), 1) := by decide +kernel
theorem dX7_clear_17 : decode cX7_clear 17 = .ok (.bipush 12, 2) := by decide +kernel
theorem dX7_clear_19 : decode cX7_clear 19 = .ok (.invokestatic 77, 3) := by decide +kernel
theorem dX7_clear_22 : decode cX7_clear 22 = .ok (.ifCond .eq 25, 3) := by decide +kernel
theorem dX7_clear_25 : decode cX7_clear 25 = .ok (.iload 4, 2) := by decide +kernel
theorem dX7_clear_27 : decode cX7_clear 27 = .ok (.iconst 0, 1) := by decide +kernel
theorem dX7_clear_28 : decode cX7_clear 28 = .ok (.iconst 1, 1) := by decide +kernel
theorem dX7_clear_29 : decode cX7_clear 29 = .ok (.invokestatic 77, 3) := by decide +kernel
theorem dX7_clear_32 : decode cX7_clear 32 = .ok (.ifCond .eq 15, 3) := by decide +kernel
theorem dX7_clear_35 : decode cX7_clear 35 = .ok (.aload_n 0, 1) := by decide +kernel
theorem dX7_clear_36 : decode cX7_clear 36 = .ok (.iload_n 1, 1) := by decide +kernel
theorem dX7_clear_37 : decode cX7_clear 37 = .ok (.iload_n 2, 1) := by decide +kernel
theorem dX7_clear_38 : decode cX7_clear 38 = .ok (.iload_n 3, 1) := by decide +kernel
theorem dX7_clear_39 : decode cX7_clear 39 = .ok (.iload 4, 2) := by decide +kernel
theorem dX7_clear_41 : decode cX7_clear 41 = .ok (.invokevirtual 213, 3) := by decide +kernel
theorem dX7_clear_44 : decode cX7_clear 44 = .ok (.goto 8, 3) := by decide +kernel
theorem dX7_clear_47 : decode cX7_clear 47 = .ok (.bipush (-2), 2) := by decide +kernel
theorem dX7_clear_49 : decode cX7_clear 49 = .ok (.invokestatic 217, 3) := by decide +kernel
theorem dX7_clear_52 : decode cX7_clear 52 = .ok (.lreturn, 1) := by decide +kernel
theorem dX7_meets_0 : decode cX7_meets 0 = .ok (.aload_n 0, 1) := by decide +kernel
theorem dX7_meets_1 : decode cX7_meets 1 = .ok (.iload_n 1, 1) := by decide +kernel
theorem dX7_meets_2 : decode cX7_meets 2 = .ok (.putfield 221, 3) := by decide +kernel
theorem dX7_meets_5 : decode cX7_meets 5 = .ok (.bipush (-10), 2) := by decide +kernel
theorem dX7_meets_7 : decode cX7_meets 7 = .ok (.iload_n 1, 1) := by decide +kernel
theorem dX7_meets_8 : decode cX7_meets 8 = .ok (.isub, 1) := by decide +kernel
theorem dX7_meets_9 : decode cX7_meets 9 = .ok (.ireturn, 1) := by decide +kernel
theorem dX7_isSheet_0 : decode cX7_isSheet 0 = .ok (.iload_n 0, 1) := by decide +kernel
theorem dX7_isSheet_1 : decode cX7_isSheet 1 = .ok (.iconst 0, 1) := by decide +kernel
theorem dX7_isSheet_2 : decode cX7_isSheet 2 = .ok (.iconst 3, 1) := by decide +kernel
theorem dX7_isSheet_3 : decode cX7_isSheet 3 = .ok (.invokestatic 77, 3) := by decide +kernel
theorem dX7_isSheet_6 : decode cX7_isSheet 6 = .ok (.ireturn, 1) := by decide +kernel
theorem dX7_sheet_0 : decode cX7_sheet 0 = .ok (.iload_n 1, 1) := by decide +kernel
theorem dX7_sheet_1 : decode cX7_sheet 1 = .ok (.invokestatic 116, 3) := by decide +kernel
theorem dX7_sheet_4 : decode cX7_sheet 4 = .ok (.ifCond .eq 18, 3) := by decide +kernel
theorem dX7_sheet_7 : decode cX7_sheet 7 = .ok (.iload_n 2, 1) := by decide +kernel
theorem dX7_sheet_8 : decode cX7_sheet 8 = .ok (.iconst 0, 1) := by decide +kernel
theorem dX7_sheet_9 : decode cX7_sheet 9 = .ok (.iconst 2, 1) := by decide +kernel
theorem dX7_sheet_10 : decode cX7_sheet 10 = .ok (.invokestatic 77, 3) := by decide +kernel
theorem dX7_sheet_13 : decode cX7_sheet 13 = .ok (.ifCond .eq 9, 3) := by decide +kernel
theorem dX7_sheet_16 : decode cX7_sheet 16 = .ok (.iload_n 3, 1) := by decide +kernel
theorem dX7_sheet_17 : decode cX7_sheet 17 = .ok (.bipush 48, 2) := by decide +kernel
theorem dX7_sheet_19 : decode cX7_sheet 19 = .ok (.if_icmp .le 6, 3) := by decide +kernel
theorem dX7_sheet_22 : decode cX7_sheet 22 = .ok (.bipush (-2), 2) := by decide +kernel
theorem dX7_sheet_24 : decode cX7_sheet 24 = .ok (.ireturn, 1) := by decide +kernel
theorem dX7_sheet_25 : decode cX7_sheet 25 = .ok (.iload_n 3, 1) := by decide +kernel
theorem dX7_sheet_26 : decode cX7_sheet 26 = .ok (.ifCond .ge 9, 3) := by decide +kernel
theorem dX7_sheet_29 : decode cX7_sheet 29 = .ok (.aload_n 0, 1) := by decide +kernel
theorem dX7_sheet_30 : decode cX7_sheet 30 = .ok (.iconst 5, 1) := by decide +kernel
theorem dX7_sheet_31 : decode cX7_sheet 31 = .ok (.invokevirtual 119, 3) := by decide +kernel
theorem dX7_sheet_34 : decode cX7_sheet 34 = .ok (.ireturn, 1) := by decide +kernel
theorem dX7_sheet_35 : decode cX7_sheet 35 = .ok (.aload_n 0, 1) := by decide +kernel
theorem dX7_sheet_36 : decode cX7_sheet 36 = .ok (.getfield 59, 3) := by decide +kernel
theorem dX7_sheet_39 : decode cX7_sheet 39 = .ok (.iload_n 1, 1) := by decide +kernel
theorem dX7_sheet_40 : decode cX7_sheet 40 = .ok (.iconst 1, 1) := by decide +kernel
theorem dX7_sheet_41 : decode cX7_sheet 41 = .ok (.bastore, 1) := by decide +kernel
theorem dX7_sheet_42 : decode cX7_sheet 42 = .ok (.aload_n 0, 1) := by decide +kernel
theorem dX7_sheet_43 : decode cX7_sheet 43 = .ok (.getfield 63, 3) := by decide +kernel
theorem dX7_sheet_46 : decode cX7_sheet 46 = .ok (.iload_n 1, 1) := by decide +kernel
theorem dX7_sheet_47 : decode cX7_sheet 47 = .ok (.iload_n 2, 1) := by decide +kernel
theorem dX7_sheet_48 : decode cX7_sheet 48 = .ok (.iastore, 1) := by decide +kernel
theorem dX7_sheet_49 : decode cX7_sheet 49 = .ok (.aload_n 0, 1) := by decide +kernel
theorem dX7_sheet_50 : decode cX7_sheet 50 = .ok (.getfield 66, 3) := by decide +kernel
theorem dX7_sheet_53 : decode cX7_sheet 53 = .ok (.iload_n 1, 1) := by decide +kernel
theorem dX7_sheet_54 : decode cX7_sheet 54 = .ok (.iload_n 3, 1) := by decide +kernel
theorem dX7_sheet_55 : decode cX7_sheet 55 = .ok (.iastore, 1) := by decide +kernel
theorem dX7_sheet_56 : decode cX7_sheet 56 = .ok (.iconst 0, 1) := by decide +kernel
theorem dX7_sheet_57 : decode cX7_sheet 57 = .ok (.istore 4, 2) := by decide +kernel
theorem dX7_sheet_59 : decode cX7_sheet 59 = .ok (.iload 4, 2) := by decide +kernel
theorem dX7_sheet_61 : decode cX7_sheet 61 = .ok (.bipush 48, 2) := by decide +kernel
theorem dX7_sheet_63 : decode cX7_sheet 63 = .ok (.if_icmp .ge 22, 3) := by decide +kernel
theorem dX7_sheet_66 : decode cX7_sheet 66 = .ok (.aload_n 0, 1) := by decide +kernel
theorem dX7_sheet_67 : decode cX7_sheet 67 = .ok (.getfield 69, 3) := by decide +kernel
theorem dX7_sheet_70 : decode cX7_sheet 70 = .ok (.bipush 48, 2) := by decide +kernel
theorem dX7_sheet_72 : decode cX7_sheet 72 = .ok (.iload_n 1, 1) := by decide +kernel
theorem dX7_sheet_73 : decode cX7_sheet 73 = .ok (.imul, 1) := by decide +kernel
theorem dX7_sheet_74 : decode cX7_sheet 74 = .ok (.iload 4, 2) := by decide +kernel
theorem dX7_sheet_76 : decode cX7_sheet 76 = .ok (.iadd, 1) := by decide +kernel
theorem dX7_sheet_77 : decode cX7_sheet 77 = .ok (.iconst 0, 1) := by decide +kernel
theorem dX7_sheet_78 : decode cX7_sheet 78 = .ok (.iastore, 1) := by decide +kernel
theorem dX7_sheet_79 : decode cX7_sheet 79 = .ok (.iinc 4 1, 3) := by decide +kernel
theorem dX7_sheet_82 : decode cX7_sheet 82 = .ok (.goto (-23), 3) := by decide +kernel
theorem dX7_sheet_85 : decode cX7_sheet 85 = .ok (.iload_n 3, 1) := by decide +kernel
theorem dX7_sheet_86 : decode cX7_sheet 86 = .ok (.ireturn, 1) := by decide +kernel
theorem dX7_lose_0 : decode cX7_lose 0 = .ok (.iload_n 1, 1) := by decide +kernel
theorem dX7_lose_1 : decode cX7_lose 1 = .ok (.invokestatic 116, 3) := by decide +kernel
theorem dX7_lose_4 : decode cX7_lose 4 = .ok (.ifCond .ne 6, 3) := by decide +kernel
theorem dX7_lose_7 : decode cX7_lose 7 = .ok (.bipush (-2), 2) := by decide +kernel
theorem dX7_lose_9 : decode cX7_lose 9 = .ok (.ireturn, 1) := by decide +kernel
theorem dX7_lose_10 : decode cX7_lose 10 = .ok (.aload_n 0, 1) := by decide +kernel
theorem dX7_lose_11 : decode cX7_lose 11 = .ok (.getfield 59, 3) := by decide +kernel
theorem dX7_lose_14 : decode cX7_lose 14 = .ok (.iload_n 1, 1) := by decide +kernel
theorem dX7_lose_15 : decode cX7_lose 15 = .ok (.baload, 1) := by decide +kernel
theorem dX7_lose_16 : decode cX7_lose 16 = .ok (.ifCond .ne 9, 3) := by decide +kernel
theorem dX7_lose_19 : decode cX7_lose 19 = .ok (.aload_n 0, 1) := by decide +kernel
theorem dX7_lose_20 : decode cX7_lose 20 = .ok (.iconst 1, 1) := by decide +kernel
theorem dX7_lose_21 : decode cX7_lose 21 = .ok (.invokevirtual 119, 3) := by decide +kernel
theorem dX7_lose_24 : decode cX7_lose 24 = .ok (.ireturn, 1) := by decide +kernel
theorem dX7_lose_25 : decode cX7_lose 25 = .ok (.aload_n 0, 1) := by decide +kernel
theorem dX7_lose_26 : decode cX7_lose 26 = .ok (.getfield 59, 3) := by decide +kernel
theorem dX7_lose_29 : decode cX7_lose 29 = .ok (.iload_n 1, 1) := by decide +kernel
theorem dX7_lose_30 : decode cX7_lose 30 = .ok (.iconst 0, 1) := by decide +kernel
theorem dX7_lose_31 : decode cX7_lose 31 = .ok (.bastore, 1) := by decide +kernel
theorem dX7_lose_32 : decode cX7_lose 32 = .ok (.aload_n 0, 1) := by decide +kernel
theorem dX7_lose_33 : decode cX7_lose 33 = .ok (.getfield 66, 3) := by decide +kernel
theorem dX7_lose_36 : decode cX7_lose 36 = .ok (.iload_n 1, 1) := by decide +kernel
theorem dX7_lose_37 : decode cX7_lose 37 = .ok (.iaload, 1) := by decide +kernel
theorem dX7_lose_38 : decode cX7_lose 38 = .ok (.ireturn, 1) := by decide +kernel
theorem dX7_lacks_0 : decode cX7_lacks 0 = .ok (.aload_n 0, 1) := by decide +kernel
theorem dX7_lacks_1 : decode cX7_lacks 1 = .ok (.getfield 59, 3) := by decide +kernel
theorem dX7_lacks_4 : decode cX7_lacks 4 = .ok (.iload_n 1, 1) := by decide +kernel
theorem dX7_lacks_5 : decode cX7_lacks 5 = .ok (.baload, 1) := by decide +kernel
theorem dX7_lacks_6 : decode cX7_lacks 6 = .ok (.ifCond .ne 7, 3) := by decide +kernel
theorem dX7_lacks_9 : decode cX7_lacks 9 = .ok (.iconst 1, 1) := by decide +kernel
theorem dX7_lacks_10 : decode cX7_lacks 10 = .ok (.goto 38, 3) := by decide +kernel
theorem dX7_lacks_13 : decode cX7_lacks 13 = .ok (.aload_n 0, 1) := by decide +kernel
theorem dX7_lacks_14 : decode cX7_lacks 14 = .ok (.getfield 63, 3) := by decide +kernel
theorem dX7_lacks_17 : decode cX7_lacks 17 = .ok (.iload_n 1, 1) := by decide +kernel
theorem dX7_lacks_18 : decode cX7_lacks 18 = .ok (.iaload, 1) := by decide +kernel
theorem dX7_lacks_19 : decode cX7_lacks 19 = .ok (.iload_n 2, 1) := by decide +kernel
theorem dX7_lacks_20 : decode cX7_lacks 20 = .ok (.if_icmp .eq 7, 3) := by decide +kernel
theorem dX7_lacks_23 : decode cX7_lacks 23 = .ok (.iconst 3, 1) := by decide +kernel
theorem dX7_lacks_24 : decode cX7_lacks 24 = .ok (.goto 24, 3) := by decide +kernel
theorem dX7_lacks_27 : decode cX7_lacks 27 = .ok (.iload_n 3, 1) := by decide +kernel
theorem dX7_lacks_28 : decode cX7_lacks 28 = .ok (.iconst 0, 1) := by decide +kernel
theorem dX7_lacks_29 : decode cX7_lacks 29 = .ok (.aload_n 0, 1) := by decide +kernel
theorem dX7_lacks_30 : decode cX7_lacks 30 = .ok (.getfield 66, 3) := by decide +kernel
theorem dX7_lacks_33 : decode cX7_lacks 33 = .ok (.iload_n 1, 1) := by decide +kernel
theorem dX7_lacks_34 : decode cX7_lacks 34 = .ok (.iaload, 1) := by decide +kernel
theorem dX7_lacks_35 : decode cX7_lacks 35 = .ok (.iconst 1, 1) := by decide +kernel
theorem dX7_lacks_36 : decode cX7_lacks 36 = .ok (.isub, 1) := by decide +kernel
theorem dX7_lacks_37 : decode cX7_lacks 37 = .ok (.invokestatic 77, 3) := by decide +kernel
theorem dX7_lacks_40 : decode cX7_lacks 40 = .ok (.ifCond .eq 7, 3) := by decide +kernel
theorem dX7_lacks_43 : decode cX7_lacks 43 = .ok (.iconst 0, 1) := by decide +kernel
theorem dX7_lacks_44 : decode cX7_lacks 44 = .ok (.goto 4, 3) := by decide +kernel
theorem dX7_lacks_47 : decode cX7_lacks 47 = .ok (.iconst 2, 1) := by decide +kernel
theorem dX7_lacks_48 : decode cX7_lacks 48 = .ok (.ireturn, 1) := by decide +kernel
theorem dX7_keep_0 : decode cX7_keep 0 = .ok (.aload_n 0, 1) := by decide +kernel
theorem dX7_keep_1 : decode cX7_keep 1 = .ok (.getfield 69, 3) := by decide +kernel
theorem dX7_keep_4 : decode cX7_keep 4 = .ok (.bipush 48, 2) := by decide +kernel
theorem dX7_keep_6 : decode cX7_keep 6 = .ok (.iload_n 1, 1) := by decide +kernel
theorem dX7_keep_7 : decode cX7_keep 7 = .ok (.imul, 1) := by decide +kernel
theorem dX7_keep_8 : decode cX7_keep 8 = .ok (.iload_n 2, 1) := by decide +kernel
theorem dX7_keep_9 : decode cX7_keep 9 = .ok (.iadd, 1) := by decide +kernel
theorem dX7_keep_10 : decode cX7_keep 10 = .ok (.aload_n 0, 1) := by decide +kernel
theorem dX7_keep_11 : decode cX7_keep 11 = .ok (.getfield 63, 3) := by decide +kernel
theorem dX7_keep_14 : decode cX7_keep 14 = .ok (.iload_n 1, 1) := by decide +kernel
theorem dX7_keep_15 : decode cX7_keep 15 = .ok (.iaload, 1) := by decide +kernel
theorem dX7_keep_16 : decode cX7_keep 16 = .ok (.ifCond .ne 8, 3) := by decide +kernel
theorem dX7_keep_19 : decode cX7_keep 19 = .ok (.iload_n 3, 1) := by decide +kernel
theorem dX7_keep_20 : decode cX7_keep 20 = .ok (.i2b, 1) := by decide +kernel
theorem dX7_keep_21 : decode cX7_keep 21 = .ok (.goto 19, 3) := by decide +kernel
theorem dX7_keep_24 : decode cX7_keep 24 = .ok (.aload_n 0, 1) := by decide +kernel
theorem dX7_keep_25 : decode cX7_keep 25 = .ok (.getfield 63, 3) := by decide +kernel
theorem dX7_keep_28 : decode cX7_keep 28 = .ok (.iload_n 1, 1) := by decide +kernel
theorem dX7_keep_29 : decode cX7_keep 29 = .ok (.iaload, 1) := by decide +kernel
theorem dX7_keep_30 : decode cX7_keep 30 = .ok (.iconst 1, 1) := by decide +kernel
theorem dX7_keep_31 : decode cX7_keep 31 = .ok (.if_icmp .ne 8, 3) := by decide +kernel
theorem dX7_keep_34 : decode cX7_keep 34 = .ok (.iload_n 3, 1) := by decide +kernel
theorem dX7_keep_35 : decode cX7_keep 35 = .ok (.i2s, 1) := by decide +kernel
theorem dX7_keep_36 : decode cX7_keep 36 = .ok (.goto 4, 3) := by decide +kernel
theorem dX7_keep_39 : decode cX7_keep 39 = .ok (.iload_n 3, 1) := by decide +kernel
theorem dX7_keep_40 : decode cX7_keep 40 = .ok (.iastore, 1) := by decide +kernel
theorem dX7_keep_41 : decode cX7_keep 41 = .ok (.return_, 1) := by decide +kernel
theorem dX7_put_0 : decode cX7_put 0 = .ok (.iload_n 1, 1) := by decide +kernel
theorem dX7_put_1 : decode cX7_put 1 = .ok (.invokestatic 116, 3) := by decide +kernel
theorem dX7_put_4 : decode cX7_put 4 = .ok (.ifCond .eq 12, 3) := by decide +kernel
theorem dX7_put_7 : decode cX7_put 7 = .ok (.iload_n 2, 1) := by decide +kernel
theorem dX7_put_8 : decode cX7_put 8 = .ok (.iconst 0, 1) := by decide +kernel
theorem dX7_put_9 : decode cX7_put 9 = .ok (.iconst 2, 1) := by decide +kernel
theorem dX7_put_10 : decode cX7_put 10 = .ok (.invokestatic 77, 3) := by decide +kernel
theorem dX7_put_13 : decode cX7_put 13 = .ok (.ifCond .ne 6, 3) := by decide +kernel
theorem dX7_put_16 : decode cX7_put 16 = .ok (.bipush (-2), 2) := by decide +kernel
theorem dX7_put_18 : decode cX7_put 18 = .ok (.ireturn, 1) := by decide +kernel
theorem dX7_put_19 : decode cX7_put 19 = .ok (.aload_n 0, 1) := by decide +kernel
theorem dX7_put_20 : decode cX7_put 20 = .ok (.iload_n 1, 1) := by decide +kernel
theorem dX7_put_21 : decode cX7_put 21 = .ok (.iload_n 2, 1) := by decide +kernel
theorem dX7_put_22 : decode cX7_put 22 = .ok (.iload_n 3, 1) := by decide +kernel
theorem dX7_put_23 : decode cX7_put 23 = .ok (.invokevirtual 224, 3) := by decide +kernel
theorem dX7_put_26 : decode cX7_put 26 = .ok (.istore 5, 2) := by decide +kernel
theorem dX7_put_28 : decode cX7_put 28 = .ok (.iload 5, 2) := by decide +kernel
theorem dX7_put_30 : decode cX7_put 30 = .ok (.ifCond .le 10, 3) := by decide +kernel
theorem dX7_put_33 : decode cX7_put 33 = .ok (.aload_n 0, 1) := by decide +kernel
theorem dX7_put_34 : decode cX7_put 34 = .ok (.iload 5, 2) := by decide +kernel
theorem dX7_put_36 : decode cX7_put 36 = .ok (.invokevirtual 119, 3) := by decide +kernel
theorem dX7_put_39 : decode cX7_put 39 = .ok (.ireturn, 1) := by decide +kernel
theorem dX7_put_40 : decode cX7_put 40 = .ok (.aload_n 0, 1) := by decide +kernel
theorem dX7_put_41 : decode cX7_put 41 = .ok (.iload_n 1, 1) := by decide +kernel
theorem dX7_put_42 : decode cX7_put 42 = .ok (.iload_n 3, 1) := by decide +kernel
theorem dX7_put_43 : decode cX7_put 43 = .ok (.iload 4, 2) := by decide +kernel
theorem dX7_put_45 : decode cX7_put 45 = .ok (.invokevirtual 227, 3) := by decide +kernel
theorem dX7_put_48 : decode cX7_put 48 = .ok (.iconst 1, 1) := by decide +kernel
theorem dX7_put_49 : decode cX7_put 49 = .ok (.ireturn, 1) := by decide +kernel
theorem dX7_get_0 : decode cX7_get 0 = .ok (.iload_n 1, 1) := by decide +kernel
theorem dX7_get_1 : decode cX7_get 1 = .ok (.invokestatic 116, 3) := by decide +kernel
theorem dX7_get_4 : decode cX7_get 4 = .ok (.ifCond .eq 12, 3) := by decide +kernel
theorem dX7_get_7 : decode cX7_get 7 = .ok (.iload_n 2, 1) := by decide +kernel
theorem dX7_get_8 : decode cX7_get 8 = .ok (.iconst 0, 1) := by decide +kernel
theorem dX7_get_9 : decode cX7_get 9 = .ok (.iconst 2, 1) := by decide +kernel
theorem dX7_get_10 : decode cX7_get 10 = .ok (.invokestatic 77, 3) := by decide +kernel
theorem dX7_get_13 : decode cX7_get 13 = .ok (.ifCond .ne 6, 3) := by decide +kernel
theorem dX7_get_16 : decode cX7_get 16 = .ok (.ldc 231, 2) := by decide +kernel
theorem dX7_get_18 : decode cX7_get 18 = .ok (.ireturn, 1) := by decide +kernel
theorem dX7_get_19 : decode cX7_get 19 = .ok (.aload_n 0, 1) := by decide +kernel
theorem dX7_get_20 : decode cX7_get 20 = .ok (.iload_n 1, 1) := by decide +kernel
theorem dX7_get_21 : decode cX7_get 21 = .ok (.iload_n 2, 1) := by decide +kernel
theorem dX7_get_22 : decode cX7_get 22 = .ok (.iload_n 3, 1) := by decide +kernel
theorem dX7_get_23 : decode cX7_get 23 = .ok (.invokevirtual 224, 3) := by decide +kernel
theorem dX7_get_26 : decode cX7_get 26 = .ok (.istore 4, 2) := by decide +kernel
theorem dX7_get_28 : decode cX7_get 28 = .ok (.iload 4, 2) := by decide +kernel
theorem dX7_get_30 : decode cX7_get 30 = .ok (.ifCond .le 12, 3) := by decide +kernel
theorem dX7_get_33 : decode cX7_get 33 = .ok (.aload_n 0, 1) := by decide +kernel
theorem dX7_get_34 : decode cX7_get 34 = .ok (.iload 4, 2) := by decide +kernel
theorem dX7_get_36 : decode cX7_get 36 = .ok (.putfield 221, 3) := by decide +kernel
theorem dX7_get_39 : decode cX7_get 39 = .ok (.ldc 231, 2) := by decide +kernel
theorem dX7_get_41 : decode cX7_get 41 = .ok (.ireturn, 1) := by decide +kernel
theorem dX7_get_42 : decode cX7_get 42 = .ok (.aload_n 0, 1) := by decide +kernel
theorem dX7_get_43 : decode cX7_get 43 = .ok (.getfield 69, 3) := by decide +kernel
theorem dX7_get_46 : decode cX7_get 46 = .ok (.bipush 48, 2) := by decide +kernel
theorem dX7_get_48 : decode cX7_get 48 = .ok (.iload_n 1, 1) := by decide +kernel
theorem dX7_get_49 : decode cX7_get 49 = .ok (.imul, 1) := by decide +kernel
theorem dX7_get_50 : decode cX7_get 50 = .ok (.iload_n 3, 1) := by decide +kernel
theorem dX7_get_51 : decode cX7_get 51 = .ok (.iadd, 1) := by decide +kernel
theorem dX7_get_52 : decode cX7_get 52 = .ok (.iaload, 1) := by decide +kernel
theorem dX7_get_53 : decode cX7_get 53 = .ok (.ireturn, 1) := by decide +kernel
theorem dX7_copy_0 : decode cX7_copy 0 = .ok (.iload_n 1, 1) := by decide +kernel
theorem dX7_copy_1 : decode cX7_copy 1 = .ok (.invokestatic 116, 3) := by decide +kernel
theorem dX7_copy_4 : decode cX7_copy 4 = .ok (.ifCond .eq 10, 3) := by decide +kernel
theorem dX7_copy_7 : decode cX7_copy 7 = .ok (.iload_n 3, 1) := by decide +kernel
theorem dX7_copy_8 : decode cX7_copy 8 = .ok (.invokestatic 116, 3) := by decide +kernel
theorem dX7_copy_11 : decode cX7_copy 11 = .ok (.ifCond .ne 6, 3) := by decide +kernel
theorem dX7_copy_14 : decode cX7_copy 14 = .ok (.bipush (-2), 2) := by decide +kernel
theorem dX7_copy_16 : decode cX7_copy 16 = .ok (.ireturn, 1) := by decide +kernel
theorem dX7_copy_17 : decode cX7_copy 17 = .ok (.aload_n 0, 1) := by decide +kernel
theorem dX7_copy_18 : decode cX7_copy 18 = .ok (.getfield 59, 3) := by decide +kernel
theorem dX7_copy_21 : decode cX7_copy 21 = .ok (.iload_n 1, 1) := by decide +kernel
theorem dX7_copy_22 : decode cX7_copy 22 = .ok (.baload, 1) := by decide +kernel
theorem dX7_copy_23 : decode cX7_copy 23 = .ok (.ifCond .eq 12, 3) := by decide +kernel
theorem dX7_copy_26 : decode cX7_copy 26 = .ok (.aload_n 0, 1) := by decide +kernel
theorem dX7_copy_27 : decode cX7_copy 27 = .ok (.getfield 59, 3) := by decide +kernel
theorem dX7_copy_30 : decode cX7_copy 30 = .ok (.iload_n 3, 1) := by decide +kernel
theorem dX7_copy_31 : decode cX7_copy 31 = .ok (.baload, 1) := by decide +kernel
theorem dX7_copy_32 : decode cX7_copy 32 = .ok (.ifCond .ne 9, 3) := by decide +kernel
theorem dX7_copy_35 : decode cX7_copy 35 = .ok (.aload_n 0, 1) := by decide +kernel
theorem dX7_copy_36 : decode cX7_copy 36 = .ok (.iconst 1, 1) := by decide +kernel
theorem dX7_copy_37 : decode cX7_copy 37 = .ok (.invokevirtual 119, 3) := by decide +kernel
theorem dX7_copy_40 : decode cX7_copy 40 = .ok (.ireturn, 1) := by decide +kernel
theorem dX7_copy_41 : decode cX7_copy 41 = .ok (.aload_n 0, 1) := by decide +kernel
theorem dX7_copy_42 : decode cX7_copy 42 = .ok (.getfield 63, 3) := by decide +kernel
theorem dX7_copy_45 : decode cX7_copy 45 = .ok (.iload_n 1, 1) := by decide +kernel
theorem dX7_copy_46 : decode cX7_copy 46 = .ok (.iaload, 1) := by decide +kernel
theorem dX7_copy_47 : decode cX7_copy 47 = .ok (.aload_n 0, 1) := by decide +kernel
theorem dX7_copy_48 : decode cX7_copy 48 = .ok (.getfield 63, 3) := by decide +kernel
theorem dX7_copy_51 : decode cX7_copy 51 = .ok (.iload_n 3, 1) := by decide +kernel
theorem dX7_copy_52 : decode cX7_copy 52 = .ok (.iaload, 1) := by decide +kernel
theorem dX7_copy_53 : decode cX7_copy 53 = .ok (.if_icmp .eq 9, 3) := by decide +kernel
theorem dX7_copy_56 : decode cX7_copy 56 = .ok (.aload_n 0, 1) := by decide +kernel
theorem dX7_copy_57 : decode cX7_copy 57 = .ok (.iconst 4, 1) := by decide +kernel
theorem dX7_copy_58 : decode cX7_copy 58 = .ok (.invokevirtual 119, 3) := by decide +kernel
theorem dX7_copy_61 : decode cX7_copy 61 = .ok (.ireturn, 1) := by decide +kernel
theorem dX7_copy_62 : decode cX7_copy 62 = .ok (.iload_n 2, 1) := by decide +kernel
theorem dX7_copy_63 : decode cX7_copy 63 = .ok (.ifCond .lt 48, 3) := by decide +kernel
theorem dX7_copy_66 : decode cX7_copy 66 = .ok (.iload 4, 2) := by decide +kernel
theorem dX7_copy_68 : decode cX7_copy 68 = .ok (.ifCond .lt 43, 3) := by decide +kernel
theorem dX7_copy_71 : decode cX7_copy 71 = .ok (.iload 5, 2) := by decide +kernel
theorem dX7_copy_73 : decode cX7_copy 73 = .ok (.ifCond .lt 38, 3) := by decide +kernel
theorem dX7_copy_76 : decode cX7_copy 76 = .ok (.iload_n 2, 1) := by decide +kernel
theorem dX7_copy_77 : decode cX7_copy 77 = .ok (.i2l, 1) := by decide +kernel
theorem dX7_copy_78 : decode cX7_copy 78 = .ok (.iload 5, 2) := by decide +kernel
theorem dX7_copy_80 : decode cX7_copy 80 = .ok (.i2l, 1) := by decide +kernel
theorem dX7_copy_81 : decode cX7_copy 81 = .ok (.ladd, 1) := by decide +kernel
theorem dX7_copy_82 : decode cX7_copy 82 = .ok (.aload_n 0, 1) := by decide +kernel
theorem dX7_copy_83 : decode cX7_copy 83 = .ok (.getfield 66, 3) := by decide +kernel
theorem dX7_copy_86 : decode cX7_copy 86 = .ok (.iload_n 1, 1) := by decide +kernel
theorem dX7_copy_87 : decode cX7_copy 87 = .ok (.iaload, 1) := by decide +kernel
theorem dX7_copy_88 : decode cX7_copy 88 = .ok (.i2l, 1) := by decide +kernel
theorem dX7_copy_89 : decode cX7_copy 89 = .ok (.lcmp, 1) := by decide +kernel
theorem dX7_copy_90 : decode cX7_copy 90 = .ok (.ifCond .gt 21, 3) := by decide +kernel
theorem dX7_copy_93 : decode cX7_copy 93 = .ok (.iload 4, 2) := by decide +kernel
theorem dX7_copy_95 : decode cX7_copy 95 = .ok (.i2l, 1) := by decide +kernel
theorem dX7_copy_96 : decode cX7_copy 96 = .ok (.iload 5, 2) := by decide +kernel
theorem dX7_copy_98 : decode cX7_copy 98 = .ok (.i2l, 1) := by decide +kernel
theorem dX7_copy_99 : decode cX7_copy 99 = .ok (.ladd, 1) := by decide +kernel
theorem dX7_copy_100 : decode cX7_copy 100 = .ok (.aload_n 0, 1) := by decide +kernel
theorem dX7_copy_101 : decode cX7_copy 101 = .ok (.getfield 66, 3) := by decide +kernel
theorem dX7_copy_104 : decode cX7_copy 104 = .ok (.iload_n 3, 1) := by decide +kernel
theorem dX7_copy_105 : decode cX7_copy 105 = .ok (.iaload, 1) := by decide +kernel
theorem dX7_copy_106 : decode cX7_copy 106 = .ok (.i2l, 1) := by decide +kernel
theorem dX7_copy_107 : decode cX7_copy 107 = .ok (.lcmp, 1) := by decide +kernel
theorem dX7_copy_108 : decode cX7_copy 108 = .ok (.ifCond .le 9, 3) := by decide +kernel
theorem dX7_copy_111 : decode cX7_copy 111 = .ok (.aload_n 0, 1) := by decide +kernel
theorem dX7_copy_112 : decode cX7_copy 112 = .ok (.iconst 2, 1) := by decide +kernel
theorem dX7_copy_113 : decode cX7_copy 113 = .ok (.invokevirtual 119, 3) := by decide +kernel
theorem dX7_copy_116 : decode cX7_copy 116 = .ok (.ireturn, 1) := by decide +kernel
theorem dX7_copy_117 : decode cX7_copy 117 = .ok (.iconst 0, 1) := by decide +kernel
theorem dX7_copy_118 : decode cX7_copy 118 = .ok (.istore 6, 2) := by decide +kernel
theorem dX7_copy_120 : decode cX7_copy 120 = .ok (.iload 6, 2) := by decide +kernel
theorem dX7_copy_122 : decode cX7_copy 122 = .ok (.iload 5, 2) := by decide +kernel
theorem dX7_copy_124 : decode cX7_copy 124 = .ok (.if_icmp .ge 30, 3) := by decide +kernel
theorem dX7_copy_127 : decode cX7_copy 127 = .ok (.aload_n 0, 1) := by decide +kernel
theorem dX7_copy_128 : decode cX7_copy 128 = .ok (.getfield 72, 3) := by decide +kernel
theorem dX7_copy_131 : decode cX7_copy 131 = .ok (.iload 6, 2) := by decide +kernel
theorem dX7_copy_133 : decode cX7_copy 133 = .ok (.aload_n 0, 1) := by decide +kernel
theorem dX7_copy_134 : decode cX7_copy 134 = .ok (.getfield 69, 3) := by decide +kernel
theorem dX7_copy_137 : decode cX7_copy 137 = .ok (.bipush 48, 2) := by decide +kernel
theorem dX7_copy_139 : decode cX7_copy 139 = .ok (.iload_n 1, 1) := by decide +kernel
theorem dX7_copy_140 : decode cX7_copy 140 = .ok (.imul, 1) := by decide +kernel
theorem dX7_copy_141 : decode cX7_copy 141 = .ok (.iload_n 2, 1) := by decide +kernel
theorem dX7_copy_142 : decode cX7_copy 142 = .ok (.iadd, 1) := by decide +kernel
theorem dX7_copy_143 : decode cX7_copy 143 = .ok (.iload 6, 2) := by decide +kernel
theorem dX7_copy_145 : decode cX7_copy 145 = .ok (.iadd, 1) := by decide +kernel
theorem dX7_copy_146 : decode cX7_copy 146 = .ok (.iaload, 1) := by decide +kernel
theorem dX7_copy_147 : decode cX7_copy 147 = .ok (.iastore, 1) := by decide +kernel
theorem dX7_copy_148 : decode cX7_copy 148 = .ok (.iinc 6 1, 3) := by decide +kernel
theorem dX7_copy_151 : decode cX7_copy 151 = .ok (.goto (-31), 3) := by decide +kernel
theorem dX7_copy_154 : decode cX7_copy 154 = .ok (.iconst 0, 1) := by decide +kernel
theorem dX7_copy_155 : decode cX7_copy 155 = .ok (.istore 6, 2) := by decide +kernel
theorem dX7_copy_157 : decode cX7_copy 157 = .ok (.iload 6, 2) := by decide +kernel
theorem dX7_copy_159 : decode cX7_copy 159 = .ok (.iload 5, 2) := by decide +kernel
theorem dX7_copy_161 : decode cX7_copy 161 = .ok (.if_icmp .ge 31, 3) := by decide +kernel
theorem dX7_copy_164 : decode cX7_copy 164 = .ok (.aload_n 0, 1) := by decide +kernel
theorem dX7_copy_165 : decode cX7_copy 165 = .ok (.getfield 69, 3) := by decide +kernel
theorem dX7_copy_168 : decode cX7_copy 168 = .ok (.bipush 48, 2) := by decide +kernel
theorem dX7_copy_170 : decode cX7_copy 170 = .ok (.iload_n 3, 1) := by decide +kernel
theorem dX7_copy_171 : decode cX7_copy 171 = .ok (.imul, 1) := by decide +kernel
theorem dX7_copy_172 : decode cX7_copy 172 = .ok (.iload 4, 2) := by decide +kernel
theorem dX7_copy_174 : decode cX7_copy 174 = .ok (.iadd, 1) := by decide +kernel
theorem dX7_copy_175 : decode cX7_copy 175 = .ok (.iload 6, 2) := by decide +kernel
theorem dX7_copy_177 : decode cX7_copy 177 = .ok (.iadd, 1) := by decide +kernel
theorem dX7_copy_178 : decode cX7_copy 178 = .ok (.aload_n 0, 1) := by decide +kernel
theorem dX7_copy_179 : decode cX7_copy 179 = .ok (.getfield 72, 3) := by decide +kernel
theorem dX7_copy_182 : decode cX7_copy 182 = .ok (.iload 6, 2) := by decide +kernel
theorem dX7_copy_184 : decode cX7_copy 184 = .ok (.iaload, 1) := by decide +kernel
theorem dX7_copy_185 : decode cX7_copy 185 = .ok (.iastore, 1) := by decide +kernel
theorem dX7_copy_186 : decode cX7_copy 186 = .ok (.iinc 6 1, 3) := by decide +kernel
theorem dX7_copy_189 : decode cX7_copy 189 = .ok (.goto (-32), 3) := by decide +kernel
theorem dX7_copy_192 : decode cX7_copy 192 = .ok (.iconst 1, 1) := by decide +kernel
theorem dX7_copy_193 : decode cX7_copy 193 = .ok (.ireturn, 1) := by decide +kernel
theorem dX7_write_0 : decode cX7_write 0 = .ok (.iload_n 1, 1) := by decide +kernel
theorem dX7_write_1 : decode cX7_write 1 = .ok (.invokestatic 113, 3) := by decide +kernel
theorem dX7_write_4 : decode cX7_write 4 = .ok (.ifCond .eq 10, 3) := by decide +kernel
theorem dX7_write_7 : decode cX7_write 7 = .ok (.iload_n 2, 1) := by decide +kernel
theorem dX7_write_8 : decode cX7_write 8 = .ok (.invokestatic 116, 3) := by decide +kernel
theorem dX7_write_11 : decode cX7_write 11 = .ok (.ifCond .ne 6, 3) := by decide +kernel
theorem dX7_write_14 : decode cX7_write 14 = .ok (.bipush (-2), 2) := by decide +kernel
theorem dX7_write_16 : decode cX7_write 16 = .ok (.ireturn, 1) := by decide +kernel
theorem dX7_write_17 : decode cX7_write 17 = .ok (.aload_n 0, 1) := by decide +kernel
theorem dX7_write_18 : decode cX7_write 18 = .ok (.getfield 59, 3) := by decide +kernel
theorem dX7_write_21 : decode cX7_write 21 = .ok (.iload_n 2, 1) := by decide +kernel
theorem dX7_write_22 : decode cX7_write 22 = .ok (.baload, 1) := by decide +kernel
theorem dX7_write_23 : decode cX7_write 23 = .ok (.ifCond .ne 9, 3) := by decide +kernel
theorem dX7_write_26 : decode cX7_write 26 = .ok (.aload_n 0, 1) := by decide +kernel
theorem dX7_write_27 : decode cX7_write 27 = .ok (.iconst 1, 1) := by decide +kernel

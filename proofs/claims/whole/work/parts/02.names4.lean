/-! decode rows, copied from claim/NAMES.whole.lean.txt -/
theorem dX6_table_105 : decode cX6_table 105 = .ok (.ireturn, 1) := by decide +kernel
theorem dX6_table_106 : decode cX6_table 106 = .ok (.aload_n 0, 1) := by decide +kernel
theorem dX6_table_107 : decode cX6_table 107 = .ok (.iload_n 1, 1) := by decide +kernel
theorem dX6_table_108 : decode cX6_table 108 = .ok (.iload_n 1, 1) := by decide +kernel
theorem dX6_table_109 : decode cX6_table 109 = .ok (.invokevirtual 209, 3) := by decide +kernel
theorem dX6_table_112 : decode cX6_table 112 = .ok (.ireturn, 1) := by decide +kernel
theorem dX6_table_113 : decode cX6_table 113 = .ok (.aload_n 0, 1) := by decide +kernel
theorem dX6_table_114 : decode cX6_table 114 = .ok (.aload_n 3, 1) := by decide +kernel
theorem dX6_table_115 : decode cX6_table 115 = .ok (.invokevirtual 173, 3) := by decide +kernel
theorem dX6_table_118 : decode cX6_table 118 = .ok (.ireturn, 1) := by decide +kernel
theorem dX6_table_119 : decode cX6_table 119 = .ok (.aload_n 0, 1) := by decide +kernel
theorem dX6_table_120 : decode cX6_table 120 = .ok (.aload_n 3, 1) := by decide +kernel
theorem dX6_table_121 : decode cX6_table 121 = .ok (.invokevirtual 173, 3) := by decide +kernel
theorem dX6_table_124 : decode cX6_table 124 = .ok (.pop, 1) := by decide +kernel
theorem dX6_table_125 : decode cX6_table 125 = .ok (.aload_n 0, 1) := by decide +kernel
theorem dX6_table_126 : decode cX6_table 126 = .ok (.getfield 43, 3) := by decide +kernel
theorem dX6_table_129 : decode cX6_table 129 = .ok (.invokevirtual 156, 3) := by decide +kernel
theorem dX6_table_132 : decode cX6_table 132 = .ok (.ireturn, 1) := by decide +kernel
theorem dX6_table_133 : decode cX6_table 133 = .ok (.aload_n 0, 1) := by decide +kernel
theorem dX6_table_134 : decode cX6_table 134 = .ok (.aload_n 3, 1) := by decide +kernel
theorem dX6_table_135 : decode cX6_table 135 = .ok (.invokevirtual 212, 3) := by decide +kernel
theorem dX6_table_138 : decode cX6_table 138 = .ok (.ireturn, 1) := by decide +kernel
theorem dX6_table_139 : decode cX6_table 139 = .ok (.aload_n 3, 1) := by decide +kernel
theorem dX6_table_140 : decode cX6_table 140 = .ok (.invokevirtual 215, 3) := by decide +kernel
theorem dX6_table_143 : decode cX6_table 143 = .ok (.ireturn, 1) := by decide +kernel
theorem dX6_table_144 : decode cX6_table 144 = .ok (.bipush (-2), 2) := by decide +kernel
theorem dX6_table_146 : decode cX6_table 146 = .ok (.ireturn, 1) := by decide +kernel
theorem dX7_determinantOf_0 : decode cX7_determinantOf 0 = .ok (.aload_n 0, 1) := by decide +kernel
theorem dX7_determinantOf_1 : decode cX7_determinantOf 1 = .ok (.iload_n 1, 1) := by decide +kernel
theorem dX7_determinantOf_2 : decode cX7_determinantOf 2 = .ok (.iconst 0, 1) := by decide +kernel
theorem dX7_determinantOf_3 : decode cX7_determinantOf 3 = .ok (.iconst 0, 1) := by decide +kernel
theorem dX7_determinantOf_4 : decode cX7_determinantOf 4 = .ok (.bipush 8, 2) := by decide +kernel
theorem dX7_determinantOf_6 : decode cX7_determinantOf 6 = .ok (.invokevirtual 100, 3) := by decide +kernel
theorem dX7_determinantOf_9 : decode cX7_determinantOf 9 = .ok (.aload_n 0, 1) := by decide +kernel
theorem dX7_determinantOf_10 : decode cX7_determinantOf 10 = .ok (.bipush 8, 2) := by decide +kernel
theorem dX7_determinantOf_12 : decode cX7_determinantOf 12 = .ok (.bipush 8, 2) := by decide +kernel
theorem dX7_determinantOf_14 : decode cX7_determinantOf 14 = .ok (.invokevirtual 103, 3) := by decide +kernel
theorem dX7_determinantOf_17 : decode cX7_determinantOf 17 = .ok (.bipush 8, 2) := by decide +kernel
theorem dX7_determinantOf_19 : decode cX7_determinantOf 19 = .ok (.if_icmp .ge 7, 3) := by decide +kernel
theorem dX7_determinantOf_22 : decode cX7_determinantOf 22 = .ok (.iconst 0, 1) := by decide +kernel
theorem dX7_determinantOf_23 : decode cX7_determinantOf 23 = .ok (.goto 7, 3) := by decide +kernel
theorem dX7_determinantOf_26 : decode cX7_determinantOf 26 = .ok (.aload_n 0, 1) := by decide +kernel
theorem dX7_determinantOf_27 : decode cX7_determinantOf 27 = .ok (.getfield 80, 3) := by decide +kernel
theorem dX7_determinantOf_30 : decode cX7_determinantOf 30 = .ok (.ireturn, 1) := by decide +kernel
theorem dX7_diagonal_0 : decode cX7_diagonal 0 = .ok (.iconst 0, 1) := by decide +kernel
theorem dX7_diagonal_1 : decode cX7_diagonal 1 = .ok (.istore_n 2, 1) := by decide +kernel
theorem dX7_diagonal_2 : decode cX7_diagonal 2 = .ok (.iconst 0, 1) := by decide +kernel
theorem dX7_diagonal_3 : decode cX7_diagonal 3 = .ok (.istore_n 3, 1) := by decide +kernel
theorem dX7_diagonal_4 : decode cX7_diagonal 4 = .ok (.iload_n 3, 1) := by decide +kernel
theorem dX7_diagonal_5 : decode cX7_diagonal 5 = .ok (.bipush 8, 2) := by decide +kernel
theorem dX7_diagonal_7 : decode cX7_diagonal 7 = .ok (.if_icmp .ge 19, 3) := by decide +kernel
theorem dX7_diagonal_10 : decode cX7_diagonal 10 = .ok (.iload_n 2, 1) := by decide +kernel
theorem dX7_diagonal_11 : decode cX7_diagonal 11 = .ok (.aload_n 0, 1) := by decide +kernel
theorem dX7_diagonal_12 : decode cX7_diagonal 12 = .ok (.iload_n 1, 1) := by decide +kernel
theorem dX7_diagonal_13 : decode cX7_diagonal 13 = .ok (.iload_n 3, 1) := by decide +kernel
theorem dX7_diagonal_14 : decode cX7_diagonal 14 = .ok (.iload_n 3, 1) := by decide +kernel
theorem dX7_diagonal_15 : decode cX7_diagonal 15 = .ok (.invokevirtual 139, 3) := by decide +kernel
theorem dX7_diagonal_18 : decode cX7_diagonal 18 = .ok (.iadd, 1) := by decide +kernel
theorem dX7_diagonal_19 : decode cX7_diagonal 19 = .ok (.istore_n 2, 1) := by decide +kernel
theorem dX7_diagonal_20 : decode cX7_diagonal 20 = .ok (.iinc 3 1, 3) := by decide +kernel
theorem dX7_diagonal_23 : decode cX7_diagonal 23 = .ok (.goto (-19), 3) := by decide +kernel
theorem dX7_diagonal_26 : decode cX7_diagonal 26 = .ok (.aload_n 0, 1) := by decide +kernel
theorem dX7_diagonal_27 : decode cX7_diagonal 27 = .ok (.iload_n 2, 1) := by decide +kernel
theorem dX7_diagonal_28 : decode cX7_diagonal 28 = .ok (.invokevirtual 54, 3) := by decide +kernel
theorem dX7_diagonal_31 : decode cX7_diagonal 31 = .ok (.ireturn, 1) := by decide +kernel
theorem dX7_overLeaves_0 : decode cX7_overLeaves 0 = .ok (.iconst 0, 1) := by decide +kernel
theorem dX7_overLeaves_1 : decode cX7_overLeaves 1 = .ok (.istore_n 3, 1) := by decide +kernel
theorem dX7_overLeaves_2 : decode cX7_overLeaves 2 = .ok (.iconst 0, 1) := by decide +kernel
theorem dX7_overLeaves_3 : decode cX7_overLeaves 3 = .ok (.istore 4, 2) := by decide +kernel
theorem dX7_overLeaves_5 : decode cX7_overLeaves 5 = .ok (.iload 4, 2) := by decide +kernel
theorem dX7_overLeaves_7 : decode cX7_overLeaves 7 = .ok (.bipush 64, 2) := by decide +kernel
theorem dX7_overLeaves_9 : decode cX7_overLeaves 9 = .ok (.if_icmp .ge 76, 3) := by decide +kernel
theorem dX7_overLeaves_12 : decode cX7_overLeaves 12 = .ok (.aload_n 0, 1) := by decide +kernel
theorem dX7_overLeaves_13 : decode cX7_overLeaves 13 = .ok (.iload_n 1, 1) := by decide +kernel
theorem dX7_overLeaves_14 : decode cX7_overLeaves 14 = .ok (.iload 4, 2) := by decide +kernel
theorem dX7_overLeaves_16 : decode cX7_overLeaves 16 = .ok (.invokevirtual 76, 3) := by decide +kernel
theorem dX7_overLeaves_19 : decode cX7_overLeaves 19 = .ok (.istore 5, 2) := by decide +kernel
theorem dX7_overLeaves_21 : decode cX7_overLeaves 21 = .ok (.iload_n 2, 1) := by decide +kernel
theorem dX7_overLeaves_22 : decode cX7_overLeaves 22 = .ok (.ifCond .eq 15, 3) := by decide +kernel
theorem dX7_overLeaves_25 : decode cX7_overLeaves 25 = .ok (.aload_n 0, 1) := by decide +kernel
theorem dX7_overLeaves_26 : decode cX7_overLeaves 26 = .ok (.iload_n 1, 1) := by decide +kernel
theorem dX7_overLeaves_27 : decode cX7_overLeaves 27 = .ok (.iload 4, 2) := by decide +kernel
theorem dX7_overLeaves_29 : decode cX7_overLeaves 29 = .ok (.iload 5, 2) := by decide +kernel
theorem dX7_overLeaves_31 : decode cX7_overLeaves 31 = .ok (.invokevirtual 109, 3) := by decide +kernel
theorem dX7_overLeaves_34 : decode cX7_overLeaves 34 = .ok (.goto 12, 3) := by decide +kernel
theorem dX7_overLeaves_37 : decode cX7_overLeaves 37 = .ok (.aload_n 0, 1) := by decide +kernel
theorem dX7_overLeaves_38 : decode cX7_overLeaves 38 = .ok (.iload_n 1, 1) := by decide +kernel
theorem dX7_overLeaves_39 : decode cX7_overLeaves 39 = .ok (.iload 4, 2) := by decide +kernel
theorem dX7_overLeaves_41 : decode cX7_overLeaves 41 = .ok (.iload 5, 2) := by decide +kernel
theorem dX7_overLeaves_43 : decode cX7_overLeaves 43 = .ok (.invokevirtual 106, 3) := by decide +kernel
theorem dX7_overLeaves_46 : decode cX7_overLeaves 46 = .ok (.istore 6, 2) := by decide +kernel
theorem dX7_overLeaves_48 : decode cX7_overLeaves 48 = .ok (.iload_n 2, 1) := by decide +kernel
theorem dX7_overLeaves_49 : decode cX7_overLeaves 49 = .ok (.ifCond .eq 10, 3) := by decide +kernel
theorem dX7_overLeaves_52 : decode cX7_overLeaves 52 = .ok (.iload_n 3, 1) := by decide +kernel
theorem dX7_overLeaves_53 : decode cX7_overLeaves 53 = .ok (.iload 6, 2) := by decide +kernel
theorem dX7_overLeaves_55 : decode cX7_overLeaves 55 = .ok (.iadd, 1) := by decide +kernel
theorem dX7_overLeaves_56 : decode cX7_overLeaves 56 = .ok (.goto 15, 3) := by decide +kernel
theorem dX7_overLeaves_59 : decode cX7_overLeaves 59 = .ok (.iload 6, 2) := by decide +kernel
theorem dX7_overLeaves_61 : decode cX7_overLeaves 61 = .ok (.iload_n 3, 1) := by decide +kernel
theorem dX7_overLeaves_62 : decode cX7_overLeaves 62 = .ok (.if_icmp .le 8, 3) := by decide +kernel
theorem dX7_overLeaves_65 : decode cX7_overLeaves 65 = .ok (.iload 6, 2) := by decide +kernel
theorem dX7_overLeaves_67 : decode cX7_overLeaves 67 = .ok (.goto 4, 3) := by decide +kernel
theorem dX7_overLeaves_70 : decode cX7_overLeaves 70 = .ok (.iload_n 3, 1) := by decide +kernel
theorem dX7_overLeaves_71 : decode cX7_overLeaves 71 = .ok (.istore_n 3, 1) := by decide +kernel
theorem dX7_overLeaves_72 : decode cX7_overLeaves 72 = .ok (.iload 4, 2) := by decide +kernel
theorem dX7_overLeaves_74 : decode cX7_overLeaves 74 = .ok (.iload 5, 2) := by decide +kernel
theorem dX7_overLeaves_76 : decode cX7_overLeaves 76 = .ok (.iload 5, 2) := by decide +kernel
theorem dX7_overLeaves_78 : decode cX7_overLeaves 78 = .ok (.imul, 1) := by decide +kernel
theorem dX7_overLeaves_79 : decode cX7_overLeaves 79 = .ok (.iadd, 1) := by decide +kernel
theorem dX7_overLeaves_80 : decode cX7_overLeaves 80 = .ok (.istore 4, 2) := by decide +kernel
theorem dX7_overLeaves_82 : decode cX7_overLeaves 82 = .ok (.goto (-77), 3) := by decide +kernel
theorem dX7_overLeaves_85 : decode cX7_overLeaves 85 = .ok (.iload_n 3, 1) := by decide +kernel
theorem dX7_overLeaves_86 : decode cX7_overLeaves 86 = .ok (.ireturn, 1) := by decide +kernel
theorem dX7_leastLeaves_0 : decode cX7_leastLeaves 0 = .ok (.iconst 1, 1) := by decide +kernel
theorem dX7_leastLeaves_1 : decode cX7_leastLeaves 1 = .ok (.istore_n 1, 1) := by decide +kernel
theorem dX7_leastLeaves_2 : decode cX7_leastLeaves 2 = .ok (.iconst 0, 1) := by decide +kernel
theorem dX7_leastLeaves_3 : decode cX7_leastLeaves 3 = .ok (.istore_n 2, 1) := by decide +kernel
theorem dX7_leastLeaves_4 : decode cX7_leastLeaves 4 = .ok (.iload_n 2, 1) := by decide +kernel
theorem dX7_leastLeaves_5 : decode cX7_leastLeaves 5 = .ok (.bipush 21, 2) := by decide +kernel
theorem dX7_leastLeaves_7 : decode cX7_leastLeaves 7 = .ok (.if_icmp .ge 26, 3) := by decide +kernel
theorem dX7_leastLeaves_10 : decode cX7_leastLeaves 10 = .ok (.iload_n 1, 1) := by decide +kernel
theorem dX7_leastLeaves_11 : decode cX7_leastLeaves 11 = .ok (.aload_n 0, 1) := by decide +kernel
theorem dX7_leastLeaves_12 : decode cX7_leastLeaves 12 = .ok (.getfield 35, 3) := by decide +kernel
theorem dX7_leastLeaves_15 : decode cX7_leastLeaves 15 = .ok (.iload_n 2, 1) := by decide +kernel
theorem dX7_leastLeaves_16 : decode cX7_leastLeaves 16 = .ok (.baload, 1) := by decide +kernel
theorem dX7_leastLeaves_17 : decode cX7_leastLeaves 17 = .ok (.ifCond .eq 7, 3) := by decide +kernel
theorem dX7_leastLeaves_20 : decode cX7_leastLeaves 20 = .ok (.iconst 3, 1) := by decide +kernel
theorem dX7_leastLeaves_21 : decode cX7_leastLeaves 21 = .ok (.goto 4, 3) := by decide +kernel
theorem dX7_leastLeaves_24 : decode cX7_leastLeaves 24 = .ok (.iconst 0, 1) := by decide +kernel
theorem dX7_leastLeaves_25 : decode cX7_leastLeaves 25 = .ok (.iadd, 1) := by decide +kernel
theorem dX7_leastLeaves_26 : decode cX7_leastLeaves 26 = .ok (.istore_n 1, 1) := by decide +kernel
theorem dX7_leastLeaves_27 : decode cX7_leastLeaves 27 = .ok (.iinc 2 1, 3) := by decide +kernel
theorem dX7_leastLeaves_30 : decode cX7_leastLeaves 30 = .ok (.goto (-26), 3) := by decide +kernel
theorem dX7_leastLeaves_33 : decode cX7_leastLeaves 33 = .ok (.iload_n 1, 1) := by decide +kernel
theorem dX7_leastLeaves_34 : decode cX7_leastLeaves 34 = .ok (.ireturn, 1) := by decide +kernel
theorem dX7_notZero_0 : decode cX7_notZero 0 = .ok (.iconst 0, 1) := by decide +kernel
theorem dX7_notZero_1 : decode cX7_notZero 1 = .ok (.istore_n 2, 1) := by decide +kernel
theorem dX7_notZero_2 : decode cX7_notZero 2 = .ok (.iconst 0, 1) := by decide +kernel
theorem dX7_notZero_3 : decode cX7_notZero 3 = .ok (.istore_n 3, 1) := by decide +kernel
theorem dX7_notZero_4 : decode cX7_notZero 4 = .ok (.iload_n 3, 1) := by decide +kernel
theorem dX7_notZero_5 : decode cX7_notZero 5 = .ok (.bipush 64, 2) := by decide +kernel
theorem dX7_notZero_7 : decode cX7_notZero 7 = .ok (.if_icmp .ge 33, 3) := by decide +kernel
theorem dX7_notZero_10 : decode cX7_notZero 10 = .ok (.iload_n 2, 1) := by decide +kernel
theorem dX7_notZero_11 : decode cX7_notZero 11 = .ok (.aload_n 0, 1) := by decide +kernel
theorem dX7_notZero_12 : decode cX7_notZero 12 = .ok (.getfield 7, 3) := by decide +kernel
theorem dX7_notZero_15 : decode cX7_notZero 15 = .ok (.iconst 1, 1) := by decide +kernel
theorem dX7_notZero_16 : decode cX7_notZero 16 = .ok (.bipush 64, 2) := by decide +kernel
theorem dX7_notZero_18 : decode cX7_notZero 18 = .ok (.iload_n 1, 1) := by decide +kernel
theorem dX7_notZero_19 : decode cX7_notZero 19 = .ok (.imul, 1) := by decide +kernel
theorem dX7_notZero_20 : decode cX7_notZero 20 = .ok (.iadd, 1) := by decide +kernel
theorem dX7_notZero_21 : decode cX7_notZero 21 = .ok (.iload_n 3, 1) := by decide +kernel
theorem dX7_notZero_22 : decode cX7_notZero 22 = .ok (.iadd, 1) := by decide +kernel
theorem dX7_notZero_23 : decode cX7_notZero 23 = .ok (.iaload, 1) := by decide +kernel
theorem dX7_notZero_24 : decode cX7_notZero 24 = .ok (.ifCond .ne 7, 3) := by decide +kernel
theorem dX7_notZero_27 : decode cX7_notZero 27 = .ok (.iconst 0, 1) := by decide +kernel
theorem dX7_notZero_28 : decode cX7_notZero 28 = .ok (.goto 4, 3) := by decide +kernel
theorem dX7_notZero_31 : decode cX7_notZero 31 = .ok (.iconst 1, 1) := by decide +kernel
theorem dX7_notZero_32 : decode cX7_notZero 32 = .ok (.iadd, 1) := by decide +kernel
theorem dX7_notZero_33 : decode cX7_notZero 33 = .ok (.istore_n 2, 1) := by decide +kernel
theorem dX7_notZero_34 : decode cX7_notZero 34 = .ok (.iinc 3 1, 3) := by decide +kernel
theorem dX7_notZero_37 : decode cX7_notZero 37 = .ok (.goto (-33), 3) := by decide +kernel
theorem dX7_notZero_40 : decode cX7_notZero 40 = .ok (.iload_n 2, 1) := by decide +kernel
theorem dX7_notZero_41 : decode cX7_notZero 41 = .ok (.ireturn, 1) := by decide +kernel
theorem dX7_table_0 : decode cX7_table 0 = .ok (.iload_n 1, 1) := by decide +kernel
theorem dX7_table_1 : decode cX7_table 1 = .ok (.invokestatic 62, 3) := by decide +kernel
theorem dX7_table_4 : decode cX7_table 4 = .ok (.ifCond .eq 5, 3) := by decide +kernel
theorem dX7_table_7 : decode cX7_table 7 = .ok (.iconst (-1), 1) := by decide +kernel
theorem dX7_table_8 : decode cX7_table 8 = .ok (.ireturn, 1) := by decide +kernel
theorem dX7_table_9 : decode cX7_table 9 = .ok (.iload_n 2, 1) := by decide +kernel
theorem dX7_table_10 : decode cX7_table 10 = .ok (.tableswitch 121 0 8 #[50, 59, 65, 71, 79, 86, 98, 108, 115], 50) := by decide +kernel
theorem dX7_table_60 : decode cX7_table 60 = .ok (.aload_n 0, 1) := by decide +kernel
theorem dX7_table_61 : decode cX7_table 61 = .ok (.iload_n 1, 1) := by decide +kernel
theorem dX7_table_62 : decode cX7_table 62 = .ok (.iconst 0, 1) := by decide +kernel
theorem dX7_table_63 : decode cX7_table 63 = .ok (.bipush 8, 2) := by decide +kernel
theorem dX7_table_65 : decode cX7_table 65 = .ok (.invokevirtual 106, 3) := by decide +kernel
theorem dX7_table_68 : decode cX7_table 68 = .ok (.ireturn, 1) := by decide +kernel
theorem dX7_table_69 : decode cX7_table 69 = .ok (.aload_n 0, 1) := by decide +kernel
theorem dX7_table_70 : decode cX7_table 70 = .ok (.iload_n 1, 1) := by decide +kernel
theorem dX7_table_71 : decode cX7_table 71 = .ok (.invokevirtual 163, 3) := by decide +kernel
theorem dX7_table_74 : decode cX7_table 74 = .ok (.ireturn, 1) := by decide +kernel
theorem dX7_table_75 : decode cX7_table 75 = .ok (.aload_n 0, 1) := by decide +kernel
theorem dX7_table_76 : decode cX7_table 76 = .ok (.iload_n 1, 1) := by decide +kernel
theorem dX7_table_77 : decode cX7_table 77 = .ok (.invokevirtual 166, 3) := by decide +kernel
theorem dX7_table_80 : decode cX7_table 80 = .ok (.ireturn, 1) := by decide +kernel
theorem dX7_table_81 : decode cX7_table 81 = .ok (.aload_n 0, 1) := by decide +kernel
theorem dX7_table_82 : decode cX7_table 82 = .ok (.iload_n 1, 1) := by decide +kernel
theorem dX7_table_83 : decode cX7_table 83 = .ok (.bipush 64, 2) := by decide +kernel
theorem dX7_table_85 : decode cX7_table 85 = .ok (.invokevirtual 157, 3) := by decide +kernel
theorem dX7_table_88 : decode cX7_table 88 = .ok (.ireturn, 1) := by decide +kernel
theorem dX7_table_89 : decode cX7_table 89 = .ok (.aload_n 0, 1) := by decide +kernel
theorem dX7_table_90 : decode cX7_table 90 = .ok (.iload_n 1, 1) := by decide +kernel
theorem dX7_table_91 : decode cX7_table 91 = .ok (.iconst 1, 1) := by decide +kernel
theorem dX7_table_92 : decode cX7_table 92 = .ok (.invokevirtual 169, 3) := by decide +kernel
theorem dX7_table_95 : decode cX7_table 95 = .ok (.ireturn, 1) := by decide +kernel
theorem dX7_table_96 : decode cX7_table 96 = .ok (.aload_n 0, 1) := by decide +kernel
theorem dX7_table_97 : decode cX7_table 97 = .ok (.iload_n 1, 1) := by decide +kernel
theorem dX7_table_98 : decode cX7_table 98 = .ok (.invokevirtual 160, 3) := by decide +kernel
theorem dX7_table_101 : decode cX7_table 101 = .ok (.aload_n 0, 1) := by decide +kernel
theorem dX7_table_102 : decode cX7_table 102 = .ok (.getfield 32, 3) := by decide +kernel
theorem dX7_table_105 : decode cX7_table 105 = .ok (.iconst 0, 1) := by decide +kernel
theorem dX7_table_106 : decode cX7_table 106 = .ok (.iaload, 1) := by decide +kernel
theorem dX7_table_107 : decode cX7_table 107 = .ok (.ireturn, 1) := by decide +kernel
theorem dX7_table_108 : decode cX7_table 108 = .ok (.aload_n 0, 1) := by decide +kernel
theorem dX7_table_109 : decode cX7_table 109 = .ok (.iload_n 1, 1) := by decide +kernel
theorem dX7_table_110 : decode cX7_table 110 = .ok (.invokevirtual 160, 3) := by decide +kernel
theorem dX7_table_113 : decode cX7_table 113 = .ok (.aload_n 0, 1) := by decide +kernel
theorem dX7_table_114 : decode cX7_table 114 = .ok (.invokevirtual 173, 3) := by decide +kernel
theorem dX7_table_117 : decode cX7_table 117 = .ok (.ireturn, 1) := by decide +kernel
theorem dX7_table_118 : decode cX7_table 118 = .ok (.aload_n 0, 1) := by decide +kernel
theorem dX7_table_119 : decode cX7_table 119 = .ok (.iload_n 1, 1) := by decide +kernel
theorem dX7_table_120 : decode cX7_table 120 = .ok (.iconst 0, 1) := by decide +kernel
theorem dX7_table_121 : decode cX7_table 121 = .ok (.invokevirtual 169, 3) := by decide +kernel
theorem dX7_table_124 : decode cX7_table 124 = .ok (.ireturn, 1) := by decide +kernel
theorem dX7_table_125 : decode cX7_table 125 = .ok (.aload_n 0, 1) := by decide +kernel
theorem dX7_table_126 : decode cX7_table 126 = .ok (.iload_n 1, 1) := by decide +kernel
theorem dX7_table_127 : decode cX7_table 127 = .ok (.invokevirtual 177, 3) := by decide +kernel
theorem dX7_table_130 : decode cX7_table 130 = .ok (.ireturn, 1) := by decide +kernel
theorem dX7_table_131 : decode cX7_table 131 = .ok (.bipush (-2), 2) := by decide +kernel
theorem dX7_table_133 : decode cX7_table 133 = .ok (.ireturn, 1) := by decide +kernel
theorem dX6_leaf_0 : decode cX6_leaf 0 = .ok (.aload_n 0, 1) := by decide +kernel
theorem dX6_leaf_1 : decode cX6_leaf 1 = .ok (.iload_n 1, 1) := by decide +kernel
theorem dX6_leaf_2 : decode cX6_leaf 2 = .ok (.iload_n 2, 1) := by decide +kernel
theorem dX6_leaf_3 : decode cX6_leaf 3 = .ok (.invokevirtual 90, 3) := by decide +kernel
theorem dX6_leaf_6 : decode cX6_leaf 6 = .ok (.istore 4, 2) := by decide +kernel
theorem dX6_leaf_8 : decode cX6_leaf 8 = .ok (.iload 4, 2) := by decide +kernel
theorem dX6_leaf_10 : decode cX6_leaf 10 = .ok (.iconst (-1), 1) := by decide +kernel
theorem dX6_leaf_11 : decode cX6_leaf 11 = .ok (.if_icmp .ne 5, 3) := by decide +kernel
theorem dX6_leaf_14 : decode cX6_leaf 14 = .ok (.iconst (-1), 1) := by decide +kernel
theorem dX6_leaf_15 : decode cX6_leaf 15 = .ok (.ireturn, 1) := by decide +kernel
theorem dX6_leaf_16 : decode cX6_leaf 16 = .ok (.aload_n 0, 1) := by decide +kernel
theorem dX6_leaf_17 : decode cX6_leaf 17 = .ok (.getfield 12, 3) := by decide +kernel
theorem dX6_leaf_20 : decode cX6_leaf 20 = .ok (.iload_n 1, 1) := by decide +kernel
theorem dX6_leaf_21 : decode cX6_leaf 21 = .ok (.invokevirtual 76, 3) := by decide +kernel
theorem dX6_leaf_24 : decode cX6_leaf 24 = .ok (.astore 5, 2) := by decide +kernel
theorem dX6_leaf_26 : decode cX6_leaf 26 = .ok (.aload 5, 2) := by decide +kernel
theorem dX6_leaf_28 : decode cX6_leaf 28 = .ok (.getfield 93, 3) := by decide +kernel
theorem dX6_leaf_31 : decode cX6_leaf 31 = .ok (.iload 4, 2) := by decide +kernel
theorem dX6_leaf_33 : decode cX6_leaf 33 = .ok (.invokevirtual 96, 3) := by decide +kernel
theorem dX6_leaf_36 : decode cX6_leaf 36 = .ok (.istore 6, 2) := by decide +kernel
theorem dX6_leaf_38 : decode cX6_leaf 38 = .ok (.iload_n 3, 1) := by decide +kernel
theorem dX6_leaf_39 : decode cX6_leaf 39 = .ok (.tableswitch 108 0 5 #[37, 43, 49, 52, 63, 79], 37) := by decide +kernel
theorem dX6_leaf_76 : decode cX6_leaf 76 = .ok (.iload 4, 2) := by decide +kernel
theorem dX6_leaf_78 : decode cX6_leaf 78 = .ok (.invokestatic 218, 3) := by decide +kernel
theorem dX6_leaf_81 : decode cX6_leaf 81 = .ok (.ireturn, 1) := by decide +kernel
theorem dX6_leaf_82 : decode cX6_leaf 82 = .ok (.iload 4, 2) := by decide +kernel
theorem dX6_leaf_84 : decode cX6_leaf 84 = .ok (.invokestatic 221, 3) := by decide +kernel
theorem dX6_leaf_87 : decode cX6_leaf 87 = .ok (.ireturn, 1) := by decide +kernel
theorem dX6_leaf_88 : decode cX6_leaf 88 = .ok (.iload 6, 2) := by decide +kernel
theorem dX6_leaf_90 : decode cX6_leaf 90 = .ok (.ireturn, 1) := by decide +kernel
theorem dX6_leaf_91 : decode cX6_leaf 91 = .ok (.aload_n 0, 1) := by decide +kernel
theorem dX6_leaf_92 : decode cX6_leaf 92 = .ok (.aload 5, 2) := by decide +kernel
theorem dX6_leaf_94 : decode cX6_leaf 94 = .ok (.iload 4, 2) := by decide +kernel
theorem dX6_leaf_96 : decode cX6_leaf 96 = .ok (.iload 6, 2) := by decide +kernel
theorem dX6_leaf_98 : decode cX6_leaf 98 = .ok (.invokevirtual 111, 3) := by decide +kernel
theorem dX6_leaf_101 : decode cX6_leaf 101 = .ok (.ireturn, 1) := by decide +kernel
theorem dX6_leaf_102 : decode cX6_leaf 102 = .ok (.iload 6, 2) := by decide +kernel
theorem dX6_leaf_104 : decode cX6_leaf 104 = .ok (.aload_n 0, 1) := by decide +kernel
theorem dX6_leaf_105 : decode cX6_leaf 105 = .ok (.aload 5, 2) := by decide +kernel
theorem dX6_leaf_107 : decode cX6_leaf 107 = .ok (.iload 4, 2) := by decide +kernel
theorem dX6_leaf_109 : decode cX6_leaf 109 = .ok (.iload 6, 2) := by decide +kernel
theorem dX6_leaf_111 : decode cX6_leaf 111 = .ok (.invokevirtual 111, 3) := by decide +kernel
theorem dX6_leaf_114 : decode cX6_leaf 114 = .ok (.invokestatic 224, 3) := by decide +kernel
theorem dX6_leaf_117 : decode cX6_leaf 117 = .ok (.ireturn, 1) := by decide +kernel
theorem dX6_leaf_118 : decode cX6_leaf 118 = .ok (.iconst 2, 1) := by decide +kernel
theorem dX6_leaf_119 : decode cX6_leaf 119 = .ok (.iload 6, 2) := by decide +kernel
theorem dX6_leaf_121 : decode cX6_leaf 121 = .ok (.imul, 1) := by decide +kernel
theorem dX6_leaf_122 : decode cX6_leaf 122 = .ok (.aload_n 0, 1) := by decide +kernel
theorem dX6_leaf_123 : decode cX6_leaf 123 = .ok (.aload 5, 2) := by decide +kernel
theorem dX6_leaf_125 : decode cX6_leaf 125 = .ok (.iload 4, 2) := by decide +kernel
theorem dX6_leaf_127 : decode cX6_leaf 127 = .ok (.iload 6, 2) := by decide +kernel
theorem dX6_leaf_129 : decode cX6_leaf 129 = .ok (.invokevirtual 111, 3) := by decide +kernel
theorem dX6_leaf_132 : decode cX6_leaf 132 = .ok (.imul, 1) := by decide +kernel
theorem dX6_leaf_133 : decode cX6_leaf 133 = .ok (.iload 6, 2) := by decide +kernel
theorem dX6_leaf_135 : decode cX6_leaf 135 = .ok (.iload 6, 2) := by decide +kernel
theorem dX6_leaf_137 : decode cX6_leaf 137 = .ok (.imul, 1) := by decide +kernel
theorem dX6_leaf_138 : decode cX6_leaf 138 = .ok (.if_icmp .ge 7, 3) := by decide +kernel
theorem dX6_leaf_141 : decode cX6_leaf 141 = .ok (.iconst 1, 1) := by decide +kernel
theorem dX6_leaf_142 : decode cX6_leaf 142 = .ok (.goto 4, 3) := by decide +kernel
theorem dX6_leaf_145 : decode cX6_leaf 145 = .ok (.iconst 0, 1) := by decide +kernel
theorem dX6_leaf_146 : decode cX6_leaf 146 = .ok (.ireturn, 1) := by decide +kernel
theorem dX6_leaf_147 : decode cX6_leaf 147 = .ok (.bipush (-2), 2) := by decide +kernel
theorem dX6_leaf_149 : decode cX6_leaf 149 = .ok (.ireturn, 1) := by decide +kernel
theorem dX7_leaf_0 : decode cX7_leaf 0 = .ok (.aload_n 0, 1) := by decide +kernel
theorem dX7_leaf_1 : decode cX7_leaf 1 = .ok (.iload_n 1, 1) := by decide +kernel
theorem dX7_leaf_2 : decode cX7_leaf 2 = .ok (.iload_n 2, 1) := by decide +kernel
theorem dX7_leaf_3 : decode cX7_leaf 3 = .ok (.invokevirtual 130, 3) := by decide +kernel
theorem dX7_leaf_6 : decode cX7_leaf 6 = .ok (.ifCond .eq 5, 3) := by decide +kernel
theorem dX7_leaf_9 : decode cX7_leaf 9 = .ok (.iconst (-1), 1) := by decide +kernel
theorem dX7_leaf_10 : decode cX7_leaf 10 = .ok (.ireturn, 1) := by decide +kernel
theorem dX7_leaf_11 : decode cX7_leaf 11 = .ok (.aload_n 0, 1) := by decide +kernel
theorem dX7_leaf_12 : decode cX7_leaf 12 = .ok (.iload_n 1, 1) := by decide +kernel
theorem dX7_leaf_13 : decode cX7_leaf 13 = .ok (.iload_n 2, 1) := by decide +kernel
theorem dX7_leaf_14 : decode cX7_leaf 14 = .ok (.invokevirtual 127, 3) := by decide +kernel
theorem dX7_leaf_17 : decode cX7_leaf 17 = .ok (.istore 4, 2) := by decide +kernel
theorem dX7_leaf_19 : decode cX7_leaf 19 = .ok (.aload_n 0, 1) := by decide +kernel
theorem dX7_leaf_20 : decode cX7_leaf 20 = .ok (.iload_n 1, 1) := by decide +kernel
theorem dX7_leaf_21 : decode cX7_leaf 21 = .ok (.iload 4, 2) := by decide +kernel
theorem dX7_leaf_23 : decode cX7_leaf 23 = .ok (.invokevirtual 76, 3) := by decide +kernel
theorem dX7_leaf_26 : decode cX7_leaf 26 = .ok (.istore 5, 2) := by decide +kernel
theorem dX7_leaf_28 : decode cX7_leaf 28 = .ok (.iload_n 3, 1) := by decide +kernel
theorem dX7_leaf_29 : decode cX7_leaf 29 = .ok (.tableswitch 96 0 5 #[39, 45, 51, 54, 64, 74], 39) := by decide +kernel
theorem dX7_leaf_68 : decode cX7_leaf 68 = .ok (.iload 4, 2) := by decide +kernel
theorem dX7_leaf_70 : decode cX7_leaf 70 = .ok (.invokestatic 94, 3) := by decide +kernel
theorem dX7_leaf_73 : decode cX7_leaf 73 = .ok (.ireturn, 1) := by decide +kernel
theorem dX7_leaf_74 : decode cX7_leaf 74 = .ok (.iload 4, 2) := by decide +kernel
theorem dX7_leaf_76 : decode cX7_leaf 76 = .ok (.invokestatic 97, 3) := by decide +kernel
theorem dX7_leaf_79 : decode cX7_leaf 79 = .ok (.ireturn, 1) := by decide +kernel
theorem dX7_leaf_80 : decode cX7_leaf 80 = .ok (.iload 5, 2) := by decide +kernel
theorem dX7_leaf_82 : decode cX7_leaf 82 = .ok (.ireturn, 1) := by decide +kernel
theorem dX7_leaf_83 : decode cX7_leaf 83 = .ok (.aload_n 0, 1) := by decide +kernel
theorem dX7_leaf_84 : decode cX7_leaf 84 = .ok (.iload_n 1, 1) := by decide +kernel
theorem dX7_leaf_85 : decode cX7_leaf 85 = .ok (.iload 4, 2) := by decide +kernel
theorem dX7_leaf_87 : decode cX7_leaf 87 = .ok (.iload 5, 2) := by decide +kernel
theorem dX7_leaf_89 : decode cX7_leaf 89 = .ok (.invokevirtual 106, 3) := by decide +kernel
theorem dX7_leaf_92 : decode cX7_leaf 92 = .ok (.ireturn, 1) := by decide +kernel
theorem dX7_leaf_93 : decode cX7_leaf 93 = .ok (.aload_n 0, 1) := by decide +kernel
theorem dX7_leaf_94 : decode cX7_leaf 94 = .ok (.iload_n 1, 1) := by decide +kernel
theorem dX7_leaf_95 : decode cX7_leaf 95 = .ok (.iload 4, 2) := by decide +kernel
theorem dX7_leaf_97 : decode cX7_leaf 97 = .ok (.iload 5, 2) := by decide +kernel
theorem dX7_leaf_99 : decode cX7_leaf 99 = .ok (.invokevirtual 109, 3) := by decide +kernel
theorem dX7_leaf_102 : decode cX7_leaf 102 = .ok (.ireturn, 1) := by decide +kernel
theorem dX7_leaf_103 : decode cX7_leaf 103 = .ok (.iconst 2, 1) := by decide +kernel
theorem dX7_leaf_104 : decode cX7_leaf 104 = .ok (.aload_n 0, 1) := by decide +kernel
theorem dX7_leaf_105 : decode cX7_leaf 105 = .ok (.iload_n 1, 1) := by decide +kernel
theorem dX7_leaf_106 : decode cX7_leaf 106 = .ok (.iload 4, 2) := by decide +kernel
theorem dX7_leaf_108 : decode cX7_leaf 108 = .ok (.iload 5, 2) := by decide +kernel
theorem dX7_leaf_110 : decode cX7_leaf 110 = .ok (.invokevirtual 106, 3) := by decide +kernel
theorem dX7_leaf_113 : decode cX7_leaf 113 = .ok (.imul, 1) := by decide +kernel
theorem dX7_leaf_114 : decode cX7_leaf 114 = .ok (.iload 5, 2) := by decide +kernel
theorem dX7_leaf_116 : decode cX7_leaf 116 = .ok (.if_icmp .ge 7, 3) := by decide +kernel
theorem dX7_leaf_119 : decode cX7_leaf 119 = .ok (.iconst 1, 1) := by decide +kernel
theorem dX7_leaf_120 : decode cX7_leaf 120 = .ok (.goto 4, 3) := by decide +kernel
theorem dX7_leaf_123 : decode cX7_leaf 123 = .ok (.iconst 0, 1) := by decide +kernel
theorem dX7_leaf_124 : decode cX7_leaf 124 = .ok (.ireturn, 1) := by decide +kernel
theorem dX7_leaf_125 : decode cX7_leaf 125 = .ok (.bipush (-2), 2) := by decide +kernel
theorem dX7_leaf_127 : decode cX7_leaf 127 = .ok (.ireturn, 1) := by decide +kernel
theorem dX5_spread_0 : decode cX5_spread 0 = .ok (.iload_n 0, 1) := by decide +kernel
theorem dX5_spread_1 : decode cX5_spread 1 = .ok (.iconst 4, 1) := by decide +kernel
theorem dX5_spread_2 : decode cX5_spread 2 = .ok (.iand, 1) := by decide +kernel
theorem dX5_spread_3 : decode cX5_spread 3 = .ok (.iconst 2, 1) := by decide +kernel
theorem dX5_spread_4 : decode cX5_spread 4 = .ok (.ishl, 1) := by decide +kernel
theorem dX5_spread_5 : decode cX5_spread 5 = .ok (.iload_n 0, 1) := by decide +kernel
theorem dX5_spread_6 : decode cX5_spread 6 = .ok (.iconst 2, 1) := by decide +kernel
theorem dX5_spread_7 : decode cX5_spread 7 = .ok (.iand, 1) := by decide +kernel
theorem dX5_spread_8 : decode cX5_spread 8 = .ok (.iconst 1, 1) := by decide +kernel
theorem dX5_spread_9 : decode cX5_spread 9 = .ok (.ishl, 1) := by decide +kernel
theorem dX5_spread_10 : decode cX5_spread 10 = .ok (.ior, 1) := by decide +kernel
theorem dX5_spread_11 : decode cX5_spread 11 = .ok (.iload_n 0, 1) := by decide +kernel
theorem dX5_spread_12 : decode cX5_spread 12 = .ok (.iconst 1, 1) := by decide +kernel
theorem dX5_spread_13 : decode cX5_spread 13 = .ok (.iand, 1) := by decide +kernel
theorem dX5_spread_14 : decode cX5_spread 14 = .ok (.ior, 1) := by decide +kernel
theorem dX5_spread_15 : decode cX5_spread 15 = .ok (.ireturn, 1) := by decide +kernel
theorem dX5_stepOf_0 : decode cX5_stepOf 0 = .ok (.iload_n 0, 1) := by decide +kernel
theorem dX5_stepOf_1 : decode cX5_stepOf 1 = .ok (.invokestatic 19, 3) := by decide +kernel
theorem dX5_stepOf_4 : decode cX5_stepOf 4 = .ok (.iconst 1, 1) := by decide +kernel
theorem dX5_stepOf_5 : decode cX5_stepOf 5 = .ok (.ishl, 1) := by decide +kernel
theorem dX5_stepOf_6 : decode cX5_stepOf 6 = .ok (.iload_n 1, 1) := by decide +kernel
theorem dX5_stepOf_7 : decode cX5_stepOf 7 = .ok (.invokestatic 19, 3) := by decide +kernel
theorem dX5_stepOf_10 : decode cX5_stepOf 10 = .ok (.ior, 1) := by decide +kernel
theorem dX5_stepOf_11 : decode cX5_stepOf 11 = .ok (.ireturn, 1) := by decide +kernel
theorem dX6_leafAt_0 : decode cX6_leafAt 0 = .ok (.iload_n 1, 1) := by decide +kernel
theorem dX6_leafAt_1 : decode cX6_leafAt 1 = .ok (.invokestatic 70, 3) := by decide +kernel
theorem dX6_leafAt_4 : decode cX6_leafAt 4 = .ok (.ifCond .eq 17, 3) := by decide +kernel
theorem dX6_leafAt_7 : decode cX6_leafAt 7 = .ok (.iload_n 2, 1) := by decide +kernel
theorem dX6_leafAt_8 : decode cX6_leafAt 8 = .ok (.invokestatic 73, 3) := by decide +kernel
theorem dX6_leafAt_11 : decode cX6_leafAt 11 = .ok (.ifCond .eq 10, 3) := by decide +kernel
theorem dX6_leafAt_14 : decode cX6_leafAt 14 = .ok (.iload_n 3, 1) := by decide +kernel
theorem dX6_leafAt_15 : decode cX6_leafAt 15 = .ok (.invokestatic 73, 3) := by decide +kernel
theorem dX6_leafAt_18 : decode cX6_leafAt 18 = .ok (.ifCond .ne 5, 3) := by decide +kernel
theorem dX6_leafAt_21 : decode cX6_leafAt 21 = .ok (.iconst (-1), 1) := by decide +kernel
theorem dX6_leafAt_22 : decode cX6_leafAt 22 = .ok (.ireturn, 1) := by decide +kernel
theorem dX6_leafAt_23 : decode cX6_leafAt 23 = .ok (.iload_n 2, 1) := by decide +kernel
theorem dX6_leafAt_24 : decode cX6_leafAt 24 = .ok (.iload_n 3, 1) := by decide +kernel
theorem dX6_leafAt_25 : decode cX6_leafAt 25 = .ok (.invokestatic 227, 3) := by decide +kernel
theorem dX6_leafAt_28 : decode cX6_leafAt 28 = .ok (.istore 4, 2) := by decide +kernel
theorem dX6_leafAt_30 : decode cX6_leafAt 30 = .ok (.aload_n 0, 1) := by decide +kernel
theorem dX6_leafAt_31 : decode cX6_leafAt 31 = .ok (.getfield 12, 3) := by decide +kernel
theorem dX6_leafAt_34 : decode cX6_leafAt 34 = .ok (.iload_n 1, 1) := by decide +kernel
theorem dX6_leafAt_35 : decode cX6_leafAt 35 = .ok (.invokevirtual 76, 3) := by decide +kernel
theorem dX6_leafAt_38 : decode cX6_leafAt 38 = .ok (.getfield 93, 3) := by decide +kernel
theorem dX6_leafAt_41 : decode cX6_leafAt 41 = .ok (.iload 4, 2) := by decide +kernel
theorem dX6_leafAt_43 : decode cX6_leafAt 43 = .ok (.iconst 1, 1) := by decide +kernel
theorem dX6_leafAt_44 : decode cX6_leafAt 44 = .ok (.iadd, 1) := by decide +kernel
theorem dX6_leafAt_45 : decode cX6_leafAt 45 = .ok (.invokevirtual 170, 3) := by decide +kernel
theorem dX6_leafAt_48 : decode cX6_leafAt 48 = .ok (.iconst 1, 1) := by decide +kernel
theorem dX6_leafAt_49 : decode cX6_leafAt 49 = .ok (.isub, 1) := by decide +kernel
theorem dX6_leafAt_50 : decode cX6_leafAt 50 = .ok (.ireturn, 1) := by decide +kernel
theorem dX7_leafAt_0 : decode cX7_leafAt 0 = .ok (.iload_n 1, 1) := by decide +kernel
theorem dX7_leafAt_1 : decode cX7_leafAt 1 = .ok (.invokestatic 62, 3) := by decide +kernel
theorem dX7_leafAt_4 : decode cX7_leafAt 4 = .ok (.ifCond .ne 17, 3) := by decide +kernel
theorem dX7_leafAt_7 : decode cX7_leafAt 7 = .ok (.iload_n 2, 1) := by decide +kernel
theorem dX7_leafAt_8 : decode cX7_leafAt 8 = .ok (.invokestatic 65, 3) := by decide +kernel
theorem dX7_leafAt_11 : decode cX7_leafAt 11 = .ok (.ifCond .ne 10, 3) := by decide +kernel
theorem dX7_leafAt_14 : decode cX7_leafAt 14 = .ok (.iload_n 3, 1) := by decide +kernel
theorem dX7_leafAt_15 : decode cX7_leafAt 15 = .ok (.invokestatic 65, 3) := by decide +kernel
theorem dX7_leafAt_18 : decode cX7_leafAt 18 = .ok (.ifCond .eq 5, 3) := by decide +kernel
theorem dX7_leafAt_21 : decode cX7_leafAt 21 = .ok (.iconst (-1), 1) := by decide +kernel
theorem dX7_leafAt_22 : decode cX7_leafAt 22 = .ok (.ireturn, 1) := by decide +kernel
theorem dX7_leafAt_23 : decode cX7_leafAt 23 = .ok (.iconst 0, 1) := by decide +kernel
theorem dX7_leafAt_24 : decode cX7_leafAt 24 = .ok (.istore 4, 2) := by decide +kernel
theorem dX7_leafAt_26 : decode cX7_leafAt 26 = .ok (.iload 4, 2) := by decide +kernel
theorem dX7_leafAt_28 : decode cX7_leafAt 28 = .ok (.invokestatic 94, 3) := by decide +kernel
theorem dX7_leafAt_31 : decode cX7_leafAt 31 = .ok (.iload_n 2, 1) := by decide +kernel
theorem dX7_leafAt_32 : decode cX7_leafAt 32 = .ok (.if_icmp .ne 12, 3) := by decide +kernel
theorem dX7_leafAt_35 : decode cX7_leafAt 35 = .ok (.iload 4, 2) := by decide +kernel
theorem dX7_leafAt_37 : decode cX7_leafAt 37 = .ok (.invokestatic 97, 3) := by decide +kernel
theorem dX7_leafAt_40 : decode cX7_leafAt 40 = .ok (.iload_n 3, 1) := by decide +kernel
theorem dX7_leafAt_41 : decode cX7_leafAt 41 = .ok (.if_icmp .eq 9, 3) := by decide +kernel
theorem dX7_leafAt_44 : decode cX7_leafAt 44 = .ok (.iinc 4 1, 3) := by decide +kernel
theorem dX7_leafAt_47 : decode cX7_leafAt 47 = .ok (.goto (-21), 3) := by decide +kernel
theorem dX7_leafAt_50 : decode cX7_leafAt 50 = .ok (.aload_n 0, 1) := by decide +kernel
theorem dX7_leafAt_51 : decode cX7_leafAt 51 = .ok (.iload_n 1, 1) := by decide +kernel
theorem dX7_leafAt_52 : decode cX7_leafAt 52 = .ok (.iload 4, 2) := by decide +kernel
theorem dX7_leafAt_54 : decode cX7_leafAt 54 = .ok (.iconst 1, 1) := by decide +kernel
theorem dX7_leafAt_55 : decode cX7_leafAt 55 = .ok (.iadd, 1) := by decide +kernel
theorem dX7_leafAt_56 : decode cX7_leafAt 56 = .ok (.invokevirtual 157, 3) := by decide +kernel
theorem dX7_leafAt_59 : decode cX7_leafAt 59 = .ok (.iconst 1, 1) := by decide +kernel
theorem dX7_leafAt_60 : decode cX7_leafAt 60 = .ok (.isub, 1) := by decide +kernel
theorem dX7_leafAt_61 : decode cX7_leafAt 61 = .ok (.ireturn, 1) := by decide +kernel
theorem dX3_cellsUnlike_0 : decode cX3_cellsUnlike 0 = .ok (.iconst 0, 1) := by decide +kernel
theorem dX3_cellsUnlike_1 : decode cX3_cellsUnlike 1 = .ok (.istore_n 2, 1) := by decide +kernel
theorem dX3_cellsUnlike_2 : decode cX3_cellsUnlike 2 = .ok (.iconst 0, 1) := by decide +kernel
theorem dX3_cellsUnlike_3 : decode cX3_cellsUnlike 3 = .ok (.istore_n 3, 1) := by decide +kernel
theorem dX3_cellsUnlike_4 : decode cX3_cellsUnlike 4 = .ok (.iload_n 3, 1) := by decide +kernel
theorem dX3_cellsUnlike_5 : decode cX3_cellsUnlike 5 = .ok (.bipush 64, 2) := by decide +kernel
theorem dX3_cellsUnlike_7 : decode cX3_cellsUnlike 7 = .ok (.if_icmp .ge 27, 3) := by decide +kernel
theorem dX3_cellsUnlike_10 : decode cX3_cellsUnlike 10 = .ok (.aload_n 0, 1) := by decide +kernel
theorem dX3_cellsUnlike_11 : decode cX3_cellsUnlike 11 = .ok (.getfield 9, 3) := by decide +kernel
theorem dX3_cellsUnlike_14 : decode cX3_cellsUnlike 14 = .ok (.iload_n 3, 1) := by decide +kernel
theorem dX3_cellsUnlike_15 : decode cX3_cellsUnlike 15 = .ok (.iaload, 1) := by decide +kernel
theorem dX3_cellsUnlike_16 : decode cX3_cellsUnlike 16 = .ok (.aload_n 1, 1) := by decide +kernel
theorem dX3_cellsUnlike_17 : decode cX3_cellsUnlike 17 = .ok (.getfield 9, 3) := by decide +kernel
theorem dX3_cellsUnlike_20 : decode cX3_cellsUnlike 20 = .ok (.iload_n 3, 1) := by decide +kernel
theorem dX3_cellsUnlike_21 : decode cX3_cellsUnlike 21 = .ok (.iaload, 1) := by decide +kernel
theorem dX3_cellsUnlike_22 : decode cX3_cellsUnlike 22 = .ok (.if_icmp .eq 6, 3) := by decide +kernel
theorem dX3_cellsUnlike_25 : decode cX3_cellsUnlike 25 = .ok (.iinc 2 1, 3) := by decide +kernel
theorem dX3_cellsUnlike_28 : decode cX3_cellsUnlike 28 = .ok (.iinc 3 1, 3) := by decide +kernel
theorem dX3_cellsUnlike_31 : decode cX3_cellsUnlike 31 = .ok (.goto (-27), 3) := by decide +kernel
theorem dX3_cellsUnlike_34 : decode cX3_cellsUnlike 34 = .ok (.iload_n 2, 1) := by decide +kernel
theorem dX3_cellsUnlike_35 : decode cX3_cellsUnlike 35 = .ok (.ireturn, 1) := by decide +kernel
theorem dX6_differ_0 : decode cX6_differ 0 = .ok (.iload_n 1, 1) := by decide +kernel
theorem dX6_differ_1 : decode cX6_differ 1 = .ok (.invokestatic 70, 3) := by decide +kernel
theorem dX6_differ_4 : decode cX6_differ 4 = .ok (.ifCond .eq 10, 3) := by decide +kernel
theorem dX6_differ_7 : decode cX6_differ 7 = .ok (.iload_n 2, 1) := by decide +kernel
theorem dX6_differ_8 : decode cX6_differ 8 = .ok (.invokestatic 70, 3) := by decide +kernel
theorem dX6_differ_11 : decode cX6_differ 11 = .ok (.ifCond .ne 5, 3) := by decide +kernel
theorem dX6_differ_14 : decode cX6_differ 14 = .ok (.iconst (-1), 1) := by decide +kernel
theorem dX6_differ_15 : decode cX6_differ 15 = .ok (.ireturn, 1) := by decide +kernel
theorem dX6_differ_16 : decode cX6_differ 16 = .ok (.aload_n 0, 1) := by decide +kernel
theorem dX6_differ_17 : decode cX6_differ 17 = .ok (.getfield 12, 3) := by decide +kernel
theorem dX6_differ_20 : decode cX6_differ 20 = .ok (.iload_n 1, 1) := by decide +kernel
theorem dX6_differ_21 : decode cX6_differ 21 = .ok (.invokevirtual 76, 3) := by decide +kernel
theorem dX6_differ_24 : decode cX6_differ 24 = .ok (.aload_n 0, 1) := by decide +kernel
theorem dX6_differ_25 : decode cX6_differ 25 = .ok (.getfield 12, 3) := by decide +kernel
theorem dX6_differ_28 : decode cX6_differ 28 = .ok (.iload_n 2, 1) := by decide +kernel
theorem dX6_differ_29 : decode cX6_differ 29 = .ok (.invokevirtual 76, 3) := by decide +kernel
theorem dX6_differ_32 : decode cX6_differ 32 = .ok (.invokevirtual 230, 3) := by decide +kernel
theorem dX6_differ_35 : decode cX6_differ 35 = .ok (.ireturn, 1) := by decide +kernel
theorem dX7_differ_0 : decode cX7_differ 0 = .ok (.iload_n 1, 1) := by decide +kernel
theorem dX7_differ_1 : decode cX7_differ 1 = .ok (.invokestatic 62, 3) := by decide +kernel
theorem dX7_differ_4 : decode cX7_differ 4 = .ok (.ifCond .ne 10, 3) := by decide +kernel
theorem dX7_differ_7 : decode cX7_differ 7 = .ok (.iload_n 2, 1) := by decide +kernel
theorem dX7_differ_8 : decode cX7_differ 8 = .ok (.invokestatic 62, 3) := by decide +kernel
theorem dX7_differ_11 : decode cX7_differ 11 = .ok (.ifCond .eq 5, 3) := by decide +kernel
theorem dX7_differ_14 : decode cX7_differ 14 = .ok (.iconst (-1), 1) := by decide +kernel
theorem dX7_differ_15 : decode cX7_differ 15 = .ok (.ireturn, 1) := by decide +kernel
theorem dX7_differ_16 : decode cX7_differ 16 = .ok (.iconst 0, 1) := by decide +kernel
theorem dX7_differ_17 : decode cX7_differ 17 = .ok (.istore_n 3, 1) := by decide +kernel
theorem dX7_differ_18 : decode cX7_differ 18 = .ok (.iconst 0, 1) := by decide +kernel
theorem dX7_differ_19 : decode cX7_differ 19 = .ok (.istore 4, 2) := by decide +kernel
theorem dX7_differ_21 : decode cX7_differ 21 = .ok (.iload 4, 2) := by decide +kernel
theorem dX7_differ_23 : decode cX7_differ 23 = .ok (.bipush 64, 2) := by decide +kernel
theorem dX7_differ_25 : decode cX7_differ 25 = .ok (.if_icmp .ge 48, 3) := by decide +kernel
theorem dX7_differ_28 : decode cX7_differ 28 = .ok (.iload_n 3, 1) := by decide +kernel
theorem dX7_differ_29 : decode cX7_differ 29 = .ok (.aload_n 0, 1) := by decide +kernel
theorem dX7_differ_30 : decode cX7_differ 30 = .ok (.getfield 7, 3) := by decide +kernel
theorem dX7_differ_33 : decode cX7_differ 33 = .ok (.iconst 1, 1) := by decide +kernel
theorem dX7_differ_34 : decode cX7_differ 34 = .ok (.bipush 64, 2) := by decide +kernel
theorem dX7_differ_36 : decode cX7_differ 36 = .ok (.iload_n 1, 1) := by decide +kernel
theorem dX7_differ_37 : decode cX7_differ 37 = .ok (.imul, 1) := by decide +kernel
theorem dX7_differ_38 : decode cX7_differ 38 = .ok (.iadd, 1) := by decide +kernel
theorem dX7_differ_39 : decode cX7_differ 39 = .ok (.iload 4, 2) := by decide +kernel
theorem dX7_differ_41 : decode cX7_differ 41 = .ok (.iadd, 1) := by decide +kernel
theorem dX7_differ_42 : decode cX7_differ 42 = .ok (.iaload, 1) := by decide +kernel
theorem dX7_differ_43 : decode cX7_differ 43 = .ok (.aload_n 0, 1) := by decide +kernel
theorem dX7_differ_44 : decode cX7_differ 44 = .ok (.getfield 7, 3) := by decide +kernel
theorem dX7_differ_47 : decode cX7_differ 47 = .ok (.iconst 1, 1) := by decide +kernel
theorem dX7_differ_48 : decode cX7_differ 48 = .ok (.bipush 64, 2) := by decide +kernel
theorem dX7_differ_50 : decode cX7_differ 50 = .ok (.iload_n 2, 1) := by decide +kernel
theorem dX7_differ_51 : decode cX7_differ 51 = .ok (.imul, 1) := by decide +kernel
theorem dX7_differ_52 : decode cX7_differ 52 = .ok (.iadd, 1) := by decide +kernel
theorem dX7_differ_53 : decode cX7_differ 53 = .ok (.iload 4, 2) := by decide +kernel
theorem dX7_differ_55 : decode cX7_differ 55 = .ok (.iadd, 1) := by decide +kernel
theorem dX7_differ_56 : decode cX7_differ 56 = .ok (.iaload, 1) := by decide +kernel
theorem dX7_differ_57 : decode cX7_differ 57 = .ok (.if_icmp .ne 7, 3) := by decide +kernel
theorem dX7_differ_60 : decode cX7_differ 60 = .ok (.iconst 0, 1) := by decide +kernel
theorem dX7_differ_61 : decode cX7_differ 61 = .ok (.goto 4, 3) := by decide +kernel
theorem dX7_differ_64 : decode cX7_differ 64 = .ok (.iconst 1, 1) := by decide +kernel
theorem dX7_differ_65 : decode cX7_differ 65 = .ok (.iadd, 1) := by decide +kernel
theorem dX7_differ_66 : decode cX7_differ 66 = .ok (.istore_n 3, 1) := by decide +kernel
theorem dX7_differ_67 : decode cX7_differ 67 = .ok (.iinc 4 1, 3) := by decide +kernel
theorem dX7_differ_70 : decode cX7_differ 70 = .ok (.goto (-49), 3) := by decide +kernel
theorem dX7_differ_73 : decode cX7_differ 73 = .ok (.iload_n 3, 1) := by decide +kernel
theorem dX7_differ_74 : decode cX7_differ 74 = .ok (.ireturn, 1) := by decide +kernel
theorem dX6_refusalOfRow_0 : decode cX6_refusalOfRow 0 = .ok (.iload_n 1, 1) := by decide +kernel
theorem dX6_refusalOfRow_1 : decode cX6_refusalOfRow 1 = .ok (.invokestatic 70, 3) := by decide +kernel
theorem dX6_refusalOfRow_4 : decode cX6_refusalOfRow 4 = .ok (.ifCond .ne 5, 3) := by decide +kernel
theorem dX6_refusalOfRow_7 : decode cX6_refusalOfRow 7 = .ok (.iconst (-1), 1) := by decide +kernel
theorem dX6_refusalOfRow_8 : decode cX6_refusalOfRow 8 = .ok (.ireturn, 1) := by decide +kernel
theorem dX6_refusalOfRow_9 : decode cX6_refusalOfRow 9 = .ok (.iload_n 2, 1) := by decide +kernel
theorem dX6_refusalOfRow_10 : decode cX6_refusalOfRow 10 = .ok (.invokestatic 73, 3) := by decide +kernel
theorem dX6_refusalOfRow_13 : decode cX6_refusalOfRow 13 = .ok (.ifCond .ne 6, 3) := by decide +kernel
theorem dX6_refusalOfRow_16 : decode cX6_refusalOfRow 16 = .ok (.bipush (-2), 2) := by decide +kernel
theorem dX6_refusalOfRow_18 : decode cX6_refusalOfRow 18 = .ok (.ireturn, 1) := by decide +kernel
theorem dX6_refusalOfRow_19 : decode cX6_refusalOfRow 19 = .ok (.aload_n 0, 1) := by decide +kernel
theorem dX6_refusalOfRow_20 : decode cX6_refusalOfRow 20 = .ok (.getfield 29, 3) := by decide +kernel
theorem dX6_refusalOfRow_23 : decode cX6_refusalOfRow 23 = .ok (.iconst 1, 1) := by decide +kernel
theorem dX6_refusalOfRow_24 : decode cX6_refusalOfRow 24 = .ok (.bipush 8, 2) := by decide +kernel
theorem dX6_refusalOfRow_26 : decode cX6_refusalOfRow 26 = .ok (.invokevirtual 100, 3) := by decide +kernel
theorem dX6_refusalOfRow_29 : decode cX6_refusalOfRow 29 = .ok (.istore_n 3, 1) := by decide +kernel
theorem dX6_refusalOfRow_30 : decode cX6_refusalOfRow 30 = .ok (.iload_n 3, 1) := by decide +kernel
theorem dX6_refusalOfRow_31 : decode cX6_refusalOfRow 31 = .ok (.iconst (-1), 1) := by decide +kernel
theorem dX6_refusalOfRow_32 : decode cX6_refusalOfRow 32 = .ok (.if_icmp .eq 8, 3) := by decide +kernel
theorem dX6_refusalOfRow_35 : decode cX6_refusalOfRow 35 = .ok (.bipush (-100), 2) := by decide +kernel
theorem dX6_refusalOfRow_37 : decode cX6_refusalOfRow 37 = .ok (.iload_n 3, 1) := by decide +kernel
theorem dX6_refusalOfRow_38 : decode cX6_refusalOfRow 38 = .ok (.isub, 1) := by decide +kernel
theorem dX6_refusalOfRow_39 : decode cX6_refusalOfRow 39 = .ok (.ireturn, 1) := by decide +kernel
theorem dX6_refusalOfRow_40 : decode cX6_refusalOfRow 40 = .ok (.aload_n 0, 1) := by decide +kernel
theorem dX6_refusalOfRow_41 : decode cX6_refusalOfRow 41 = .ok (.getfield 29, 3) := by decide +kernel
theorem dX6_refusalOfRow_44 : decode cX6_refusalOfRow 44 = .ok (.invokevirtual 103, 3) := by decide +kernel
theorem dX6_refusalOfRow_47 : decode cX6_refusalOfRow 47 = .ok (.aload_n 0, 1) := by decide +kernel
theorem dX6_refusalOfRow_48 : decode cX6_refusalOfRow 48 = .ok (.getfield 12, 3) := by decide +kernel
theorem dX6_refusalOfRow_51 : decode cX6_refusalOfRow 51 = .ok (.getfield 58, 3) := by decide +kernel
theorem dX6_refusalOfRow_54 : decode cX6_refusalOfRow 54 = .ok (.if_icmp .lt 8, 3) := by decide +kernel
theorem dX6_refusalOfRow_57 : decode cX6_refusalOfRow 57 = .ok (.bipush (-2), 2) := by decide +kernel
theorem dX6_refusalOfRow_59 : decode cX6_refusalOfRow 59 = .ok (.goto 4, 3) := by decide +kernel
theorem dX6_refusalOfRow_62 : decode cX6_refusalOfRow 62 = .ok (.iconst 0, 1) := by decide +kernel
theorem dX6_refusalOfRow_63 : decode cX6_refusalOfRow 63 = .ok (.ireturn, 1) := by decide +kernel
theorem dX6_times_0 : decode cX6_times 0 = .ok (.aload_n 0, 1) := by decide +kernel
theorem dX6_times_1 : decode cX6_times 1 = .ok (.iload_n 1, 1) := by decide +kernel
theorem dX6_times_2 : decode cX6_times 2 = .ok (.iload_n 2, 1) := by decide +kernel
theorem dX6_times_3 : decode cX6_times 3 = .ok (.invokevirtual 233, 3) := by decide +kernel
theorem dX6_times_6 : decode cX6_times 6 = .ok (.istore_n 3, 1) := by decide +kernel
theorem dX6_times_7 : decode cX6_times 7 = .ok (.iload_n 3, 1) := by decide +kernel
theorem dX6_times_8 : decode cX6_times 8 = .ok (.ifCond .eq 5, 3) := by decide +kernel
theorem dX6_times_11 : decode cX6_times 11 = .ok (.iload_n 3, 1) := by decide +kernel
theorem dX6_times_12 : decode cX6_times 12 = .ok (.ireturn, 1) := by decide +kernel
theorem dX6_times_13 : decode cX6_times 13 = .ok (.aload_n 0, 1) := by decide +kernel
theorem dX6_times_14 : decode cX6_times 14 = .ok (.getfield 12, 3) := by decide +kernel
theorem dX6_times_17 : decode cX6_times 17 = .ok (.iload_n 1, 1) := by decide +kernel
theorem dX6_times_18 : decode cX6_times 18 = .ok (.invokevirtual 76, 3) := by decide +kernel
theorem dX6_times_21 : decode cX6_times 21 = .ok (.astore 4, 2) := by decide +kernel
theorem dX6_times_23 : decode cX6_times 23 = .ok (.iconst 0, 1) := by decide +kernel
theorem dX6_times_24 : decode cX6_times 24 = .ok (.istore 5, 2) := by decide +kernel
theorem dX6_times_26 : decode cX6_times 26 = .ok (.iconst 0, 1) := by decide +kernel
theorem dX6_times_27 : decode cX6_times 27 = .ok (.istore 6, 2) := by decide +kernel
theorem dX6_times_29 : decode cX6_times 29 = .ok (.iload 6, 2) := by decide +kernel
theorem dX6_times_31 : decode cX6_times 31 = .ok (.bipush 8, 2) := by decide +kernel
theorem dX6_times_33 : decode cX6_times 33 = .ok (.if_icmp .ge 32, 3) := by decide +kernel
theorem dX6_times_36 : decode cX6_times 36 = .ok (.iload 5, 2) := by decide +kernel
theorem dX6_times_38 : decode cX6_times 38 = .ok (.aload 4, 2) := by decide +kernel
theorem dX6_times_40 : decode cX6_times 40 = .ok (.iload_n 2, 1) := by decide +kernel
theorem dX6_times_41 : decode cX6_times 41 = .ok (.iload 6, 2) := by decide +kernel
theorem dX6_times_43 : decode cX6_times 43 = .ok (.invokevirtual 80, 3) := by decide +kernel
theorem dX6_times_46 : decode cX6_times 46 = .ok (.aload_n 0, 1) := by decide +kernel
theorem dX6_times_47 : decode cX6_times 47 = .ok (.getfield 29, 3) := by decide +kernel
theorem dX6_times_50 : decode cX6_times 50 = .ok (.iload 6, 2) := by decide +kernel
theorem dX6_times_52 : decode cX6_times 52 = .ok (.invokevirtual 236, 3) := by decide +kernel
theorem dX6_times_55 : decode cX6_times 55 = .ok (.imul, 1) := by decide +kernel
theorem dX6_times_56 : decode cX6_times 56 = .ok (.iadd, 1) := by decide +kernel
theorem dX6_times_57 : decode cX6_times 57 = .ok (.istore 5, 2) := by decide +kernel
theorem dX6_times_59 : decode cX6_times 59 = .ok (.iinc 6 1, 3) := by decide +kernel
theorem dX6_times_62 : decode cX6_times 62 = .ok (.goto (-33), 3) := by decide +kernel
theorem dX6_times_65 : decode cX6_times 65 = .ok (.iload 5, 2) := by decide +kernel
theorem dX6_times_67 : decode cX6_times 67 = .ok (.aload_n 0, 1) := by decide +kernel
theorem dX6_times_68 : decode cX6_times 68 = .ok (.getfield 12, 3) := by decide +kernel
theorem dX6_times_71 : decode cX6_times 71 = .ok (.getfield 58, 3) := by decide +kernel
theorem dX6_times_74 : decode cX6_times 74 = .ok (.invokestatic 128, 3) := by decide +kernel
theorem dX6_times_77 : decode cX6_times 77 = .ok (.ireturn, 1) := by decide +kernel
theorem dX7_against_0 : decode cX7_against 0 = .ok (.iload_n 1, 1) := by decide +kernel
theorem dX7_against_1 : decode cX7_against 1 = .ok (.invokestatic 62, 3) := by decide +kernel
theorem dX7_against_4 : decode cX7_against 4 = .ok (.ifCond .eq 5, 3) := by decide +kernel
theorem dX7_against_7 : decode cX7_against 7 = .ok (.iconst (-1), 1) := by decide +kernel
theorem dX7_against_8 : decode cX7_against 8 = .ok (.ireturn, 1) := by decide +kernel
theorem dX7_against_9 : decode cX7_against 9 = .ok (.iload_n 2, 1) := by decide +kernel
theorem dX7_against_10 : decode cX7_against 10 = .ok (.invokestatic 65, 3) := by decide +kernel
theorem dX7_against_13 : decode cX7_against 13 = .ok (.ifCond .eq 6, 3) := by decide +kernel
theorem dX7_against_16 : decode cX7_against 16 = .ok (.bipush (-2), 2) := by decide +kernel
theorem dX7_against_18 : decode cX7_against 18 = .ok (.ireturn, 1) := by decide +kernel
theorem dX7_against_19 : decode cX7_against 19 = .ok (.aload_n 0, 1) := by decide +kernel
theorem dX7_against_20 : decode cX7_against 20 = .ok (.iconst 0, 1) := by decide +kernel
theorem dX7_against_21 : decode cX7_against 21 = .ok (.putfield 115, 3) := by decide +kernel
theorem dX7_against_24 : decode cX7_against 24 = .ok (.aload_n 0, 1) := by decide +kernel
theorem dX7_against_25 : decode cX7_against 25 = .ok (.iconst 0, 1) := by decide +kernel
theorem dX7_against_26 : decode cX7_against 26 = .ok (.bipush 8, 2) := by decide +kernel
theorem dX7_against_28 : decode cX7_against 28 = .ok (.invokevirtual 124, 3) := by decide +kernel
theorem dX7_against_31 : decode cX7_against 31 = .ok (.ifCond .eq 14, 3) := by decide +kernel
theorem dX7_against_34 : decode cX7_against 34 = .ok (.aload_n 0, 1) := by decide +kernel
theorem dX7_against_35 : decode cX7_against 35 = .ok (.getfield 115, 3) := by decide +kernel
theorem dX7_against_38 : decode cX7_against 38 = .ok (.aload_n 0, 1) := by decide +kernel
theorem dX7_against_39 : decode cX7_against 39 = .ok (.getfield 112, 3) := by decide +kernel
theorem dX7_against_42 : decode cX7_against 42 = .ok (.if_icmp .ge 11, 3) := by decide +kernel
theorem dX7_against_45 : decode cX7_against 45 = .ok (.bipush (-100), 2) := by decide +kernel
theorem dX7_against_47 : decode cX7_against 47 = .ok (.aload_n 0, 1) := by decide +kernel
theorem dX7_against_48 : decode cX7_against 48 = .ok (.getfield 115, 3) := by decide +kernel
theorem dX7_against_51 : decode cX7_against 51 = .ok (.isub, 1) := by decide +kernel
theorem dX7_against_52 : decode cX7_against 52 = .ok (.ireturn, 1) := by decide +kernel
theorem dX7_against_53 : decode cX7_against 53 = .ok (.aload_n 0, 1) := by decide +kernel
theorem dX7_against_54 : decode cX7_against 54 = .ok (.bipush 8, 2) := by decide +kernel
theorem dX7_against_56 : decode cX7_against 56 = .ok (.invokevirtual 136, 3) := by decide +kernel
theorem dX7_against_59 : decode cX7_against 59 = .ok (.ifCond .eq 7, 3) := by decide +kernel
theorem dX7_against_62 : decode cX7_against 62 = .ok (.iconst 0, 1) := by decide +kernel
theorem dX7_against_63 : decode cX7_against 63 = .ok (.goto 5, 3) := by decide +kernel
theorem dX7_against_66 : decode cX7_against 66 = .ok (.bipush (-2), 2) := by decide +kernel
theorem dX7_against_68 : decode cX7_against 68 = .ok (.ireturn, 1) := by decide +kernel
theorem dX7_times_0 : decode cX7_times 0 = .ok (.aload_n 0, 1) := by decide +kernel
theorem dX7_times_1 : decode cX7_times 1 = .ok (.iload_n 1, 1) := by decide +kernel
theorem dX7_times_2 : decode cX7_times 2 = .ok (.iload_n 2, 1) := by decide +kernel
theorem dX7_times_3 : decode cX7_times 3 = .ok (.invokevirtual 180, 3) := by decide +kernel
theorem dX7_times_6 : decode cX7_times 6 = .ok (.istore_n 3, 1) := by decide +kernel
theorem dX7_times_7 : decode cX7_times 7 = .ok (.iload_n 3, 1) := by decide +kernel
theorem dX7_times_8 : decode cX7_times 8 = .ok (.ifCond .ge 5, 3) := by decide +kernel
theorem dX7_times_11 : decode cX7_times 11 = .ok (.iload_n 3, 1) := by decide +kernel
theorem dX7_times_12 : decode cX7_times 12 = .ok (.ireturn, 1) := by decide +kernel
theorem dX7_times_13 : decode cX7_times 13 = .ok (.iconst 0, 1) := by decide +kernel
theorem dX7_times_14 : decode cX7_times 14 = .ok (.istore 4, 2) := by decide +kernel
theorem dX7_times_16 : decode cX7_times 16 = .ok (.iconst 0, 1) := by decide +kernel
theorem dX7_times_17 : decode cX7_times 17 = .ok (.istore 5, 2) := by decide +kernel
theorem dX7_times_19 : decode cX7_times 19 = .ok (.iload 5, 2) := by decide +kernel
theorem dX7_times_21 : decode cX7_times 21 = .ok (.bipush 8, 2) := by decide +kernel
theorem dX7_times_23 : decode cX7_times 23 = .ok (.if_icmp .ge 30, 3) := by decide +kernel
theorem dX7_times_26 : decode cX7_times 26 = .ok (.iload 4, 2) := by decide +kernel
theorem dX7_times_28 : decode cX7_times 28 = .ok (.aload_n 0, 1) := by decide +kernel
theorem dX7_times_29 : decode cX7_times 29 = .ok (.iload_n 1, 1) := by decide +kernel
theorem dX7_times_30 : decode cX7_times 30 = .ok (.iload_n 2, 1) := by decide +kernel
theorem dX7_times_31 : decode cX7_times 31 = .ok (.iload 5, 2) := by decide +kernel
theorem dX7_times_33 : decode cX7_times 33 = .ok (.invokevirtual 139, 3) := by decide +kernel
theorem dX7_times_36 : decode cX7_times 36 = .ok (.aload_n 0, 1) := by decide +kernel
theorem dX7_times_37 : decode cX7_times 37 = .ok (.getfield 23, 3) := by decide +kernel
theorem dX7_times_40 : decode cX7_times 40 = .ok (.iload 5, 2) := by decide +kernel
theorem dX7_times_42 : decode cX7_times 42 = .ok (.iaload, 1) := by decide +kernel
theorem dX7_times_43 : decode cX7_times 43 = .ok (.imul, 1) := by decide +kernel
theorem dX7_times_44 : decode cX7_times 44 = .ok (.iadd, 1) := by decide +kernel
theorem dX7_times_45 : decode cX7_times 45 = .ok (.istore 4, 2) := by decide +kernel
theorem dX7_times_47 : decode cX7_times 47 = .ok (.iinc 5 1, 3) := by decide +kernel
theorem dX7_times_50 : decode cX7_times 50 = .ok (.goto (-31), 3) := by decide +kernel
theorem dX7_times_53 : decode cX7_times 53 = .ok (.aload_n 0, 1) := by decide +kernel
theorem dX7_times_54 : decode cX7_times 54 = .ok (.iload 4, 2) := by decide +kernel
theorem dX7_times_56 : decode cX7_times 56 = .ok (.invokevirtual 54, 3) := by decide +kernel
theorem dX7_times_59 : decode cX7_times 59 = .ok (.ireturn, 1) := by decide +kernel
theorem dX0_putRightSide_0 : decode cX0_putRightSide 0 = .ok (.iload_n 1, 1) := by decide +kernel
theorem dX0_putRightSide_1 : decode cX0_putRightSide 1 = .ok (.ifCond .lt 23, 3) := by decide +kernel
theorem dX0_putRightSide_4 : decode cX0_putRightSide 4 = .ok (.iload_n 1, 1) := by decide +kernel
theorem dX0_putRightSide_5 : decode cX0_putRightSide 5 = .ok (.aload_n 0, 1) := by decide +kernel
theorem dX0_putRightSide_6 : decode cX0_putRightSide 6 = .ok (.getfield 29, 3) := by decide +kernel
theorem dX0_putRightSide_9 : decode cX0_putRightSide 9 = .ok (.if_icmp .ge 15, 3) := by decide +kernel
theorem dX0_putRightSide_12 : decode cX0_putRightSide 12 = .ok (.aload_n 0, 1) := by decide +kernel
theorem dX0_putRightSide_13 : decode cX0_putRightSide 13 = .ok (.getfield 11, 3) := by decide +kernel
theorem dX0_putRightSide_16 : decode cX0_putRightSide 16 = .ok (.iload_n 1, 1) := by decide +kernel
theorem dX0_putRightSide_17 : decode cX0_putRightSide 17 = .ok (.aaload, 1) := by decide +kernel
theorem dX0_putRightSide_18 : decode cX0_putRightSide 18 = .ok (.aload_n 0, 1) := by decide +kernel
theorem dX0_putRightSide_19 : decode cX0_putRightSide 19 = .ok (.getfield 29, 3) := by decide +kernel
theorem dX0_putRightSide_22 : decode cX0_putRightSide 22 = .ok (.iload_n 2, 1) := by decide +kernel
theorem dX0_putRightSide_23 : decode cX0_putRightSide 23 = .ok (.iastore, 1) := by decide +kernel
theorem dX0_putRightSide_24 : decode cX0_putRightSide 24 = .ok (.return_, 1) := by decide +kernel
theorem dX0_rightSideAt_0 : decode cX0_rightSideAt 0 = .ok (.iload_n 1, 1) := by decide +kernel
theorem dX0_rightSideAt_1 : decode cX0_rightSideAt 1 = .ok (.ifCond .lt 25, 3) := by decide +kernel
theorem dX0_rightSideAt_4 : decode cX0_rightSideAt 4 = .ok (.iload_n 1, 1) := by decide +kernel
theorem dX0_rightSideAt_5 : decode cX0_rightSideAt 5 = .ok (.aload_n 0, 1) := by decide +kernel
theorem dX0_rightSideAt_6 : decode cX0_rightSideAt 6 = .ok (.getfield 29, 3) := by decide +kernel
theorem dX0_rightSideAt_9 : decode cX0_rightSideAt 9 = .ok (.if_icmp .ge 17, 3) := by decide +kernel
theorem dX0_rightSideAt_12 : decode cX0_rightSideAt 12 = .ok (.aload_n 0, 1) := by decide +kernel
theorem dX0_rightSideAt_13 : decode cX0_rightSideAt 13 = .ok (.getfield 11, 3) := by decide +kernel
theorem dX0_rightSideAt_16 : decode cX0_rightSideAt 16 = .ok (.iload_n 1, 1) := by decide +kernel
theorem dX0_rightSideAt_17 : decode cX0_rightSideAt 17 = .ok (.aaload, 1) := by decide +kernel
theorem dX0_rightSideAt_18 : decode cX0_rightSideAt 18 = .ok (.aload_n 0, 1) := by decide +kernel
theorem dX0_rightSideAt_19 : decode cX0_rightSideAt 19 = .ok (.getfield 29, 3) := by decide +kernel
theorem dX0_rightSideAt_22 : decode cX0_rightSideAt 22 = .ok (.iaload, 1) := by decide +kernel
theorem dX0_rightSideAt_23 : decode cX0_rightSideAt 23 = .ok (.goto 4, 3) := by decide +kernel
theorem dX0_rightSideAt_26 : decode cX0_rightSideAt 26 = .ok (.iconst 0, 1) := by decide +kernel
theorem dX0_rightSideAt_27 : decode cX0_rightSideAt 27 = .ok (.ireturn, 1) := by decide +kernel
theorem dX6_solve_0 : decode cX6_solve 0 = .ok (.aload_n 0, 1) := by decide +kernel
theorem dX6_solve_1 : decode cX6_solve 1 = .ok (.iload_n 1, 1) := by decide +kernel
theorem dX6_solve_2 : decode cX6_solve 2 = .ok (.iload_n 2, 1) := by decide +kernel
theorem dX6_solve_3 : decode cX6_solve 3 = .ok (.invokevirtual 233, 3) := by decide +kernel
theorem dX6_solve_6 : decode cX6_solve 6 = .ok (.istore_n 3, 1) := by decide +kernel
theorem dX6_solve_7 : decode cX6_solve 7 = .ok (.iload_n 3, 1) := by decide +kernel
theorem dX6_solve_8 : decode cX6_solve 8 = .ok (.ifCond .eq 5, 3) := by decide +kernel
theorem dX6_solve_11 : decode cX6_solve 11 = .ok (.iload_n 3, 1) := by decide +kernel
theorem dX6_solve_12 : decode cX6_solve 12 = .ok (.ireturn, 1) := by decide +kernel
theorem dX6_solve_13 : decode cX6_solve 13 = .ok (.aload_n 0, 1) := by decide +kernel
theorem dX6_solve_14 : decode cX6_solve 14 = .ok (.getfield 36, 3) := by decide +kernel
theorem dX6_solve_17 : decode cX6_solve 17 = .ok (.aload_n 0, 1) := by decide +kernel
theorem dX6_solve_18 : decode cX6_solve 18 = .ok (.getfield 12, 3) := by decide +kernel
theorem dX6_solve_21 : decode cX6_solve 21 = .ok (.iload_n 1, 1) := by decide +kernel
theorem dX6_solve_22 : decode cX6_solve 22 = .ok (.invokevirtual 76, 3) := by decide +kernel
theorem dX6_solve_25 : decode cX6_solve 25 = .ok (.iconst 0, 1) := by decide +kernel
theorem dX6_solve_26 : decode cX6_solve 26 = .ok (.bipush 8, 2) := by decide +kernel
theorem dX6_solve_28 : decode cX6_solve 28 = .ok (.aload_n 0, 1) := by decide +kernel
theorem dX6_solve_29 : decode cX6_solve 29 = .ok (.getfield 12, 3) := by decide +kernel
theorem dX6_solve_32 : decode cX6_solve 32 = .ok (.getfield 58, 3) := by decide +kernel
theorem dX6_solve_35 : decode cX6_solve 35 = .ok (.invokevirtual 138, 3) := by decide +kernel
theorem dX6_solve_38 : decode cX6_solve 38 = .ok (.iconst 0, 1) := by decide +kernel
theorem dX6_solve_39 : decode cX6_solve 39 = .ok (.istore 4, 2) := by decide +kernel
theorem dX6_solve_41 : decode cX6_solve 41 = .ok (.iload 4, 2) := by decide +kernel
theorem dX6_solve_43 : decode cX6_solve 43 = .ok (.bipush 8, 2) := by decide +kernel
theorem dX6_solve_45 : decode cX6_solve 45 = .ok (.if_icmp .ge 27, 3) := by decide +kernel
theorem dX6_solve_48 : decode cX6_solve 48 = .ok (.aload_n 0, 1) := by decide +kernel
theorem dX6_solve_49 : decode cX6_solve 49 = .ok (.getfield 36, 3) := by decide +kernel
theorem dX6_solve_52 : decode cX6_solve 52 = .ok (.iload 4, 2) := by decide +kernel
theorem dX6_solve_54 : decode cX6_solve 54 = .ok (.aload_n 0, 1) := by decide +kernel
theorem dX6_solve_55 : decode cX6_solve 55 = .ok (.getfield 29, 3) := by decide +kernel
theorem dX6_solve_58 : decode cX6_solve 58 = .ok (.iload 4, 2) := by decide +kernel
theorem dX6_solve_60 : decode cX6_solve 60 = .ok (.invokevirtual 236, 3) := by decide +kernel
theorem dX6_solve_63 : decode cX6_solve 63 = .ok (.invokevirtual 239, 3) := by decide +kernel
theorem dX6_solve_66 : decode cX6_solve 66 = .ok (.iinc 4 1, 3) := by decide +kernel
theorem dX6_solve_69 : decode cX6_solve 69 = .ok (.goto (-28), 3) := by decide +kernel
theorem dX6_solve_72 : decode cX6_solve 72 = .ok (.aload_n 0, 1) := by decide +kernel
theorem dX6_solve_73 : decode cX6_solve 73 = .ok (.getfield 36, 3) := by decide +kernel
theorem dX6_solve_76 : decode cX6_solve 76 = .ok (.invokevirtual 242, 3) := by decide +kernel
theorem dX6_solve_79 : decode cX6_solve 79 = .ok (.aload_n 0, 1) := by decide +kernel
theorem dX6_solve_80 : decode cX6_solve 80 = .ok (.getfield 36, 3) := by decide +kernel
theorem dX6_solve_83 : decode cX6_solve 83 = .ok (.getfield 245, 3) := by decide +kernel
theorem dX6_solve_86 : decode cX6_solve 86 = .ok (.bipush 8, 2) := by decide +kernel
theorem dX6_solve_88 : decode cX6_solve 88 = .ok (.if_icmp .ne 14, 3) := by decide +kernel
theorem dX6_solve_91 : decode cX6_solve 91 = .ok (.aload_n 0, 1) := by decide +kernel
theorem dX6_solve_92 : decode cX6_solve 92 = .ok (.getfield 36, 3) := by decide +kernel
theorem dX6_solve_95 : decode cX6_solve 95 = .ok (.iload_n 2, 1) := by decide +kernel
theorem dX6_solve_96 : decode cX6_solve 96 = .ok (.invokevirtual 248, 3) := by decide +kernel
theorem dX6_solve_99 : decode cX6_solve 99 = .ok (.goto 5, 3) := by decide +kernel
theorem dX6_solve_102 : decode cX6_solve 102 = .ok (.bipush (-4), 2) := by decide +kernel
theorem dX6_solve_104 : decode cX6_solve 104 = .ok (.ireturn, 1) := by decide +kernel
theorem dX7_solve_0 : decode cX7_solve 0 = .ok (.aload_n 0, 1) := by decide +kernel
theorem dX7_solve_1 : decode cX7_solve 1 = .ok (.iload_n 1, 1) := by decide +kernel
theorem dX7_solve_2 : decode cX7_solve 2 = .ok (.iload_n 2, 1) := by decide +kernel
theorem dX7_solve_3 : decode cX7_solve 3 = .ok (.invokevirtual 180, 3) := by decide +kernel
theorem dX7_solve_6 : decode cX7_solve 6 = .ok (.istore_n 3, 1) := by decide +kernel
theorem dX7_solve_7 : decode cX7_solve 7 = .ok (.iload_n 3, 1) := by decide +kernel
theorem dX7_solve_8 : decode cX7_solve 8 = .ok (.ifCond .ge 5, 3) := by decide +kernel
theorem dX7_solve_11 : decode cX7_solve 11 = .ok (.iload_n 3, 1) := by decide +kernel
theorem dX7_solve_12 : decode cX7_solve 12 = .ok (.ireturn, 1) := by decide +kernel
theorem dX7_solve_13 : decode cX7_solve 13 = .ok (.aload_n 0, 1) := by decide +kernel
theorem dX7_solve_14 : decode cX7_solve 14 = .ok (.iload_n 1, 1) := by decide +kernel
theorem dX7_solve_15 : decode cX7_solve 15 = .ok (.iconst 0, 1) := by decide +kernel
theorem dX7_solve_16 : decode cX7_solve 16 = .ok (.iconst 0, 1) := by decide +kernel
theorem dX7_solve_17 : decode cX7_solve 17 = .ok (.bipush 8, 2) := by decide +kernel
theorem dX7_solve_19 : decode cX7_solve 19 = .ok (.invokevirtual 100, 3) := by decide +kernel
theorem dX7_solve_22 : decode cX7_solve 22 = .ok (.iconst 0, 1) := by decide +kernel
theorem dX7_solve_23 : decode cX7_solve 23 = .ok (.istore 4, 2) := by decide +kernel
theorem dX7_solve_25 : decode cX7_solve 25 = .ok (.iload 4, 2) := by decide +kernel
theorem dX7_solve_27 : decode cX7_solve 27 = .ok (.bipush 8, 2) := by decide +kernel
theorem dX7_solve_29 : decode cX7_solve 29 = .ok (.if_icmp .ge 29, 3) := by decide +kernel
theorem dX7_solve_32 : decode cX7_solve 32 = .ok (.aload_n 0, 1) := by decide +kernel
theorem dX7_solve_33 : decode cX7_solve 33 = .ok (.getfield 26, 3) := by decide +kernel
theorem dX7_solve_36 : decode cX7_solve 36 = .ok (.bipush 9, 2) := by decide +kernel
theorem dX7_solve_38 : decode cX7_solve 38 = .ok (.iload 4, 2) := by decide +kernel
theorem dX7_solve_40 : decode cX7_solve 40 = .ok (.imul, 1) := by decide +kernel
theorem dX7_solve_41 : decode cX7_solve 41 = .ok (.bipush 8, 2) := by decide +kernel
theorem dX7_solve_43 : decode cX7_solve 43 = .ok (.iadd, 1) := by decide +kernel
theorem dX7_solve_44 : decode cX7_solve 44 = .ok (.aload_n 0, 1) := by decide +kernel
theorem dX7_solve_45 : decode cX7_solve 45 = .ok (.getfield 23, 3) := by decide +kernel
theorem dX7_solve_48 : decode cX7_solve 48 = .ok (.iload 4, 2) := by decide +kernel
theorem dX7_solve_50 : decode cX7_solve 50 = .ok (.iaload, 1) := by decide +kernel
theorem dX7_solve_51 : decode cX7_solve 51 = .ok (.iastore, 1) := by decide +kernel
theorem dX7_solve_52 : decode cX7_solve 52 = .ok (.iinc 4 1, 3) := by decide +kernel
theorem dX7_solve_55 : decode cX7_solve 55 = .ok (.goto (-30), 3) := by decide +kernel
theorem dX7_solve_58 : decode cX7_solve 58 = .ok (.aload_n 0, 1) := by decide +kernel
theorem dX7_solve_59 : decode cX7_solve 59 = .ok (.bipush 8, 2) := by decide +kernel
theorem dX7_solve_61 : decode cX7_solve 61 = .ok (.bipush 9, 2) := by decide +kernel
theorem dX7_solve_63 : decode cX7_solve 63 = .ok (.invokevirtual 103, 3) := by decide +kernel
theorem dX7_solve_66 : decode cX7_solve 66 = .ok (.bipush 8, 2) := by decide +kernel
theorem dX7_solve_68 : decode cX7_solve 68 = .ok (.if_icmp .ge 8, 3) := by decide +kernel
theorem dX7_solve_71 : decode cX7_solve 71 = .ok (.bipush (-4), 2) := by decide +kernel
theorem dX7_solve_73 : decode cX7_solve 73 = .ok (.goto 15, 3) := by decide +kernel
theorem dX7_solve_76 : decode cX7_solve 76 = .ok (.aload_n 0, 1) := by decide +kernel
theorem dX7_solve_77 : decode cX7_solve 77 = .ok (.getfield 26, 3) := by decide +kernel
theorem dX7_solve_80 : decode cX7_solve 80 = .ok (.bipush 9, 2) := by decide +kernel
theorem dX7_solve_82 : decode cX7_solve 82 = .ok (.iload_n 2, 1) := by decide +kernel
theorem dX7_solve_83 : decode cX7_solve 83 = .ok (.imul, 1) := by decide +kernel
theorem dX7_solve_84 : decode cX7_solve 84 = .ok (.bipush 8, 2) := by decide +kernel
theorem dX7_solve_86 : decode cX7_solve 86 = .ok (.iadd, 1) := by decide +kernel
theorem dX7_solve_87 : decode cX7_solve 87 = .ok (.iaload, 1) := by decide +kernel
theorem dX7_solve_88 : decode cX7_solve 88 = .ok (.ireturn, 1) := by decide +kernel
theorem dX6_leavesOfAll_0 : decode cX6_leavesOfAll 0 = .ok (.iconst 0, 1) := by decide +kernel
theorem dX6_leavesOfAll_1 : decode cX6_leavesOfAll 1 = .ok (.istore_n 1, 1) := by decide +kernel
theorem dX6_leavesOfAll_2 : decode cX6_leavesOfAll 2 = .ok (.iconst 0, 1) := by decide +kernel
theorem dX6_leavesOfAll_3 : decode cX6_leavesOfAll 3 = .ok (.istore_n 2, 1) := by decide +kernel
theorem dX6_leavesOfAll_4 : decode cX6_leavesOfAll 4 = .ok (.iload_n 2, 1) := by decide +kernel
theorem dX6_leavesOfAll_5 : decode cX6_leavesOfAll 5 = .ok (.iconst 4, 1) := by decide +kernel
theorem dX6_leavesOfAll_6 : decode cX6_leavesOfAll 6 = .ok (.if_icmp .ge 26, 3) := by decide +kernel
theorem dX6_leavesOfAll_9 : decode cX6_leavesOfAll 9 = .ok (.iload_n 1, 1) := by decide +kernel
theorem dX6_leavesOfAll_10 : decode cX6_leavesOfAll 10 = .ok (.aload_n 0, 1) := by decide +kernel
theorem dX6_leavesOfAll_11 : decode cX6_leavesOfAll 11 = .ok (.getfield 12, 3) := by decide +kernel
theorem dX6_leavesOfAll_14 : decode cX6_leavesOfAll 14 = .ok (.iload_n 2, 1) := by decide +kernel
theorem dX6_leavesOfAll_15 : decode cX6_leavesOfAll 15 = .ok (.invokevirtual 76, 3) := by decide +kernel
theorem dX6_leavesOfAll_18 : decode cX6_leavesOfAll 18 = .ok (.getfield 93, 3) := by decide +kernel
theorem dX6_leavesOfAll_21 : decode cX6_leavesOfAll 21 = .ok (.invokevirtual 156, 3) := by decide +kernel
theorem dX6_leavesOfAll_24 : decode cX6_leavesOfAll 24 = .ok (.iadd, 1) := by decide +kernel
theorem dX6_leavesOfAll_25 : decode cX6_leavesOfAll 25 = .ok (.istore_n 1, 1) := by decide +kernel
theorem dX6_leavesOfAll_26 : decode cX6_leavesOfAll 26 = .ok (.iinc 2 1, 3) := by decide +kernel
theorem dX6_leavesOfAll_29 : decode cX6_leavesOfAll 29 = .ok (.goto (-25), 3) := by decide +kernel
theorem dX6_leavesOfAll_32 : decode cX6_leavesOfAll 32 = .ok (.iload_n 1, 1) := by decide +kernel
theorem dX6_leavesOfAll_33 : decode cX6_leavesOfAll 33 = .ok (.ireturn, 1) := by decide +kernel
theorem dX6_count_0 : decode cX6_count 0 = .ok (.iload_n 1, 1) := by decide +kernel
theorem dX6_count_1 : decode cX6_count 1 = .ok (.tableswitch 71 0 4 #[35, 43, 50, 55, 63], 35) := by decide +kernel
theorem dX6_count_36 : decode cX6_count 36 = .ok (.aload_n 0, 1) := by decide +kernel
theorem dX6_count_37 : decode cX6_count 37 = .ok (.getfield 12, 3) := by decide +kernel
theorem dX6_count_40 : decode cX6_count 40 = .ok (.getfield 58, 3) := by decide +kernel
theorem dX6_count_43 : decode cX6_count 43 = .ok (.ireturn, 1) := by decide +kernel
theorem dX6_count_44 : decode cX6_count 44 = .ok (.aload_n 0, 1) := by decide +kernel
theorem dX6_count_45 : decode cX6_count 45 = .ok (.iconst 0, 1) := by decide +kernel
theorem dX6_count_46 : decode cX6_count 46 = .ok (.iconst 3, 1) := by decide +kernel
theorem dX6_count_47 : decode cX6_count 47 = .ok (.invokevirtual 209, 3) := by decide +kernel
theorem dX6_count_50 : decode cX6_count 50 = .ok (.ireturn, 1) := by decide +kernel
theorem dX6_count_51 : decode cX6_count 51 = .ok (.aload_n 0, 1) := by decide +kernel
theorem dX6_count_52 : decode cX6_count 52 = .ok (.invokevirtual 251, 3) := by decide +kernel
theorem dX6_count_55 : decode cX6_count 55 = .ok (.ireturn, 1) := by decide +kernel
theorem dX6_count_56 : decode cX6_count 56 = .ok (.aload_n 0, 1) := by decide +kernel
theorem dX6_count_57 : decode cX6_count 57 = .ok (.getfield 22, 3) := by decide +kernel
theorem dX6_count_60 : decode cX6_count 60 = .ok (.getfield 196, 3) := by decide +kernel
theorem dX6_count_63 : decode cX6_count 63 = .ok (.ireturn, 1) := by decide +kernel
theorem dX6_count_64 : decode cX6_count 64 = .ok (.aload_n 0, 1) := by decide +kernel
theorem dX6_count_65 : decode cX6_count 65 = .ok (.getfield 29, 3) := by decide +kernel
theorem dX6_count_68 : decode cX6_count 68 = .ok (.getfield 189, 3) := by decide +kernel
theorem dX6_count_71 : decode cX6_count 71 = .ok (.ireturn, 1) := by decide +kernel
theorem dX6_count_72 : decode cX6_count 72 = .ok (.bipush (-2), 2) := by decide +kernel
theorem dX6_count_74 : decode cX6_count 74 = .ok (.ireturn, 1) := by decide +kernel
theorem dX7_overTables_0 : decode cX7_overTables 0 = .ok (.iconst 0, 1) := by decide +kernel
theorem dX7_overTables_1 : decode cX7_overTables 1 = .ok (.istore_n 2, 1) := by decide +kernel
theorem dX7_overTables_2 : decode cX7_overTables 2 = .ok (.iconst 0, 1) := by decide +kernel
theorem dX7_overTables_3 : decode cX7_overTables 3 = .ok (.istore_n 3, 1) := by decide +kernel
theorem dX7_overTables_4 : decode cX7_overTables 4 = .ok (.iload_n 3, 1) := by decide +kernel
theorem dX7_overTables_5 : decode cX7_overTables 5 = .ok (.iconst 4, 1) := by decide +kernel
theorem dX7_overTables_6 : decode cX7_overTables 6 = .ok (.if_icmp .ge 32, 3) := by decide +kernel
theorem dX7_overTables_9 : decode cX7_overTables 9 = .ok (.iload_n 2, 1) := by decide +kernel
theorem dX7_overTables_10 : decode cX7_overTables 10 = .ok (.iload_n 1, 1) := by decide +kernel
theorem dX7_overTables_11 : decode cX7_overTables 11 = .ok (.ifCond .eq 12, 3) := by decide +kernel
theorem dX7_overTables_14 : decode cX7_overTables 14 = .ok (.aload_n 0, 1) := by decide +kernel
theorem dX7_overTables_15 : decode cX7_overTables 15 = .ok (.iload_n 3, 1) := by decide +kernel
theorem dX7_overTables_16 : decode cX7_overTables 16 = .ok (.iconst 1, 1) := by decide +kernel
theorem dX7_overTables_17 : decode cX7_overTables 17 = .ok (.invokevirtual 169, 3) := by decide +kernel
theorem dX7_overTables_20 : decode cX7_overTables 20 = .ok (.goto 10, 3) := by decide +kernel
theorem dX7_overTables_23 : decode cX7_overTables 23 = .ok (.aload_n 0, 1) := by decide +kernel
theorem dX7_overTables_24 : decode cX7_overTables 24 = .ok (.iload_n 3, 1) := by decide +kernel
theorem dX7_overTables_25 : decode cX7_overTables 25 = .ok (.bipush 64, 2) := by decide +kernel
theorem dX7_overTables_27 : decode cX7_overTables 27 = .ok (.invokevirtual 157, 3) := by decide +kernel
theorem dX7_overTables_30 : decode cX7_overTables 30 = .ok (.iadd, 1) := by decide +kernel
theorem dX7_overTables_31 : decode cX7_overTables 31 = .ok (.istore_n 2, 1) := by decide +kernel
theorem dX7_overTables_32 : decode cX7_overTables 32 = .ok (.iinc 3 1, 3) := by decide +kernel
theorem dX7_overTables_35 : decode cX7_overTables 35 = .ok (.goto (-31), 3) := by decide +kernel
theorem dX7_overTables_38 : decode cX7_overTables 38 = .ok (.iload_n 2, 1) := by decide +kernel
theorem dX7_overTables_39 : decode cX7_overTables 39 = .ok (.ireturn, 1) := by decide +kernel
theorem dX7_count_0 : decode cX7_count 0 = .ok (.iload_n 1, 1) := by decide +kernel
theorem dX7_count_1 : decode cX7_count 1 = .ok (.tableswitch 64 0 4 #[35, 42, 48, 54, 59], 35) := by decide +kernel
theorem dX7_count_36 : decode cX7_count 36 = .ok (.aload_n 0, 1) := by decide +kernel
theorem dX7_count_37 : decode cX7_count 37 = .ok (.getfield 7, 3) := by decide +kernel
theorem dX7_count_40 : decode cX7_count 40 = .ok (.iconst 0, 1) := by decide +kernel
theorem dX7_count_41 : decode cX7_count 41 = .ok (.iaload, 1) := by decide +kernel
theorem dX7_count_42 : decode cX7_count 42 = .ok (.ireturn, 1) := by decide +kernel
theorem dX7_count_43 : decode cX7_count 43 = .ok (.aload_n 0, 1) := by decide +kernel
theorem dX7_count_44 : decode cX7_count 44 = .ok (.iconst 1, 1) := by decide +kernel
theorem dX7_count_45 : decode cX7_count 45 = .ok (.invokevirtual 183, 3) := by decide +kernel
theorem dX7_count_48 : decode cX7_count 48 = .ok (.ireturn, 1) := by decide +kernel
theorem dX7_count_49 : decode cX7_count 49 = .ok (.aload_n 0, 1) := by decide +kernel
theorem dX7_count_50 : decode cX7_count 50 = .ok (.iconst 0, 1) := by decide +kernel
theorem dX7_count_51 : decode cX7_count 51 = .ok (.invokevirtual 183, 3) := by decide +kernel
theorem dX7_count_54 : decode cX7_count 54 = .ok (.ireturn, 1) := by decide +kernel
theorem dX7_count_55 : decode cX7_count 55 = .ok (.aload_n 0, 1) := by decide +kernel
theorem dX7_count_56 : decode cX7_count 56 = .ok (.getfield 39, 3) := by decide +kernel
theorem dX7_count_59 : decode cX7_count 59 = .ok (.ireturn, 1) := by decide +kernel
theorem dX7_count_60 : decode cX7_count 60 = .ok (.aload_n 0, 1) := by decide +kernel
theorem dX7_count_61 : decode cX7_count 61 = .ok (.getfield 112, 3) := by decide +kernel
theorem dX7_count_64 : decode cX7_count 64 = .ok (.ireturn, 1) := by decide +kernel
theorem dX7_count_65 : decode cX7_count 65 = .ok (.bipush (-2), 2) := by decide +kernel
theorem dX7_count_67 : decode cX7_count 67 = .ok (.ireturn, 1) := by decide +kernel
theorem dL_law_0 : decode cL_law 0 = .ok (.new 7, 3) := by decide +kernel
theorem dL_law_3 : decode cL_law 3 = .ok (.dup, 1) := by decide +kernel
theorem dL_law_4 : decode cL_law 4 = .ok (.invokespecial 9, 3) := by decide +kernel
theorem dL_law_7 : decode cL_law 7 = .ok (.astore_n 1, 1) := by decide +kernel
theorem dL_law_8 : decode cL_law 8 = .ok (.new 10, 3) := by decide +kernel
theorem dL_law_11 : decode cL_law 11 = .ok (.dup, 1) := by decide +kernel
theorem dL_law_12 : decode cL_law 12 = .ok (.invokespecial 12, 3) := by decide +kernel
theorem dL_law_15 : decode cL_law 15 = .ok (.astore_n 2, 1) := by decide +kernel
theorem dL_law_16 : decode cL_law 16 = .ok (.iconst 0, 1) := by decide +kernel
theorem dL_law_17 : decode cL_law 17 = .ok (.istore_n 3, 1) := by decide +kernel
theorem dL_law_18 : decode cL_law 18 = .ok (.iload_n 3, 1) := by decide +kernel
theorem dL_law_19 : decode cL_law 19 = .ok (.aload_n 0, 1) := by decide +kernel
theorem dL_law_20 : decode cL_law 20 = .ok (.arraylength, 1) := by decide +kernel
theorem dL_law_21 : decode cL_law 21 = .ok (.iconst 5, 1) := by decide +kernel
theorem dL_law_22 : decode cL_law 22 = .ok (.isub, 1) := by decide +kernel
theorem dL_law_23 : decode cL_law 23 = .ok (.if_icmp .gt 730, 3) := by decide +kernel
theorem dL_law_26 : decode cL_law 26 = .ok (.aload_n 0, 1) := by decide +kernel
theorem dL_law_27 : decode cL_law 27 = .ok (.iload_n 3, 1) := by decide +kernel
theorem dL_law_28 : decode cL_law 28 = .ok (.iaload, 1) := by decide +kernel
theorem dL_law_29 : decode cL_law 29 = .ok (.bipush 31, 2) := by decide +kernel
theorem dL_law_31 : decode cL_law 31 = .ok (.iand, 1) := by decide +kernel
theorem dL_law_32 : decode cL_law 32 = .ok (.tableswitch 715 0 20 #[100, 123, 176, 209, 222, 265, 298, 331, 354, 379, 392, 405, 418, 431, 474, 507, 550, 593, 626, 659, 692], 100) := by decide +kernel
theorem dL_law_132 : decode cL_law 132 = .ok (.aload_n 1, 1) := by decide +kernel
theorem dL_law_133 : decode cL_law 133 = .ok (.aload_n 0, 1) := by decide +kernel
theorem dL_law_134 : decode cL_law 134 = .ok (.iload_n 3, 1) := by decide +kernel
theorem dL_law_135 : decode cL_law 135 = .ok (.iconst 1, 1) := by decide +kernel
theorem dL_law_136 : decode cL_law 136 = .ok (.iadd, 1) := by decide +kernel
theorem dL_law_137 : decode cL_law 137 = .ok (.iaload, 1) := by decide +kernel
theorem dL_law_138 : decode cL_law 138 = .ok (.invokevirtual 13, 3) := by decide +kernel
theorem dL_law_141 : decode cL_law 141 = .ok (.aload_n 2, 1) := by decide +kernel
theorem dL_law_142 : decode cL_law 142 = .ok (.aload_n 0, 1) := by decide +kernel
theorem dL_law_143 : decode cL_law 143 = .ok (.iload_n 3, 1) := by decide +kernel
theorem dL_law_144 : decode cL_law 144 = .ok (.iconst 1, 1) := by decide +kernel
theorem dL_law_145 : decode cL_law 145 = .ok (.iadd, 1) := by decide +kernel
theorem dL_law_146 : decode cL_law 146 = .ok (.iaload, 1) := by decide +kernel
theorem dL_law_147 : decode cL_law 147 = .ok (.invokevirtual 17, 3) := by decide +kernel
theorem dL_law_150 : decode cL_law 150 = .ok (.if_icmp .eq 597, 3) := by decide +kernel
theorem dL_law_153 : decode cL_law 153 = .ok (.iconst 0, 1) := by decide +kernel
theorem dL_law_154 : decode cL_law 154 = .ok (.ireturn, 1) := by decide +kernel
theorem dL_law_155 : decode cL_law 155 = .ok (.aload_n 1, 1) := by decide +kernel
theorem dL_law_156 : decode cL_law 156 = .ok (.aload_n 0, 1) := by decide +kernel
theorem dL_law_157 : decode cL_law 157 = .ok (.iload_n 3, 1) := by decide +kernel
theorem dL_law_158 : decode cL_law 158 = .ok (.iconst 1, 1) := by decide +kernel
theorem dL_law_159 : decode cL_law 159 = .ok (.iadd, 1) := by decide +kernel
theorem dL_law_160 : decode cL_law 160 = .ok (.iaload, 1) := by decide +kernel
theorem dL_law_161 : decode cL_law 161 = .ok (.aload_n 0, 1) := by decide +kernel
theorem dL_law_162 : decode cL_law 162 = .ok (.iload_n 3, 1) := by decide +kernel
theorem dL_law_163 : decode cL_law 163 = .ok (.iconst 2, 1) := by decide +kernel
theorem dL_law_164 : decode cL_law 164 = .ok (.iadd, 1) := by decide +kernel
theorem dL_law_165 : decode cL_law 165 = .ok (.iaload, 1) := by decide +kernel
theorem dL_law_166 : decode cL_law 166 = .ok (.aload_n 0, 1) := by decide +kernel
theorem dL_law_167 : decode cL_law 167 = .ok (.iload_n 3, 1) := by decide +kernel
theorem dL_law_168 : decode cL_law 168 = .ok (.iconst 3, 1) := by decide +kernel
theorem dL_law_169 : decode cL_law 169 = .ok (.iadd, 1) := by decide +kernel
theorem dL_law_170 : decode cL_law 170 = .ok (.iaload, 1) := by decide +kernel
theorem dL_law_171 : decode cL_law 171 = .ok (.aload_n 0, 1) := by decide +kernel
theorem dL_law_172 : decode cL_law 172 = .ok (.iload_n 3, 1) := by decide +kernel
theorem dL_law_173 : decode cL_law 173 = .ok (.iconst 4, 1) := by decide +kernel
theorem dL_law_174 : decode cL_law 174 = .ok (.iadd, 1) := by decide +kernel
theorem dL_law_175 : decode cL_law 175 = .ok (.iaload, 1) := by decide +kernel
theorem dL_law_176 : decode cL_law 176 = .ok (.invokevirtual 18, 3) := by decide +kernel
theorem dL_law_179 : decode cL_law 179 = .ok (.aload_n 2, 1) := by decide +kernel
theorem dL_law_180 : decode cL_law 180 = .ok (.aload_n 0, 1) := by decide +kernel
theorem dL_law_181 : decode cL_law 181 = .ok (.iload_n 3, 1) := by decide +kernel
theorem dL_law_182 : decode cL_law 182 = .ok (.iconst 1, 1) := by decide +kernel
theorem dL_law_183 : decode cL_law 183 = .ok (.iadd, 1) := by decide +kernel
theorem dL_law_184 : decode cL_law 184 = .ok (.iaload, 1) := by decide +kernel
theorem dL_law_185 : decode cL_law 185 = .ok (.aload_n 0, 1) := by decide +kernel
theorem dL_law_186 : decode cL_law 186 = .ok (.iload_n 3, 1) := by decide +kernel
theorem dL_law_187 : decode cL_law 187 = .ok (.iconst 2, 1) := by decide +kernel
theorem dL_law_188 : decode cL_law 188 = .ok (.iadd, 1) := by decide +kernel
theorem dL_law_189 : decode cL_law 189 = .ok (.iaload, 1) := by decide +kernel
theorem dL_law_190 : decode cL_law 190 = .ok (.aload_n 0, 1) := by decide +kernel
theorem dL_law_191 : decode cL_law 191 = .ok (.iload_n 3, 1) := by decide +kernel
theorem dL_law_192 : decode cL_law 192 = .ok (.iconst 3, 1) := by decide +kernel
theorem dL_law_193 : decode cL_law 193 = .ok (.iadd, 1) := by decide +kernel
theorem dL_law_194 : decode cL_law 194 = .ok (.iaload, 1) := by decide +kernel
theorem dL_law_195 : decode cL_law 195 = .ok (.aload_n 0, 1) := by decide +kernel
theorem dL_law_196 : decode cL_law 196 = .ok (.iload_n 3, 1) := by decide +kernel
theorem dL_law_197 : decode cL_law 197 = .ok (.iconst 4, 1) := by decide +kernel
theorem dL_law_198 : decode cL_law 198 = .ok (.iadd, 1) := by decide +kernel
theorem dL_law_199 : decode cL_law 199 = .ok (.iaload, 1) := by decide +kernel
theorem dL_law_200 : decode cL_law 200 = .ok (.invokevirtual 22, 3) := by decide +kernel
theorem dL_law_203 : decode cL_law 203 = .ok (.if_icmp .eq 544, 3) := by decide +kernel
theorem dL_law_206 : decode cL_law 206 = .ok (.iconst 0, 1) := by decide +kernel
theorem dL_law_207 : decode cL_law 207 = .ok (.ireturn, 1) := by decide +kernel
theorem dL_law_208 : decode cL_law 208 = .ok (.aload_n 1, 1) := by decide +kernel
theorem dL_law_209 : decode cL_law 209 = .ok (.aload_n 0, 1) := by decide +kernel
theorem dL_law_210 : decode cL_law 210 = .ok (.iload_n 3, 1) := by decide +kernel
theorem dL_law_211 : decode cL_law 211 = .ok (.iconst 1, 1) := by decide +kernel
theorem dL_law_212 : decode cL_law 212 = .ok (.iadd, 1) := by decide +kernel
theorem dL_law_213 : decode cL_law 213 = .ok (.iaload, 1) := by decide +kernel
theorem dL_law_214 : decode cL_law 214 = .ok (.aload_n 0, 1) := by decide +kernel
theorem dL_law_215 : decode cL_law 215 = .ok (.iload_n 3, 1) := by decide +kernel
theorem dL_law_216 : decode cL_law 216 = .ok (.iconst 2, 1) := by decide +kernel
theorem dL_law_217 : decode cL_law 217 = .ok (.iadd, 1) := by decide +kernel
theorem dL_law_218 : decode cL_law 218 = .ok (.iaload, 1) := by decide +kernel
theorem dL_law_219 : decode cL_law 219 = .ok (.invokevirtual 23, 3) := by decide +kernel
theorem dL_law_222 : decode cL_law 222 = .ok (.aload_n 2, 1) := by decide +kernel
theorem dL_law_223 : decode cL_law 223 = .ok (.aload_n 0, 1) := by decide +kernel
theorem dL_law_224 : decode cL_law 224 = .ok (.iload_n 3, 1) := by decide +kernel
theorem dL_law_225 : decode cL_law 225 = .ok (.iconst 1, 1) := by decide +kernel
theorem dL_law_226 : decode cL_law 226 = .ok (.iadd, 1) := by decide +kernel
theorem dL_law_227 : decode cL_law 227 = .ok (.iaload, 1) := by decide +kernel
theorem dL_law_228 : decode cL_law 228 = .ok (.aload_n 0, 1) := by decide +kernel
theorem dL_law_229 : decode cL_law 229 = .ok (.iload_n 3, 1) := by decide +kernel
theorem dL_law_230 : decode cL_law 230 = .ok (.iconst 2, 1) := by decide +kernel
theorem dL_law_231 : decode cL_law 231 = .ok (.iadd, 1) := by decide +kernel
theorem dL_law_232 : decode cL_law 232 = .ok (.iaload, 1) := by decide +kernel
theorem dL_law_233 : decode cL_law 233 = .ok (.invokevirtual 27, 3) := by decide +kernel
theorem dL_law_236 : decode cL_law 236 = .ok (.if_icmp .eq 511, 3) := by decide +kernel
theorem dL_law_239 : decode cL_law 239 = .ok (.iconst 0, 1) := by decide +kernel
theorem dL_law_240 : decode cL_law 240 = .ok (.ireturn, 1) := by decide +kernel
theorem dL_law_241 : decode cL_law 241 = .ok (.aload_n 1, 1) := by decide +kernel
theorem dL_law_242 : decode cL_law 242 = .ok (.invokevirtual 28, 3) := by decide +kernel
theorem dL_law_245 : decode cL_law 245 = .ok (.aload_n 2, 1) := by decide +kernel
theorem dL_law_246 : decode cL_law 246 = .ok (.invokevirtual 32, 3) := by decide +kernel
theorem dL_law_249 : decode cL_law 249 = .ok (.if_icmp .eq 498, 3) := by decide +kernel
theorem dL_law_252 : decode cL_law 252 = .ok (.iconst 0, 1) := by decide +kernel
theorem dL_law_253 : decode cL_law 253 = .ok (.ireturn, 1) := by decide +kernel
theorem dL_law_254 : decode cL_law 254 = .ok (.aload_n 1, 1) := by decide +kernel
theorem dL_law_255 : decode cL_law 255 = .ok (.aload_n 0, 1) := by decide +kernel
theorem dL_law_256 : decode cL_law 256 = .ok (.iload_n 3, 1) := by decide +kernel
theorem dL_law_257 : decode cL_law 257 = .ok (.iconst 1, 1) := by decide +kernel
theorem dL_law_258 : decode cL_law 258 = .ok (.iadd, 1) := by decide +kernel
theorem dL_law_259 : decode cL_law 259 = .ok (.iaload, 1) := by decide +kernel
theorem dL_law_260 : decode cL_law 260 = .ok (.aload_n 0, 1) := by decide +kernel
theorem dL_law_261 : decode cL_law 261 = .ok (.iload_n 3, 1) := by decide +kernel
theorem dL_law_262 : decode cL_law 262 = .ok (.iconst 2, 1) := by decide +kernel
theorem dL_law_263 : decode cL_law 263 = .ok (.iadd, 1) := by decide +kernel
theorem dL_law_264 : decode cL_law 264 = .ok (.iaload, 1) := by decide +kernel
theorem dL_law_265 : decode cL_law 265 = .ok (.aload_n 0, 1) := by decide +kernel
theorem dL_law_266 : decode cL_law 266 = .ok (.iload_n 3, 1) := by decide +kernel
theorem dL_law_267 : decode cL_law 267 = .ok (.iconst 3, 1) := by decide +kernel
theorem dL_law_268 : decode cL_law 268 = .ok (.iadd, 1) := by decide +kernel
theorem dL_law_269 : decode cL_law 269 = .ok (.iaload, 1) := by decide +kernel
theorem dL_law_270 : decode cL_law 270 = .ok (.invokevirtual 33, 3) := by decide +kernel
theorem dL_law_273 : decode cL_law 273 = .ok (.aload_n 2, 1) := by decide +kernel
theorem dL_law_274 : decode cL_law 274 = .ok (.aload_n 0, 1) := by decide +kernel
theorem dL_law_275 : decode cL_law 275 = .ok (.iload_n 3, 1) := by decide +kernel
theorem dL_law_276 : decode cL_law 276 = .ok (.iconst 1, 1) := by decide +kernel
theorem dL_law_277 : decode cL_law 277 = .ok (.iadd, 1) := by decide +kernel
theorem dL_law_278 : decode cL_law 278 = .ok (.iaload, 1) := by decide +kernel
theorem dL_law_279 : decode cL_law 279 = .ok (.aload_n 0, 1) := by decide +kernel
theorem dL_law_280 : decode cL_law 280 = .ok (.iload_n 3, 1) := by decide +kernel
theorem dL_law_281 : decode cL_law 281 = .ok (.iconst 2, 1) := by decide +kernel
theorem dL_law_282 : decode cL_law 282 = .ok (.iadd, 1) := by decide +kernel
theorem dL_law_283 : decode cL_law 283 = .ok (.iaload, 1) := by decide +kernel
theorem dL_law_284 : decode cL_law 284 = .ok (.aload_n 0, 1) := by decide +kernel
theorem dL_law_285 : decode cL_law 285 = .ok (.iload_n 3, 1) := by decide +kernel
theorem dL_law_286 : decode cL_law 286 = .ok (.iconst 3, 1) := by decide +kernel
theorem dL_law_287 : decode cL_law 287 = .ok (.iadd, 1) := by decide +kernel
theorem dL_law_288 : decode cL_law 288 = .ok (.iaload, 1) := by decide +kernel
theorem dL_law_289 : decode cL_law 289 = .ok (.invokevirtual 37, 3) := by decide +kernel
theorem dL_law_292 : decode cL_law 292 = .ok (.if_icmp .eq 455, 3) := by decide +kernel
theorem dL_law_295 : decode cL_law 295 = .ok (.iconst 0, 1) := by decide +kernel
theorem dL_law_296 : decode cL_law 296 = .ok (.ireturn, 1) := by decide +kernel
theorem dL_law_297 : decode cL_law 297 = .ok (.aload_n 1, 1) := by decide +kernel
theorem dL_law_298 : decode cL_law 298 = .ok (.aload_n 0, 1) := by decide +kernel
theorem dL_law_299 : decode cL_law 299 = .ok (.iload_n 3, 1) := by decide +kernel
theorem dL_law_300 : decode cL_law 300 = .ok (.iconst 1, 1) := by decide +kernel
theorem dL_law_301 : decode cL_law 301 = .ok (.iadd, 1) := by decide +kernel
theorem dL_law_302 : decode cL_law 302 = .ok (.iaload, 1) := by decide +kernel
theorem dL_law_303 : decode cL_law 303 = .ok (.aload_n 0, 1) := by decide +kernel
theorem dL_law_304 : decode cL_law 304 = .ok (.iload_n 3, 1) := by decide +kernel
theorem dL_law_305 : decode cL_law 305 = .ok (.iconst 2, 1) := by decide +kernel
theorem dL_law_306 : decode cL_law 306 = .ok (.iadd, 1) := by decide +kernel
theorem dL_law_307 : decode cL_law 307 = .ok (.iaload, 1) := by decide +kernel
theorem dL_law_308 : decode cL_law 308 = .ok (.invokevirtual 38, 3) := by decide +kernel
theorem dL_law_311 : decode cL_law 311 = .ok (.aload_n 2, 1) := by decide +kernel
theorem dL_law_312 : decode cL_law 312 = .ok (.aload_n 0, 1) := by decide +kernel
theorem dL_law_313 : decode cL_law 313 = .ok (.iload_n 3, 1) := by decide +kernel
theorem dL_law_314 : decode cL_law 314 = .ok (.iconst 1, 1) := by decide +kernel
theorem dL_law_315 : decode cL_law 315 = .ok (.iadd, 1) := by decide +kernel
theorem dL_law_316 : decode cL_law 316 = .ok (.iaload, 1) := by decide +kernel
theorem dL_law_317 : decode cL_law 317 = .ok (.aload_n 0, 1) := by decide +kernel
theorem dL_law_318 : decode cL_law 318 = .ok (.iload_n 3, 1) := by decide +kernel
theorem dL_law_319 : decode cL_law 319 = .ok (.iconst 2, 1) := by decide +kernel
theorem dL_law_320 : decode cL_law 320 = .ok (.iadd, 1) := by decide +kernel
theorem dL_law_321 : decode cL_law 321 = .ok (.iaload, 1) := by decide +kernel
theorem dL_law_322 : decode cL_law 322 = .ok (.invokevirtual 41, 3) := by decide +kernel
theorem dL_law_325 : decode cL_law 325 = .ok (.if_icmp .eq 422, 3) := by decide +kernel
theorem dL_law_328 : decode cL_law 328 = .ok (.iconst 0, 1) := by decide +kernel
theorem dL_law_329 : decode cL_law 329 = .ok (.ireturn, 1) := by decide +kernel
theorem dL_law_330 : decode cL_law 330 = .ok (.aload_n 1, 1) := by decide +kernel
theorem dL_law_331 : decode cL_law 331 = .ok (.aload_n 0, 1) := by decide +kernel
theorem dL_law_332 : decode cL_law 332 = .ok (.iload_n 3, 1) := by decide +kernel
theorem dL_law_333 : decode cL_law 333 = .ok (.iconst 1, 1) := by decide +kernel
theorem dL_law_334 : decode cL_law 334 = .ok (.iadd, 1) := by decide +kernel
theorem dL_law_335 : decode cL_law 335 = .ok (.iaload, 1) := by decide +kernel
theorem dL_law_336 : decode cL_law 336 = .ok (.aload_n 0, 1) := by decide +kernel
theorem dL_law_337 : decode cL_law 337 = .ok (.iload_n 3, 1) := by decide +kernel
theorem dL_law_338 : decode cL_law 338 = .ok (.iconst 2, 1) := by decide +kernel
theorem dL_law_339 : decode cL_law 339 = .ok (.iadd, 1) := by decide +kernel
theorem dL_law_340 : decode cL_law 340 = .ok (.iaload, 1) := by decide +kernel
theorem dL_law_341 : decode cL_law 341 = .ok (.invokevirtual 42, 3) := by decide +kernel
theorem dL_law_344 : decode cL_law 344 = .ok (.aload_n 2, 1) := by decide +kernel
theorem dL_law_345 : decode cL_law 345 = .ok (.aload_n 0, 1) := by decide +kernel
theorem dL_law_346 : decode cL_law 346 = .ok (.iload_n 3, 1) := by decide +kernel
theorem dL_law_347 : decode cL_law 347 = .ok (.iconst 1, 1) := by decide +kernel
theorem dL_law_348 : decode cL_law 348 = .ok (.iadd, 1) := by decide +kernel
theorem dL_law_349 : decode cL_law 349 = .ok (.iaload, 1) := by decide +kernel
theorem dL_law_350 : decode cL_law 350 = .ok (.aload_n 0, 1) := by decide +kernel
theorem dL_law_351 : decode cL_law 351 = .ok (.iload_n 3, 1) := by decide +kernel
theorem dL_law_352 : decode cL_law 352 = .ok (.iconst 2, 1) := by decide +kernel
theorem dL_law_353 : decode cL_law 353 = .ok (.iadd, 1) := by decide +kernel
theorem dL_law_354 : decode cL_law 354 = .ok (.iaload, 1) := by decide +kernel
theorem dL_law_355 : decode cL_law 355 = .ok (.invokevirtual 45, 3) := by decide +kernel
theorem dL_law_358 : decode cL_law 358 = .ok (.if_icmp .eq 389, 3) := by decide +kernel
theorem dL_law_361 : decode cL_law 361 = .ok (.iconst 0, 1) := by decide +kernel
theorem dL_law_362 : decode cL_law 362 = .ok (.ireturn, 1) := by decide +kernel
theorem dL_law_363 : decode cL_law 363 = .ok (.aload_n 1, 1) := by decide +kernel
theorem dL_law_364 : decode cL_law 364 = .ok (.aload_n 0, 1) := by decide +kernel
theorem dL_law_365 : decode cL_law 365 = .ok (.iload_n 3, 1) := by decide +kernel
theorem dL_law_366 : decode cL_law 366 = .ok (.iconst 1, 1) := by decide +kernel
theorem dL_law_367 : decode cL_law 367 = .ok (.iadd, 1) := by decide +kernel
theorem dL_law_368 : decode cL_law 368 = .ok (.iaload, 1) := by decide +kernel
theorem dL_law_369 : decode cL_law 369 = .ok (.invokevirtual 46, 3) := by decide +kernel
theorem dL_law_372 : decode cL_law 372 = .ok (.aload_n 2, 1) := by decide +kernel
theorem dL_law_373 : decode cL_law 373 = .ok (.aload_n 0, 1) := by decide +kernel
theorem dL_law_374 : decode cL_law 374 = .ok (.iload_n 3, 1) := by decide +kernel
theorem dL_law_375 : decode cL_law 375 = .ok (.iconst 1, 1) := by decide +kernel
theorem dL_law_376 : decode cL_law 376 = .ok (.iadd, 1) := by decide +kernel
theorem dL_law_377 : decode cL_law 377 = .ok (.iaload, 1) := by decide +kernel
theorem dL_law_378 : decode cL_law 378 = .ok (.invokevirtual 49, 3) := by decide +kernel
theorem dL_law_381 : decode cL_law 381 = .ok (.if_icmp .eq 366, 3) := by decide +kernel
theorem dL_law_384 : decode cL_law 384 = .ok (.iconst 0, 1) := by decide +kernel
theorem dL_law_385 : decode cL_law 385 = .ok (.ireturn, 1) := by decide +kernel
theorem dL_law_386 : decode cL_law 386 = .ok (.aload_n 1, 1) := by decide +kernel
theorem dL_law_387 : decode cL_law 387 = .ok (.aload_n 0, 1) := by decide +kernel
theorem dL_law_388 : decode cL_law 388 = .ok (.iload_n 3, 1) := by decide +kernel
theorem dL_law_389 : decode cL_law 389 = .ok (.iconst 1, 1) := by decide +kernel
theorem dL_law_390 : decode cL_law 390 = .ok (.iadd, 1) := by decide +kernel
theorem dL_law_391 : decode cL_law 391 = .ok (.iaload, 1) := by decide +kernel
theorem dL_law_392 : decode cL_law 392 = .ok (.i2c, 1) := by decide +kernel
theorem dL_law_393 : decode cL_law 393 = .ok (.invokevirtual 50, 3) := by decide +kernel
theorem dL_law_396 : decode cL_law 396 = .ok (.aload_n 2, 1) := by decide +kernel
theorem dL_law_397 : decode cL_law 397 = .ok (.aload_n 0, 1) := by decide +kernel
theorem dL_law_398 : decode cL_law 398 = .ok (.iload_n 3, 1) := by decide +kernel
theorem dL_law_399 : decode cL_law 399 = .ok (.iconst 1, 1) := by decide +kernel
theorem dL_law_400 : decode cL_law 400 = .ok (.iadd, 1) := by decide +kernel
theorem dL_law_401 : decode cL_law 401 = .ok (.iaload, 1) := by decide +kernel
theorem dL_law_402 : decode cL_law 402 = .ok (.i2c, 1) := by decide +kernel
theorem dL_law_403 : decode cL_law 403 = .ok (.invokevirtual 54, 3) := by decide +kernel
theorem dL_law_406 : decode cL_law 406 = .ok (.if_icmp .eq 341, 3) := by decide +kernel
theorem dL_law_409 : decode cL_law 409 = .ok (.iconst 0, 1) := by decide +kernel
theorem dL_law_410 : decode cL_law 410 = .ok (.ireturn, 1) := by decide +kernel
theorem dL_law_411 : decode cL_law 411 = .ok (.aload_n 1, 1) := by decide +kernel
theorem dL_law_412 : decode cL_law 412 = .ok (.invokevirtual 55, 3) := by decide +kernel
theorem dL_law_415 : decode cL_law 415 = .ok (.aload_n 2, 1) := by decide +kernel
theorem dL_law_416 : decode cL_law 416 = .ok (.invokevirtual 58, 3) := by decide +kernel
theorem dL_law_419 : decode cL_law 419 = .ok (.if_icmp .eq 328, 3) := by decide +kernel
theorem dL_law_422 : decode cL_law 422 = .ok (.iconst 0, 1) := by decide +kernel
theorem dL_law_423 : decode cL_law 423 = .ok (.ireturn, 1) := by decide +kernel
theorem dL_law_424 : decode cL_law 424 = .ok (.aload_n 1, 1) := by decide +kernel
theorem dL_law_425 : decode cL_law 425 = .ok (.invokevirtual 59, 3) := by decide +kernel
theorem dL_law_428 : decode cL_law 428 = .ok (.aload_n 2, 1) := by decide +kernel
theorem dL_law_429 : decode cL_law 429 = .ok (.invokevirtual 62, 3) := by decide +kernel
theorem dL_law_432 : decode cL_law 432 = .ok (.if_icmp .eq 315, 3) := by decide +kernel
theorem dL_law_435 : decode cL_law 435 = .ok (.iconst 0, 1) := by decide +kernel
theorem dL_law_436 : decode cL_law 436 = .ok (.ireturn, 1) := by decide +kernel
theorem dL_law_437 : decode cL_law 437 = .ok (.aload_n 1, 1) := by decide +kernel
theorem dL_law_438 : decode cL_law 438 = .ok (.invokevirtual 63, 3) := by decide +kernel
theorem dL_law_441 : decode cL_law 441 = .ok (.aload_n 2, 1) := by decide +kernel
theorem dL_law_442 : decode cL_law 442 = .ok (.invokevirtual 66, 3) := by decide +kernel
theorem dL_law_445 : decode cL_law 445 = .ok (.if_icmp .eq 302, 3) := by decide +kernel
theorem dL_law_448 : decode cL_law 448 = .ok (.iconst 0, 1) := by decide +kernel
theorem dL_law_449 : decode cL_law 449 = .ok (.ireturn, 1) := by decide +kernel
theorem dL_law_450 : decode cL_law 450 = .ok (.aload_n 1, 1) := by decide +kernel
theorem dL_law_451 : decode cL_law 451 = .ok (.invokevirtual 67, 3) := by decide +kernel
theorem dL_law_454 : decode cL_law 454 = .ok (.aload_n 2, 1) := by decide +kernel
theorem dL_law_455 : decode cL_law 455 = .ok (.invokevirtual 70, 3) := by decide +kernel
theorem dL_law_458 : decode cL_law 458 = .ok (.if_icmp .eq 289, 3) := by decide +kernel
theorem dL_law_461 : decode cL_law 461 = .ok (.iconst 0, 1) := by decide +kernel
theorem dL_law_462 : decode cL_law 462 = .ok (.ireturn, 1) := by decide +kernel
theorem dL_law_463 : decode cL_law 463 = .ok (.aload_n 1, 1) := by decide +kernel
theorem dL_law_464 : decode cL_law 464 = .ok (.aload_n 0, 1) := by decide +kernel
theorem dL_law_465 : decode cL_law 465 = .ok (.iload_n 3, 1) := by decide +kernel
theorem dL_law_466 : decode cL_law 466 = .ok (.iconst 1, 1) := by decide +kernel
theorem dL_law_467 : decode cL_law 467 = .ok (.iadd, 1) := by decide +kernel
theorem dL_law_468 : decode cL_law 468 = .ok (.iaload, 1) := by decide +kernel
theorem dL_law_469 : decode cL_law 469 = .ok (.aload_n 0, 1) := by decide +kernel
theorem dL_law_470 : decode cL_law 470 = .ok (.iload_n 3, 1) := by decide +kernel
theorem dL_law_471 : decode cL_law 471 = .ok (.iconst 2, 1) := by decide +kernel
theorem dL_law_472 : decode cL_law 472 = .ok (.iadd, 1) := by decide +kernel
theorem dL_law_473 : decode cL_law 473 = .ok (.iaload, 1) := by decide +kernel
theorem dL_law_474 : decode cL_law 474 = .ok (.aload_n 0, 1) := by decide +kernel
theorem dL_law_475 : decode cL_law 475 = .ok (.iload_n 3, 1) := by decide +kernel
theorem dL_law_476 : decode cL_law 476 = .ok (.iconst 3, 1) := by decide +kernel
theorem dL_law_477 : decode cL_law 477 = .ok (.iadd, 1) := by decide +kernel
theorem dL_law_478 : decode cL_law 478 = .ok (.iaload, 1) := by decide +kernel
theorem dL_law_479 : decode cL_law 479 = .ok (.invokevirtual 71, 3) := by decide +kernel
theorem dL_law_482 : decode cL_law 482 = .ok (.aload_n 2, 1) := by decide +kernel
theorem dL_law_483 : decode cL_law 483 = .ok (.aload_n 0, 1) := by decide +kernel
theorem dL_law_484 : decode cL_law 484 = .ok (.iload_n 3, 1) := by decide +kernel
theorem dL_law_485 : decode cL_law 485 = .ok (.iconst 1, 1) := by decide +kernel
theorem dL_law_486 : decode cL_law 486 = .ok (.iadd, 1) := by decide +kernel
theorem dL_law_487 : decode cL_law 487 = .ok (.iaload, 1) := by decide +kernel
theorem dL_law_488 : decode cL_law 488 = .ok (.aload_n 0, 1) := by decide +kernel
theorem dL_law_489 : decode cL_law 489 = .ok (.iload_n 3, 1) := by decide +kernel
theorem dL_law_490 : decode cL_law 490 = .ok (.iconst 2, 1) := by decide +kernel
theorem dL_law_491 : decode cL_law 491 = .ok (.iadd, 1) := by decide +kernel
theorem dL_law_492 : decode cL_law 492 = .ok (.iaload, 1) := by decide +kernel
theorem dL_law_493 : decode cL_law 493 = .ok (.aload_n 0, 1) := by decide +kernel
theorem dL_law_494 : decode cL_law 494 = .ok (.iload_n 3, 1) := by decide +kernel
theorem dL_law_495 : decode cL_law 495 = .ok (.iconst 3, 1) := by decide +kernel
theorem dL_law_496 : decode cL_law 496 = .ok (.iadd, 1) := by decide +kernel
theorem dL_law_497 : decode cL_law 497 = .ok (.iaload, 1) := by decide +kernel
theorem dL_law_498 : decode cL_law 498 = .ok (.invokevirtual 74, 3) := by decide +kernel
theorem dL_law_501 : decode cL_law 501 = .ok (.if_icmp .eq 246, 3) := by decide +kernel
theorem dL_law_504 : decode cL_law 504 = .ok (.iconst 0, 1) := by decide +kernel
theorem dL_law_505 : decode cL_law 505 = .ok (.ireturn, 1) := by decide +kernel
theorem dL_law_506 : decode cL_law 506 = .ok (.aload_n 1, 1) := by decide +kernel
theorem dL_law_507 : decode cL_law 507 = .ok (.aload_n 0, 1) := by decide +kernel
theorem dL_law_508 : decode cL_law 508 = .ok (.iload_n 3, 1) := by decide +kernel
theorem dL_law_509 : decode cL_law 509 = .ok (.iconst 1, 1) := by decide +kernel
theorem dL_law_510 : decode cL_law 510 = .ok (.iadd, 1) := by decide +kernel
theorem dL_law_511 : decode cL_law 511 = .ok (.iaload, 1) := by decide +kernel
theorem dL_law_512 : decode cL_law 512 = .ok (.aload_n 0, 1) := by decide +kernel
theorem dL_law_513 : decode cL_law 513 = .ok (.iload_n 3, 1) := by decide +kernel
theorem dL_law_514 : decode cL_law 514 = .ok (.iconst 2, 1) := by decide +kernel
theorem dL_law_515 : decode cL_law 515 = .ok (.iadd, 1) := by decide +kernel
theorem dL_law_516 : decode cL_law 516 = .ok (.iaload, 1) := by decide +kernel
theorem dL_law_517 : decode cL_law 517 = .ok (.invokevirtual 75, 3) := by decide +kernel
theorem dL_law_520 : decode cL_law 520 = .ok (.aload_n 2, 1) := by decide +kernel
theorem dL_law_521 : decode cL_law 521 = .ok (.aload_n 0, 1) := by decide +kernel
theorem dL_law_522 : decode cL_law 522 = .ok (.iload_n 3, 1) := by decide +kernel
theorem dL_law_523 : decode cL_law 523 = .ok (.iconst 1, 1) := by decide +kernel
theorem dL_law_524 : decode cL_law 524 = .ok (.iadd, 1) := by decide +kernel
theorem dL_law_525 : decode cL_law 525 = .ok (.iaload, 1) := by decide +kernel
theorem dL_law_526 : decode cL_law 526 = .ok (.aload_n 0, 1) := by decide +kernel
theorem dL_law_527 : decode cL_law 527 = .ok (.iload_n 3, 1) := by decide +kernel
theorem dL_law_528 : decode cL_law 528 = .ok (.iconst 2, 1) := by decide +kernel
theorem dL_law_529 : decode cL_law 529 = .ok (.iadd, 1) := by decide +kernel
theorem dL_law_530 : decode cL_law 530 = .ok (.iaload, 1) := by decide +kernel
theorem dL_law_531 : decode cL_law 531 = .ok (.invokevirtual 78, 3) := by decide +kernel
theorem dL_law_534 : decode cL_law 534 = .ok (.if_icmp .eq 213, 3) := by decide +kernel
theorem dL_law_537 : decode cL_law 537 = .ok (.iconst 0, 1) := by decide +kernel
theorem dL_law_538 : decode cL_law 538 = .ok (.ireturn, 1) := by decide +kernel
theorem dL_law_539 : decode cL_law 539 = .ok (.aload_n 1, 1) := by decide +kernel
theorem dL_law_540 : decode cL_law 540 = .ok (.aload_n 0, 1) := by decide +kernel
theorem dL_law_541 : decode cL_law 541 = .ok (.iload_n 3, 1) := by decide +kernel
theorem dL_law_542 : decode cL_law 542 = .ok (.iconst 1, 1) := by decide +kernel
theorem dL_law_543 : decode cL_law 543 = .ok (.iadd, 1) := by decide +kernel
theorem dL_law_544 : decode cL_law 544 = .ok (.iaload, 1) := by decide +kernel
theorem dL_law_545 : decode cL_law 545 = .ok (.aload_n 0, 1) := by decide +kernel
theorem dL_law_546 : decode cL_law 546 = .ok (.iload_n 3, 1) := by decide +kernel
theorem dL_law_547 : decode cL_law 547 = .ok (.iconst 2, 1) := by decide +kernel
theorem dL_law_548 : decode cL_law 548 = .ok (.iadd, 1) := by decide +kernel
theorem dL_law_549 : decode cL_law 549 = .ok (.iaload, 1) := by decide +kernel
theorem dL_law_550 : decode cL_law 550 = .ok (.aload_n 0, 1) := by decide +kernel
theorem dL_law_551 : decode cL_law 551 = .ok (.iload_n 3, 1) := by decide +kernel
theorem dL_law_552 : decode cL_law 552 = .ok (.iconst 3, 1) := by decide +kernel
theorem dL_law_553 : decode cL_law 553 = .ok (.iadd, 1) := by decide +kernel
theorem dL_law_554 : decode cL_law 554 = .ok (.iaload, 1) := by decide +kernel
theorem dL_law_555 : decode cL_law 555 = .ok (.invokevirtual 79, 3) := by decide +kernel
theorem dL_law_558 : decode cL_law 558 = .ok (.aload_n 2, 1) := by decide +kernel
theorem dL_law_559 : decode cL_law 559 = .ok (.aload_n 0, 1) := by decide +kernel
theorem dL_law_560 : decode cL_law 560 = .ok (.iload_n 3, 1) := by decide +kernel
theorem dL_law_561 : decode cL_law 561 = .ok (.iconst 1, 1) := by decide +kernel
theorem dL_law_562 : decode cL_law 562 = .ok (.iadd, 1) := by decide +kernel
theorem dL_law_563 : decode cL_law 563 = .ok (.iaload, 1) := by decide +kernel
theorem dL_law_564 : decode cL_law 564 = .ok (.aload_n 0, 1) := by decide +kernel
theorem dL_law_565 : decode cL_law 565 = .ok (.iload_n 3, 1) := by decide +kernel
theorem dL_law_566 : decode cL_law 566 = .ok (.iconst 2, 1) := by decide +kernel
theorem dL_law_567 : decode cL_law 567 = .ok (.iadd, 1) := by decide +kernel
theorem dL_law_568 : decode cL_law 568 = .ok (.iaload, 1) := by decide +kernel
theorem dL_law_569 : decode cL_law 569 = .ok (.aload_n 0, 1) := by decide +kernel
theorem dL_law_570 : decode cL_law 570 = .ok (.iload_n 3, 1) := by decide +kernel
theorem dL_law_571 : decode cL_law 571 = .ok (.iconst 3, 1) := by decide +kernel
theorem dL_law_572 : decode cL_law 572 = .ok (.iadd, 1) := by decide +kernel
theorem dL_law_573 : decode cL_law 573 = .ok (.iaload, 1) := by decide +kernel
theorem dL_law_574 : decode cL_law 574 = .ok (.invokevirtual 82, 3) := by decide +kernel
theorem dL_law_577 : decode cL_law 577 = .ok (.if_icmp .eq 170, 3) := by decide +kernel
theorem dL_law_580 : decode cL_law 580 = .ok (.iconst 0, 1) := by decide +kernel
theorem dL_law_581 : decode cL_law 581 = .ok (.ireturn, 1) := by decide +kernel
theorem dL_law_582 : decode cL_law 582 = .ok (.aload_n 1, 1) := by decide +kernel
theorem dL_law_583 : decode cL_law 583 = .ok (.aload_n 0, 1) := by decide +kernel
theorem dL_law_584 : decode cL_law 584 = .ok (.iload_n 3, 1) := by decide +kernel
theorem dL_law_585 : decode cL_law 585 = .ok (.iconst 1, 1) := by decide +kernel
theorem dL_law_586 : decode cL_law 586 = .ok (.iadd, 1) := by decide +kernel
theorem dL_law_587 : decode cL_law 587 = .ok (.iaload, 1) := by decide +kernel
theorem dL_law_588 : decode cL_law 588 = .ok (.aload_n 0, 1) := by decide +kernel
theorem dL_law_589 : decode cL_law 589 = .ok (.iload_n 3, 1) := by decide +kernel
theorem dL_law_590 : decode cL_law 590 = .ok (.iconst 2, 1) := by decide +kernel
theorem dL_law_591 : decode cL_law 591 = .ok (.iadd, 1) := by decide +kernel
theorem dL_law_592 : decode cL_law 592 = .ok (.iaload, 1) := by decide +kernel
theorem dL_law_593 : decode cL_law 593 = .ok (.aload_n 0, 1) := by decide +kernel
theorem dL_law_594 : decode cL_law 594 = .ok (.iload_n 3, 1) := by decide +kernel
theorem dL_law_595 : decode cL_law 595 = .ok (.iconst 3, 1) := by decide +kernel
theorem dL_law_596 : decode cL_law 596 = .ok (.iadd, 1) := by decide +kernel
theorem dL_law_597 : decode cL_law 597 = .ok (.iaload, 1) := by decide +kernel
theorem dL_law_598 : decode cL_law 598 = .ok (.invokevirtual 83, 3) := by decide +kernel
theorem dL_law_601 : decode cL_law 601 = .ok (.aload_n 2, 1) := by decide +kernel
theorem dL_law_602 : decode cL_law 602 = .ok (.aload_n 0, 1) := by decide +kernel
theorem dL_law_603 : decode cL_law 603 = .ok (.iload_n 3, 1) := by decide +kernel
theorem dL_law_604 : decode cL_law 604 = .ok (.iconst 1, 1) := by decide +kernel
theorem dL_law_605 : decode cL_law 605 = .ok (.iadd, 1) := by decide +kernel
theorem dL_law_606 : decode cL_law 606 = .ok (.iaload, 1) := by decide +kernel
theorem dL_law_607 : decode cL_law 607 = .ok (.aload_n 0, 1) := by decide +kernel
theorem dL_law_608 : decode cL_law 608 = .ok (.iload_n 3, 1) := by decide +kernel
theorem dL_law_609 : decode cL_law 609 = .ok (.iconst 2, 1) := by decide +kernel
theorem dL_law_610 : decode cL_law 610 = .ok (.iadd, 1) := by decide +kernel
theorem dL_law_611 : decode cL_law 611 = .ok (.iaload, 1) := by decide +kernel
theorem dL_law_612 : decode cL_law 612 = .ok (.aload_n 0, 1) := by decide +kernel
theorem dL_law_613 : decode cL_law 613 = .ok (.iload_n 3, 1) := by decide +kernel
theorem dL_law_614 : decode cL_law 614 = .ok (.iconst 3, 1) := by decide +kernel
theorem dL_law_615 : decode cL_law 615 = .ok (.iadd, 1) := by decide +kernel
theorem dL_law_616 : decode cL_law 616 = .ok (.iaload, 1) := by decide +kernel
theorem dL_law_617 : decode cL_law 617 = .ok (.invokevirtual 86, 3) := by decide +kernel
theorem dL_law_620 : decode cL_law 620 = .ok (.if_icmp .eq 127, 3) := by decide +kernel
theorem dL_law_623 : decode cL_law 623 = .ok (.iconst 0, 1) := by decide +kernel
theorem dL_law_624 : decode cL_law 624 = .ok (.ireturn, 1) := by decide +kernel
theorem dL_law_625 : decode cL_law 625 = .ok (.aload_n 1, 1) := by decide +kernel
theorem dL_law_626 : decode cL_law 626 = .ok (.aload_n 0, 1) := by decide +kernel
theorem dL_law_627 : decode cL_law 627 = .ok (.iload_n 3, 1) := by decide +kernel
theorem dL_law_628 : decode cL_law 628 = .ok (.iconst 1, 1) := by decide +kernel
theorem dL_law_629 : decode cL_law 629 = .ok (.iadd, 1) := by decide +kernel
theorem dL_law_630 : decode cL_law 630 = .ok (.iaload, 1) := by decide +kernel
theorem dL_law_631 : decode cL_law 631 = .ok (.aload_n 0, 1) := by decide +kernel
theorem dL_law_632 : decode cL_law 632 = .ok (.iload_n 3, 1) := by decide +kernel
theorem dL_law_633 : decode cL_law 633 = .ok (.iconst 2, 1) := by decide +kernel
theorem dL_law_634 : decode cL_law 634 = .ok (.iadd, 1) := by decide +kernel
theorem dL_law_635 : decode cL_law 635 = .ok (.iaload, 1) := by decide +kernel
theorem dL_law_636 : decode cL_law 636 = .ok (.invokevirtual 87, 3) := by decide +kernel
theorem dL_law_639 : decode cL_law 639 = .ok (.aload_n 2, 1) := by decide +kernel
theorem dL_law_640 : decode cL_law 640 = .ok (.aload_n 0, 1) := by decide +kernel
theorem dL_law_641 : decode cL_law 641 = .ok (.iload_n 3, 1) := by decide +kernel
theorem dL_law_642 : decode cL_law 642 = .ok (.iconst 1, 1) := by decide +kernel
theorem dL_law_643 : decode cL_law 643 = .ok (.iadd, 1) := by decide +kernel
theorem dL_law_644 : decode cL_law 644 = .ok (.iaload, 1) := by decide +kernel
theorem dL_law_645 : decode cL_law 645 = .ok (.aload_n 0, 1) := by decide +kernel
theorem dL_law_646 : decode cL_law 646 = .ok (.iload_n 3, 1) := by decide +kernel
theorem dL_law_647 : decode cL_law 647 = .ok (.iconst 2, 1) := by decide +kernel
theorem dL_law_648 : decode cL_law 648 = .ok (.iadd, 1) := by decide +kernel
theorem dL_law_649 : decode cL_law 649 = .ok (.iaload, 1) := by decide +kernel
theorem dL_law_650 : decode cL_law 650 = .ok (.invokevirtual 90, 3) := by decide +kernel
theorem dL_law_653 : decode cL_law 653 = .ok (.if_icmp .eq 94, 3) := by decide +kernel
theorem dL_law_656 : decode cL_law 656 = .ok (.iconst 0, 1) := by decide +kernel
theorem dL_law_657 : decode cL_law 657 = .ok (.ireturn, 1) := by decide +kernel
theorem dL_law_658 : decode cL_law 658 = .ok (.aload_n 1, 1) := by decide +kernel
theorem dL_law_659 : decode cL_law 659 = .ok (.aload_n 0, 1) := by decide +kernel
theorem dL_law_660 : decode cL_law 660 = .ok (.iload_n 3, 1) := by decide +kernel
theorem dL_law_661 : decode cL_law 661 = .ok (.iconst 1, 1) := by decide +kernel
theorem dL_law_662 : decode cL_law 662 = .ok (.iadd, 1) := by decide +kernel
theorem dL_law_663 : decode cL_law 663 = .ok (.iaload, 1) := by decide +kernel
theorem dL_law_664 : decode cL_law 664 = .ok (.aload_n 0, 1) := by decide +kernel
theorem dL_law_665 : decode cL_law 665 = .ok (.iload_n 3, 1) := by decide +kernel
theorem dL_law_666 : decode cL_law 666 = .ok (.iconst 2, 1) := by decide +kernel
theorem dL_law_667 : decode cL_law 667 = .ok (.iadd, 1) := by decide +kernel
theorem dL_law_668 : decode cL_law 668 = .ok (.iaload, 1) := by decide +kernel
theorem dL_law_669 : decode cL_law 669 = .ok (.invokevirtual 91, 3) := by decide +kernel
theorem dL_law_672 : decode cL_law 672 = .ok (.aload_n 2, 1) := by decide +kernel
theorem dL_law_673 : decode cL_law 673 = .ok (.aload_n 0, 1) := by decide +kernel
theorem dL_law_674 : decode cL_law 674 = .ok (.iload_n 3, 1) := by decide +kernel
theorem dL_law_675 : decode cL_law 675 = .ok (.iconst 1, 1) := by decide +kernel
theorem dL_law_676 : decode cL_law 676 = .ok (.iadd, 1) := by decide +kernel
theorem dL_law_677 : decode cL_law 677 = .ok (.iaload, 1) := by decide +kernel
theorem dL_law_678 : decode cL_law 678 = .ok (.aload_n 0, 1) := by decide +kernel
theorem dL_law_679 : decode cL_law 679 = .ok (.iload_n 3, 1) := by decide +kernel
theorem dL_law_680 : decode cL_law 680 = .ok (.iconst 2, 1) := by decide +kernel
theorem dL_law_681 : decode cL_law 681 = .ok (.iadd, 1) := by decide +kernel
theorem dL_law_682 : decode cL_law 682 = .ok (.iaload, 1) := by decide +kernel
theorem dL_law_683 : decode cL_law 683 = .ok (.invokevirtual 94, 3) := by decide +kernel
theorem dL_law_686 : decode cL_law 686 = .ok (.if_icmp .eq 61, 3) := by decide +kernel
theorem dL_law_689 : decode cL_law 689 = .ok (.iconst 0, 1) := by decide +kernel
theorem dL_law_690 : decode cL_law 690 = .ok (.ireturn, 1) := by decide +kernel
theorem dL_law_691 : decode cL_law 691 = .ok (.aload_n 1, 1) := by decide +kernel
theorem dL_law_692 : decode cL_law 692 = .ok (.aload_n 0, 1) := by decide +kernel
theorem dL_law_693 : decode cL_law 693 = .ok (.iload_n 3, 1) := by decide +kernel
theorem dL_law_694 : decode cL_law 694 = .ok (.iconst 1, 1) := by decide +kernel
theorem dL_law_695 : decode cL_law 695 = .ok (.iadd, 1) := by decide +kernel
theorem dL_law_696 : decode cL_law 696 = .ok (.iaload, 1) := by decide +kernel
theorem dL_law_697 : decode cL_law 697 = .ok (.aload_n 0, 1) := by decide +kernel
theorem dL_law_698 : decode cL_law 698 = .ok (.iload_n 3, 1) := by decide +kernel
theorem dL_law_699 : decode cL_law 699 = .ok (.iconst 2, 1) := by decide +kernel
theorem dL_law_700 : decode cL_law 700 = .ok (.iadd, 1) := by decide +kernel
theorem dL_law_701 : decode cL_law 701 = .ok (.iaload, 1) := by decide +kernel
theorem dL_law_702 : decode cL_law 702 = .ok (.invokevirtual 95, 3) := by decide +kernel
theorem dL_law_705 : decode cL_law 705 = .ok (.aload_n 2, 1) := by decide +kernel
theorem dL_law_706 : decode cL_law 706 = .ok (.aload_n 0, 1) := by decide +kernel
theorem dL_law_707 : decode cL_law 707 = .ok (.iload_n 3, 1) := by decide +kernel
theorem dL_law_708 : decode cL_law 708 = .ok (.iconst 1, 1) := by decide +kernel
theorem dL_law_709 : decode cL_law 709 = .ok (.iadd, 1) := by decide +kernel
theorem dL_law_710 : decode cL_law 710 = .ok (.iaload, 1) := by decide +kernel
theorem dL_law_711 : decode cL_law 711 = .ok (.aload_n 0, 1) := by decide +kernel
theorem dL_law_712 : decode cL_law 712 = .ok (.iload_n 3, 1) := by decide +kernel
theorem dL_law_713 : decode cL_law 713 = .ok (.iconst 2, 1) := by decide +kernel
theorem dL_law_714 : decode cL_law 714 = .ok (.iadd, 1) := by decide +kernel
theorem dL_law_715 : decode cL_law 715 = .ok (.iaload, 1) := by decide +kernel
theorem dL_law_716 : decode cL_law 716 = .ok (.invokevirtual 98, 3) := by decide +kernel
theorem dL_law_719 : decode cL_law 719 = .ok (.if_icmp .eq 28, 3) := by decide +kernel
theorem dL_law_722 : decode cL_law 722 = .ok (.iconst 0, 1) := by decide +kernel
theorem dL_law_723 : decode cL_law 723 = .ok (.ireturn, 1) := by decide +kernel
theorem dL_law_724 : decode cL_law 724 = .ok (.aload_n 1, 1) := by decide +kernel
theorem dL_law_725 : decode cL_law 725 = .ok (.aload_n 0, 1) := by decide +kernel
theorem dL_law_726 : decode cL_law 726 = .ok (.iload_n 3, 1) := by decide +kernel
theorem dL_law_727 : decode cL_law 727 = .ok (.iconst 1, 1) := by decide +kernel
theorem dL_law_728 : decode cL_law 728 = .ok (.iadd, 1) := by decide +kernel
theorem dL_law_729 : decode cL_law 729 = .ok (.iaload, 1) := by decide +kernel
theorem dL_law_730 : decode cL_law 730 = .ok (.invokevirtual 99, 3) := by decide +kernel
theorem dL_law_733 : decode cL_law 733 = .ok (.aload_n 2, 1) := by decide +kernel
theorem dL_law_734 : decode cL_law 734 = .ok (.aload_n 0, 1) := by decide +kernel
theorem dL_law_735 : decode cL_law 735 = .ok (.iload_n 3, 1) := by decide +kernel
theorem dL_law_736 : decode cL_law 736 = .ok (.iconst 1, 1) := by decide +kernel
theorem dL_law_737 : decode cL_law 737 = .ok (.iadd, 1) := by decide +kernel
theorem dL_law_738 : decode cL_law 738 = .ok (.iaload, 1) := by decide +kernel
theorem dL_law_739 : decode cL_law 739 = .ok (.invokevirtual 102, 3) := by decide +kernel
theorem dL_law_742 : decode cL_law 742 = .ok (.if_icmp .eq 5, 3) := by decide +kernel
theorem dL_law_745 : decode cL_law 745 = .ok (.iconst 0, 1) := by decide +kernel
theorem dL_law_746 : decode cL_law 746 = .ok (.ireturn, 1) := by decide +kernel
theorem dL_law_747 : decode cL_law 747 = .ok (.iinc 3 5, 3) := by decide +kernel
theorem dL_law_750 : decode cL_law 750 = .ok (.goto (-732), 3) := by decide +kernel
theorem dL_law_753 : decode cL_law 753 = .ok (.iconst 1, 1) := by decide +kernel
theorem dL_law_754 : decode cL_law 754 = .ok (.ireturn, 1) := by decide +kernel

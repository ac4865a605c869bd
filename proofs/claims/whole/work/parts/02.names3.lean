/-! decode rows, copied from claim/NAMES.whole.lean.txt -/
theorem dX6_putFactors_64 : decode cX6_putFactors 64 = .ok (.return_, 1) := by decide +kernel
theorem dX6_factor_0 : decode cX6_factor 0 = .ok (.iload_n 1, 1) := by decide +kernel
theorem dX6_factor_1 : decode cX6_factor 1 = .ok (.invokestatic 70, 3) := by decide +kernel
theorem dX6_factor_4 : decode cX6_factor 4 = .ok (.ifCond .eq 17, 3) := by decide +kernel
theorem dX6_factor_7 : decode cX6_factor 7 = .ok (.iload_n 2, 1) := by decide +kernel
theorem dX6_factor_8 : decode cX6_factor 8 = .ok (.invokestatic 70, 3) := by decide +kernel
theorem dX6_factor_11 : decode cX6_factor 11 = .ok (.ifCond .eq 10, 3) := by decide +kernel
theorem dX6_factor_14 : decode cX6_factor 14 = .ok (.iload_n 3, 1) := by decide +kernel
theorem dX6_factor_15 : decode cX6_factor 15 = .ok (.invokestatic 70, 3) := by decide +kernel
theorem dX6_factor_18 : decode cX6_factor 18 = .ok (.ifCond .ne 5, 3) := by decide +kernel
theorem dX6_factor_21 : decode cX6_factor 21 = .ok (.iconst (-1), 1) := by decide +kernel
theorem dX6_factor_22 : decode cX6_factor 22 = .ok (.ireturn, 1) := by decide +kernel
theorem dX6_factor_23 : decode cX6_factor 23 = .ok (.iload_n 2, 1) := by decide +kernel
theorem dX6_factor_24 : decode cX6_factor 24 = .ok (.iload_n 3, 1) := by decide +kernel
theorem dX6_factor_25 : decode cX6_factor 25 = .ok (.if_icmp .ne 6, 3) := by decide +kernel
theorem dX6_factor_28 : decode cX6_factor 28 = .ok (.bipush (-2), 2) := by decide +kernel
theorem dX6_factor_30 : decode cX6_factor 30 = .ok (.ireturn, 1) := by decide +kernel
theorem dX6_factor_31 : decode cX6_factor 31 = .ok (.aload_n 0, 1) := by decide +kernel
theorem dX6_factor_32 : decode cX6_factor 32 = .ok (.getfield 36, 3) := by decide +kernel
theorem dX6_factor_35 : decode cX6_factor 35 = .ok (.aload_n 0, 1) := by decide +kernel
theorem dX6_factor_36 : decode cX6_factor 36 = .ok (.getfield 12, 3) := by decide +kernel
theorem dX6_factor_39 : decode cX6_factor 39 = .ok (.iload_n 1, 1) := by decide +kernel
theorem dX6_factor_40 : decode cX6_factor 40 = .ok (.invokevirtual 76, 3) := by decide +kernel
theorem dX6_factor_43 : decode cX6_factor 43 = .ok (.iconst 0, 1) := by decide +kernel
theorem dX6_factor_44 : decode cX6_factor 44 = .ok (.bipush 8, 2) := by decide +kernel
theorem dX6_factor_46 : decode cX6_factor 46 = .ok (.aload_n 0, 1) := by decide +kernel
theorem dX6_factor_47 : decode cX6_factor 47 = .ok (.getfield 12, 3) := by decide +kernel
theorem dX6_factor_50 : decode cX6_factor 50 = .ok (.getfield 58, 3) := by decide +kernel
theorem dX6_factor_53 : decode cX6_factor 53 = .ok (.invokevirtual 138, 3) := by decide +kernel
theorem dX6_factor_56 : decode cX6_factor 56 = .ok (.aload_n 0, 1) := by decide +kernel
theorem dX6_factor_57 : decode cX6_factor 57 = .ok (.getfield 36, 3) := by decide +kernel
theorem dX6_factor_60 : decode cX6_factor 60 = .ok (.invokevirtual 142, 3) := by decide +kernel
theorem dX6_factor_63 : decode cX6_factor 63 = .ok (.ifCond .ne 6, 3) := by decide +kernel
theorem dX6_factor_66 : decode cX6_factor 66 = .ok (.bipush (-4), 2) := by decide +kernel
theorem dX6_factor_68 : decode cX6_factor 68 = .ok (.ireturn, 1) := by decide +kernel
theorem dX6_factor_69 : decode cX6_factor 69 = .ok (.aload_n 0, 1) := by decide +kernel
theorem dX6_factor_70 : decode cX6_factor 70 = .ok (.getfield 22, 3) := by decide +kernel
theorem dX6_factor_73 : decode cX6_factor 73 = .ok (.aload_n 0, 1) := by decide +kernel
theorem dX6_factor_74 : decode cX6_factor 74 = .ok (.getfield 12, 3) := by decide +kernel
theorem dX6_factor_77 : decode cX6_factor 77 = .ok (.invokevirtual 62, 3) := by decide +kernel
theorem dX6_factor_80 : decode cX6_factor 80 = .ok (.aload_n 0, 1) := by decide +kernel
theorem dX6_factor_81 : decode cX6_factor 81 = .ok (.aload_n 0, 1) := by decide +kernel
theorem dX6_factor_82 : decode cX6_factor 82 = .ok (.getfield 12, 3) := by decide +kernel
theorem dX6_factor_85 : decode cX6_factor 85 = .ok (.iload_n 2, 1) := by decide +kernel
theorem dX6_factor_86 : decode cX6_factor 86 = .ok (.invokevirtual 76, 3) := by decide +kernel
theorem dX6_factor_89 : decode cX6_factor 89 = .ok (.aload_n 0, 1) := by decide +kernel
theorem dX6_factor_90 : decode cX6_factor 90 = .ok (.getfield 12, 3) := by decide +kernel
theorem dX6_factor_93 : decode cX6_factor 93 = .ok (.iload_n 3, 1) := by decide +kernel
theorem dX6_factor_94 : decode cX6_factor 94 = .ok (.invokevirtual 76, 3) := by decide +kernel
theorem dX6_factor_97 : decode cX6_factor 97 = .ok (.invokevirtual 146, 3) := by decide +kernel
theorem dX6_factor_100 : decode cX6_factor 100 = .ok (.aload_n 0, 1) := by decide +kernel
theorem dX6_factor_101 : decode cX6_factor 101 = .ok (.getfield 36, 3) := by decide +kernel
theorem dX6_factor_104 : decode cX6_factor 104 = .ok (.getfield 150, 3) := by decide +kernel
theorem dX6_factor_107 : decode cX6_factor 107 = .ok (.ireturn, 1) := by decide +kernel
theorem dX7_divide_0 : decode cX7_divide 0 = .ok (.iconst 0, 1) := by decide +kernel
theorem dX7_divide_1 : decode cX7_divide 1 = .ok (.istore_n 1, 1) := by decide +kernel
theorem dX7_divide_2 : decode cX7_divide 2 = .ok (.iload_n 1, 1) := by decide +kernel
theorem dX7_divide_3 : decode cX7_divide 3 = .ok (.bipush 7, 2) := by decide +kernel
theorem dX7_divide_5 : decode cX7_divide 5 = .ok (.if_icmp .ge 141, 3) := by decide +kernel
theorem dX7_divide_8 : decode cX7_divide 8 = .ok (.aload_n 0, 1) := by decide +kernel
theorem dX7_divide_9 : decode cX7_divide 9 = .ok (.getfield 26, 3) := by decide +kernel
theorem dX7_divide_12 : decode cX7_divide 12 = .ok (.bipush 9, 2) := by decide +kernel
theorem dX7_divide_14 : decode cX7_divide 14 = .ok (.iload_n 1, 1) := by decide +kernel
theorem dX7_divide_15 : decode cX7_divide 15 = .ok (.imul, 1) := by decide +kernel
theorem dX7_divide_16 : decode cX7_divide 16 = .ok (.iload_n 1, 1) := by decide +kernel
theorem dX7_divide_17 : decode cX7_divide 17 = .ok (.iadd, 1) := by decide +kernel
theorem dX7_divide_18 : decode cX7_divide 18 = .ok (.iaload, 1) := by decide +kernel
theorem dX7_divide_19 : decode cX7_divide 19 = .ok (.ifCond .ne 5, 3) := by decide +kernel
theorem dX7_divide_22 : decode cX7_divide 22 = .ok (.iconst 0, 1) := by decide +kernel
theorem dX7_divide_23 : decode cX7_divide 23 = .ok (.ireturn, 1) := by decide +kernel
theorem dX7_divide_24 : decode cX7_divide 24 = .ok (.iload_n 1, 1) := by decide +kernel
theorem dX7_divide_25 : decode cX7_divide 25 = .ok (.iconst 1, 1) := by decide +kernel
theorem dX7_divide_26 : decode cX7_divide 26 = .ok (.iadd, 1) := by decide +kernel
theorem dX7_divide_27 : decode cX7_divide 27 = .ok (.istore_n 2, 1) := by decide +kernel
theorem dX7_divide_28 : decode cX7_divide 28 = .ok (.iload_n 2, 1) := by decide +kernel
theorem dX7_divide_29 : decode cX7_divide 29 = .ok (.bipush 8, 2) := by decide +kernel
theorem dX7_divide_31 : decode cX7_divide 31 = .ok (.if_icmp .ge 109, 3) := by decide +kernel
theorem dX7_divide_34 : decode cX7_divide 34 = .ok (.aload_n 0, 1) := by decide +kernel
theorem dX7_divide_35 : decode cX7_divide 35 = .ok (.aload_n 0, 1) := by decide +kernel
theorem dX7_divide_36 : decode cX7_divide 36 = .ok (.getfield 26, 3) := by decide +kernel
theorem dX7_divide_39 : decode cX7_divide 39 = .ok (.bipush 9, 2) := by decide +kernel
theorem dX7_divide_41 : decode cX7_divide 41 = .ok (.iload_n 2, 1) := by decide +kernel
theorem dX7_divide_42 : decode cX7_divide 42 = .ok (.imul, 1) := by decide +kernel
theorem dX7_divide_43 : decode cX7_divide 43 = .ok (.iload_n 1, 1) := by decide +kernel
theorem dX7_divide_44 : decode cX7_divide 44 = .ok (.iadd, 1) := by decide +kernel
theorem dX7_divide_45 : decode cX7_divide 45 = .ok (.iaload, 1) := by decide +kernel
theorem dX7_divide_46 : decode cX7_divide 46 = .ok (.aload_n 0, 1) := by decide +kernel
theorem dX7_divide_47 : decode cX7_divide 47 = .ok (.getfield 26, 3) := by decide +kernel
theorem dX7_divide_50 : decode cX7_divide 50 = .ok (.bipush 9, 2) := by decide +kernel
theorem dX7_divide_52 : decode cX7_divide 52 = .ok (.iload_n 1, 1) := by decide +kernel
theorem dX7_divide_53 : decode cX7_divide 53 = .ok (.imul, 1) := by decide +kernel
theorem dX7_divide_54 : decode cX7_divide 54 = .ok (.iload_n 1, 1) := by decide +kernel
theorem dX7_divide_55 : decode cX7_divide 55 = .ok (.iadd, 1) := by decide +kernel
theorem dX7_divide_56 : decode cX7_divide 56 = .ok (.iaload, 1) := by decide +kernel
theorem dX7_divide_57 : decode cX7_divide 57 = .ok (.invokevirtual 91, 3) := by decide +kernel
theorem dX7_divide_60 : decode cX7_divide 60 = .ok (.istore_n 3, 1) := by decide +kernel
theorem dX7_divide_61 : decode cX7_divide 61 = .ok (.iload_n 1, 1) := by decide +kernel
theorem dX7_divide_62 : decode cX7_divide 62 = .ok (.iconst 1, 1) := by decide +kernel
theorem dX7_divide_63 : decode cX7_divide 63 = .ok (.iadd, 1) := by decide +kernel
theorem dX7_divide_64 : decode cX7_divide 64 = .ok (.istore 4, 2) := by decide +kernel
theorem dX7_divide_66 : decode cX7_divide 66 = .ok (.iload 4, 2) := by decide +kernel
theorem dX7_divide_68 : decode cX7_divide 68 = .ok (.bipush 8, 2) := by decide +kernel
theorem dX7_divide_70 : decode cX7_divide 70 = .ok (.if_icmp .ge 52, 3) := by decide +kernel
theorem dX7_divide_73 : decode cX7_divide 73 = .ok (.aload_n 0, 1) := by decide +kernel
theorem dX7_divide_74 : decode cX7_divide 74 = .ok (.getfield 26, 3) := by decide +kernel
theorem dX7_divide_77 : decode cX7_divide 77 = .ok (.bipush 9, 2) := by decide +kernel
theorem dX7_divide_79 : decode cX7_divide 79 = .ok (.iload_n 2, 1) := by decide +kernel
theorem dX7_divide_80 : decode cX7_divide 80 = .ok (.imul, 1) := by decide +kernel
theorem dX7_divide_81 : decode cX7_divide 81 = .ok (.iload 4, 2) := by decide +kernel
theorem dX7_divide_83 : decode cX7_divide 83 = .ok (.iadd, 1) := by decide +kernel
theorem dX7_divide_84 : decode cX7_divide 84 = .ok (.aload_n 0, 1) := by decide +kernel
theorem dX7_divide_85 : decode cX7_divide 85 = .ok (.aload_n 0, 1) := by decide +kernel
theorem dX7_divide_86 : decode cX7_divide 86 = .ok (.getfield 26, 3) := by decide +kernel
theorem dX7_divide_89 : decode cX7_divide 89 = .ok (.bipush 9, 2) := by decide +kernel
theorem dX7_divide_91 : decode cX7_divide 91 = .ok (.iload_n 2, 1) := by decide +kernel
theorem dX7_divide_92 : decode cX7_divide 92 = .ok (.imul, 1) := by decide +kernel
theorem dX7_divide_93 : decode cX7_divide 93 = .ok (.iload 4, 2) := by decide +kernel
theorem dX7_divide_95 : decode cX7_divide 95 = .ok (.iadd, 1) := by decide +kernel
theorem dX7_divide_96 : decode cX7_divide 96 = .ok (.iaload, 1) := by decide +kernel
theorem dX7_divide_97 : decode cX7_divide 97 = .ok (.iload_n 3, 1) := by decide +kernel
theorem dX7_divide_98 : decode cX7_divide 98 = .ok (.aload_n 0, 1) := by decide +kernel
theorem dX7_divide_99 : decode cX7_divide 99 = .ok (.getfield 26, 3) := by decide +kernel
theorem dX7_divide_102 : decode cX7_divide 102 = .ok (.bipush 9, 2) := by decide +kernel
theorem dX7_divide_104 : decode cX7_divide 104 = .ok (.iload_n 1, 1) := by decide +kernel
theorem dX7_divide_105 : decode cX7_divide 105 = .ok (.imul, 1) := by decide +kernel
theorem dX7_divide_106 : decode cX7_divide 106 = .ok (.iload 4, 2) := by decide +kernel
theorem dX7_divide_108 : decode cX7_divide 108 = .ok (.iadd, 1) := by decide +kernel
theorem dX7_divide_109 : decode cX7_divide 109 = .ok (.iaload, 1) := by decide +kernel
theorem dX7_divide_110 : decode cX7_divide 110 = .ok (.imul, 1) := by decide +kernel
theorem dX7_divide_111 : decode cX7_divide 111 = .ok (.isub, 1) := by decide +kernel
theorem dX7_divide_112 : decode cX7_divide 112 = .ok (.invokevirtual 54, 3) := by decide +kernel
theorem dX7_divide_115 : decode cX7_divide 115 = .ok (.iastore, 1) := by decide +kernel
theorem dX7_divide_116 : decode cX7_divide 116 = .ok (.iinc 4 1, 3) := by decide +kernel
theorem dX7_divide_119 : decode cX7_divide 119 = .ok (.goto (-53), 3) := by decide +kernel
theorem dX7_divide_122 : decode cX7_divide 122 = .ok (.aload_n 0, 1) := by decide +kernel
theorem dX7_divide_123 : decode cX7_divide 123 = .ok (.getfield 26, 3) := by decide +kernel
theorem dX7_divide_126 : decode cX7_divide 126 = .ok (.bipush 9, 2) := by decide +kernel
theorem dX7_divide_128 : decode cX7_divide 128 = .ok (.iload_n 2, 1) := by decide +kernel
theorem dX7_divide_129 : decode cX7_divide 129 = .ok (.imul, 1) := by decide +kernel
theorem dX7_divide_130 : decode cX7_divide 130 = .ok (.iload_n 1, 1) := by decide +kernel
theorem dX7_divide_131 : decode cX7_divide 131 = .ok (.iadd, 1) := by decide +kernel
theorem dX7_divide_132 : decode cX7_divide 132 = .ok (.iload_n 3, 1) := by decide +kernel
theorem dX7_divide_133 : decode cX7_divide 133 = .ok (.iastore, 1) := by decide +kernel
theorem dX7_divide_134 : decode cX7_divide 134 = .ok (.iinc 2 1, 3) := by decide +kernel
theorem dX7_divide_137 : decode cX7_divide 137 = .ok (.goto (-109), 3) := by decide +kernel
theorem dX7_divide_140 : decode cX7_divide 140 = .ok (.iinc 1 1, 3) := by decide +kernel
theorem dX7_divide_143 : decode cX7_divide 143 = .ok (.goto (-141), 3) := by decide +kernel
theorem dX7_divide_146 : decode cX7_divide 146 = .ok (.iconst 1, 1) := by decide +kernel
theorem dX7_divide_147 : decode cX7_divide 147 = .ok (.ireturn, 1) := by decide +kernel
theorem dX7_factor_0 : decode cX7_factor 0 = .ok (.iload_n 1, 1) := by decide +kernel
theorem dX7_factor_1 : decode cX7_factor 1 = .ok (.invokestatic 62, 3) := by decide +kernel
theorem dX7_factor_4 : decode cX7_factor 4 = .ok (.ifCond .ne 17, 3) := by decide +kernel
theorem dX7_factor_7 : decode cX7_factor 7 = .ok (.iload_n 2, 1) := by decide +kernel
theorem dX7_factor_8 : decode cX7_factor 8 = .ok (.invokestatic 62, 3) := by decide +kernel
theorem dX7_factor_11 : decode cX7_factor 11 = .ok (.ifCond .ne 10, 3) := by decide +kernel
theorem dX7_factor_14 : decode cX7_factor 14 = .ok (.iload_n 3, 1) := by decide +kernel
theorem dX7_factor_15 : decode cX7_factor 15 = .ok (.invokestatic 62, 3) := by decide +kernel
theorem dX7_factor_18 : decode cX7_factor 18 = .ok (.ifCond .eq 5, 3) := by decide +kernel
theorem dX7_factor_21 : decode cX7_factor 21 = .ok (.iconst (-1), 1) := by decide +kernel
theorem dX7_factor_22 : decode cX7_factor 22 = .ok (.ireturn, 1) := by decide +kernel
theorem dX7_factor_23 : decode cX7_factor 23 = .ok (.iload_n 2, 1) := by decide +kernel
theorem dX7_factor_24 : decode cX7_factor 24 = .ok (.iload_n 3, 1) := by decide +kernel
theorem dX7_factor_25 : decode cX7_factor 25 = .ok (.if_icmp .ne 6, 3) := by decide +kernel
theorem dX7_factor_28 : decode cX7_factor 28 = .ok (.bipush (-2), 2) := by decide +kernel
theorem dX7_factor_30 : decode cX7_factor 30 = .ok (.ireturn, 1) := by decide +kernel
theorem dX7_factor_31 : decode cX7_factor 31 = .ok (.aload_n 0, 1) := by decide +kernel
theorem dX7_factor_32 : decode cX7_factor 32 = .ok (.iload_n 1, 1) := by decide +kernel
theorem dX7_factor_33 : decode cX7_factor 33 = .ok (.iconst 0, 1) := by decide +kernel
theorem dX7_factor_34 : decode cX7_factor 34 = .ok (.iconst 0, 1) := by decide +kernel
theorem dX7_factor_35 : decode cX7_factor 35 = .ok (.bipush 8, 2) := by decide +kernel
theorem dX7_factor_37 : decode cX7_factor 37 = .ok (.invokevirtual 100, 3) := by decide +kernel
theorem dX7_factor_40 : decode cX7_factor 40 = .ok (.aload_n 0, 1) := by decide +kernel
theorem dX7_factor_41 : decode cX7_factor 41 = .ok (.invokevirtual 150, 3) := by decide +kernel
theorem dX7_factor_44 : decode cX7_factor 44 = .ok (.ifCond .ne 6, 3) := by decide +kernel
theorem dX7_factor_47 : decode cX7_factor 47 = .ok (.bipush (-4), 2) := by decide +kernel
theorem dX7_factor_49 : decode cX7_factor 49 = .ok (.ireturn, 1) := by decide +kernel
theorem dX7_factor_50 : decode cX7_factor 50 = .ok (.aload_n 0, 1) := by decide +kernel
theorem dX7_factor_51 : decode cX7_factor 51 = .ok (.invokevirtual 47, 3) := by decide +kernel
theorem dX7_factor_54 : decode cX7_factor 54 = .ok (.aload_n 0, 1) := by decide +kernel
theorem dX7_factor_55 : decode cX7_factor 55 = .ok (.iconst 1, 1) := by decide +kernel
theorem dX7_factor_56 : decode cX7_factor 56 = .ok (.invokevirtual 54, 3) := by decide +kernel
theorem dX7_factor_59 : decode cX7_factor 59 = .ok (.istore 4, 2) := by decide +kernel
theorem dX7_factor_61 : decode cX7_factor 61 = .ok (.iconst 0, 1) := by decide +kernel
theorem dX7_factor_62 : decode cX7_factor 62 = .ok (.istore 5, 2) := by decide +kernel
theorem dX7_factor_64 : decode cX7_factor 64 = .ok (.iload 5, 2) := by decide +kernel
theorem dX7_factor_66 : decode cX7_factor 66 = .ok (.bipush 8, 2) := by decide +kernel
theorem dX7_factor_68 : decode cX7_factor 68 = .ok (.if_icmp .ge 129, 3) := by decide +kernel
theorem dX7_factor_71 : decode cX7_factor 71 = .ok (.iconst 0, 1) := by decide +kernel
theorem dX7_factor_72 : decode cX7_factor 72 = .ok (.istore 6, 2) := by decide +kernel
theorem dX7_factor_74 : decode cX7_factor 74 = .ok (.iload 6, 2) := by decide +kernel
theorem dX7_factor_76 : decode cX7_factor 76 = .ok (.bipush 8, 2) := by decide +kernel
theorem dX7_factor_78 : decode cX7_factor 78 = .ok (.if_icmp .ge 91, 3) := by decide +kernel
theorem dX7_factor_81 : decode cX7_factor 81 = .ok (.aload_n 0, 1) := by decide +kernel
theorem dX7_factor_82 : decode cX7_factor 82 = .ok (.getfield 26, 3) := by decide +kernel
theorem dX7_factor_85 : decode cX7_factor 85 = .ok (.bipush 9, 2) := by decide +kernel
theorem dX7_factor_87 : decode cX7_factor 87 = .ok (.iload 5, 2) := by decide +kernel
theorem dX7_factor_89 : decode cX7_factor 89 = .ok (.imul, 1) := by decide +kernel
theorem dX7_factor_90 : decode cX7_factor 90 = .ok (.iload 6, 2) := by decide +kernel
theorem dX7_factor_92 : decode cX7_factor 92 = .ok (.iadd, 1) := by decide +kernel
theorem dX7_factor_93 : decode cX7_factor 93 = .ok (.iaload, 1) := by decide +kernel
theorem dX7_factor_94 : decode cX7_factor 94 = .ok (.istore 7, 2) := by decide +kernel
theorem dX7_factor_96 : decode cX7_factor 96 = .ok (.aload_n 0, 1) := by decide +kernel
theorem dX7_factor_97 : decode cX7_factor 97 = .ok (.getfield 7, 3) := by decide +kernel
theorem dX7_factor_100 : decode cX7_factor 100 = .ok (.iload_n 2, 1) := by decide +kernel
theorem dX7_factor_101 : decode cX7_factor 101 = .ok (.iload 5, 2) := by decide +kernel
theorem dX7_factor_103 : decode cX7_factor 103 = .ok (.iload 6, 2) := by decide +kernel
theorem dX7_factor_105 : decode cX7_factor 105 = .ok (.invokestatic 68, 3) := by decide +kernel
theorem dX7_factor_108 : decode cX7_factor 108 = .ok (.iload 5, 2) := by decide +kernel
theorem dX7_factor_110 : decode cX7_factor 110 = .ok (.iload 6, 2) := by decide +kernel
theorem dX7_factor_112 : decode cX7_factor 112 = .ok (.if_icmp .le 8, 3) := by decide +kernel
theorem dX7_factor_115 : decode cX7_factor 115 = .ok (.iload 7, 2) := by decide +kernel
theorem dX7_factor_117 : decode cX7_factor 117 = .ok (.goto 19, 3) := by decide +kernel
theorem dX7_factor_120 : decode cX7_factor 120 = .ok (.iload 5, 2) := by decide +kernel
theorem dX7_factor_122 : decode cX7_factor 122 = .ok (.iload 6, 2) := by decide +kernel
theorem dX7_factor_124 : decode cX7_factor 124 = .ok (.if_icmp .ne 11, 3) := by decide +kernel
theorem dX7_factor_127 : decode cX7_factor 127 = .ok (.aload_n 0, 1) := by decide +kernel
theorem dX7_factor_128 : decode cX7_factor 128 = .ok (.iconst 1, 1) := by decide +kernel
theorem dX7_factor_129 : decode cX7_factor 129 = .ok (.invokevirtual 54, 3) := by decide +kernel
theorem dX7_factor_132 : decode cX7_factor 132 = .ok (.goto 4, 3) := by decide +kernel
theorem dX7_factor_135 : decode cX7_factor 135 = .ok (.iconst 0, 1) := by decide +kernel
theorem dX7_factor_136 : decode cX7_factor 136 = .ok (.iastore, 1) := by decide +kernel
theorem dX7_factor_137 : decode cX7_factor 137 = .ok (.aload_n 0, 1) := by decide +kernel
theorem dX7_factor_138 : decode cX7_factor 138 = .ok (.getfield 7, 3) := by decide +kernel
theorem dX7_factor_141 : decode cX7_factor 141 = .ok (.iload_n 3, 1) := by decide +kernel
theorem dX7_factor_142 : decode cX7_factor 142 = .ok (.iload 5, 2) := by decide +kernel
theorem dX7_factor_144 : decode cX7_factor 144 = .ok (.iload 6, 2) := by decide +kernel
theorem dX7_factor_146 : decode cX7_factor 146 = .ok (.invokestatic 68, 3) := by decide +kernel
theorem dX7_factor_149 : decode cX7_factor 149 = .ok (.iload 5, 2) := by decide +kernel
theorem dX7_factor_151 : decode cX7_factor 151 = .ok (.iload 6, 2) := by decide +kernel
theorem dX7_factor_153 : decode cX7_factor 153 = .ok (.if_icmp .le 7, 3) := by decide +kernel
theorem dX7_factor_156 : decode cX7_factor 156 = .ok (.iconst 0, 1) := by decide +kernel
theorem dX7_factor_157 : decode cX7_factor 157 = .ok (.goto 5, 3) := by decide +kernel
theorem dX7_factor_160 : decode cX7_factor 160 = .ok (.iload 7, 2) := by decide +kernel
theorem dX7_factor_162 : decode cX7_factor 162 = .ok (.iastore, 1) := by decide +kernel
theorem dX7_factor_163 : decode cX7_factor 163 = .ok (.iinc 6 1, 3) := by decide +kernel
theorem dX7_factor_166 : decode cX7_factor 166 = .ok (.goto (-92), 3) := by decide +kernel
theorem dX7_factor_169 : decode cX7_factor 169 = .ok (.aload_n 0, 1) := by decide +kernel
theorem dX7_factor_170 : decode cX7_factor 170 = .ok (.iload 4, 2) := by decide +kernel
theorem dX7_factor_172 : decode cX7_factor 172 = .ok (.aload_n 0, 1) := by decide +kernel
theorem dX7_factor_173 : decode cX7_factor 173 = .ok (.getfield 26, 3) := by decide +kernel
theorem dX7_factor_176 : decode cX7_factor 176 = .ok (.bipush 9, 2) := by decide +kernel
theorem dX7_factor_178 : decode cX7_factor 178 = .ok (.iload 5, 2) := by decide +kernel
theorem dX7_factor_180 : decode cX7_factor 180 = .ok (.imul, 1) := by decide +kernel
theorem dX7_factor_181 : decode cX7_factor 181 = .ok (.iload 5, 2) := by decide +kernel
theorem dX7_factor_183 : decode cX7_factor 183 = .ok (.iadd, 1) := by decide +kernel
theorem dX7_factor_184 : decode cX7_factor 184 = .ok (.iaload, 1) := by decide +kernel
theorem dX7_factor_185 : decode cX7_factor 185 = .ok (.imul, 1) := by decide +kernel
theorem dX7_factor_186 : decode cX7_factor 186 = .ok (.invokevirtual 54, 3) := by decide +kernel
theorem dX7_factor_189 : decode cX7_factor 189 = .ok (.istore 4, 2) := by decide +kernel
theorem dX7_factor_191 : decode cX7_factor 191 = .ok (.iinc 5 1, 3) := by decide +kernel
theorem dX7_factor_194 : decode cX7_factor 194 = .ok (.goto (-130), 3) := by decide +kernel
theorem dX7_factor_197 : decode cX7_factor 197 = .ok (.iload 4, 2) := by decide +kernel
theorem dX7_factor_199 : decode cX7_factor 199 = .ok (.ireturn, 1) := by decide +kernel
theorem dX5_startOfQuarter_0 : decode cX5_startOfQuarter 0 = .ok (.iload_n 0, 1) := by decide +kernel
theorem dX5_startOfQuarter_1 : decode cX5_startOfQuarter 1 = .ok (.iload_n 2, 1) := by decide +kernel
theorem dX5_startOfQuarter_2 : decode cX5_startOfQuarter 2 = .ok (.iload_n 1, 1) := by decide +kernel
theorem dX5_startOfQuarter_3 : decode cX5_startOfQuarter 3 = .ok (.iload_n 1, 1) := by decide +kernel
theorem dX5_startOfQuarter_4 : decode cX5_startOfQuarter 4 = .ok (.imul, 1) := by decide +kernel
theorem dX5_startOfQuarter_5 : decode cX5_startOfQuarter 5 = .ok (.iconst 4, 1) := by decide +kernel
theorem dX5_startOfQuarter_6 : decode cX5_startOfQuarter 6 = .ok (.idiv, 1) := by decide +kernel
theorem dX5_startOfQuarter_7 : decode cX5_startOfQuarter 7 = .ok (.imul, 1) := by decide +kernel
theorem dX5_startOfQuarter_8 : decode cX5_startOfQuarter 8 = .ok (.iadd, 1) := by decide +kernel
theorem dX5_startOfQuarter_9 : decode cX5_startOfQuarter 9 = .ok (.ireturn, 1) := by decide +kernel
theorem dX5_putSize_0 : decode cX5_putSize 0 = .ok (.iload_n 1, 1) := by decide +kernel
theorem dX5_putSize_1 : decode cX5_putSize 1 = .ok (.ifCond .lt 16, 3) := by decide +kernel
theorem dX5_putSize_4 : decode cX5_putSize 4 = .ok (.iload_n 1, 1) := by decide +kernel
theorem dX5_putSize_5 : decode cX5_putSize 5 = .ok (.bipush 64, 2) := by decide +kernel
theorem dX5_putSize_7 : decode cX5_putSize 7 = .ok (.if_icmp .ge 10, 3) := by decide +kernel
theorem dX5_putSize_10 : decode cX5_putSize 10 = .ok (.aload_n 0, 1) := by decide +kernel
theorem dX5_putSize_11 : decode cX5_putSize 11 = .ok (.getfield 9, 3) := by decide +kernel
theorem dX5_putSize_14 : decode cX5_putSize 14 = .ok (.iload_n 1, 1) := by decide +kernel
theorem dX5_putSize_15 : decode cX5_putSize 15 = .ok (.iload_n 2, 1) := by decide +kernel
theorem dX5_putSize_16 : decode cX5_putSize 16 = .ok (.iastore, 1) := by decide +kernel
theorem dX5_putSize_17 : decode cX5_putSize 17 = .ok (.return_, 1) := by decide +kernel
theorem dX5_cut_0 : decode cX5_cut 0 = .ok (.aload_n 0, 1) := by decide +kernel
theorem dX5_cut_1 : decode cX5_cut 1 = .ok (.iload_n 1, 1) := by decide +kernel
theorem dX5_cut_2 : decode cX5_cut 2 = .ok (.invokevirtual 25, 3) := by decide +kernel
theorem dX5_cut_5 : decode cX5_cut 5 = .ok (.istore_n 2, 1) := by decide +kernel
theorem dX5_cut_6 : decode cX5_cut 6 = .ok (.iconst 0, 1) := by decide +kernel
theorem dX5_cut_7 : decode cX5_cut 7 = .ok (.istore_n 3, 1) := by decide +kernel
theorem dX5_cut_8 : decode cX5_cut 8 = .ok (.iload_n 3, 1) := by decide +kernel
theorem dX5_cut_9 : decode cX5_cut 9 = .ok (.iconst 4, 1) := by decide +kernel
theorem dX5_cut_10 : decode cX5_cut 10 = .ok (.if_icmp .ge 22, 3) := by decide +kernel
theorem dX5_cut_13 : decode cX5_cut 13 = .ok (.aload_n 0, 1) := by decide +kernel
theorem dX5_cut_14 : decode cX5_cut 14 = .ok (.iload_n 1, 1) := by decide +kernel
theorem dX5_cut_15 : decode cX5_cut 15 = .ok (.iload_n 2, 1) := by decide +kernel
theorem dX5_cut_16 : decode cX5_cut 16 = .ok (.iload_n 3, 1) := by decide +kernel
theorem dX5_cut_17 : decode cX5_cut 17 = .ok (.invokestatic 28, 3) := by decide +kernel
theorem dX5_cut_20 : decode cX5_cut 20 = .ok (.iload_n 2, 1) := by decide +kernel
theorem dX5_cut_21 : decode cX5_cut 21 = .ok (.iconst 2, 1) := by decide +kernel
theorem dX5_cut_22 : decode cX5_cut 22 = .ok (.idiv, 1) := by decide +kernel
theorem dX5_cut_23 : decode cX5_cut 23 = .ok (.invokevirtual 32, 3) := by decide +kernel
theorem dX5_cut_26 : decode cX5_cut 26 = .ok (.iinc 3 1, 3) := by decide +kernel
theorem dX5_cut_29 : decode cX5_cut 29 = .ok (.goto (-21), 3) := by decide +kernel
theorem dX5_cut_32 : decode cX5_cut 32 = .ok (.return_, 1) := by decide +kernel
theorem dX5_leavesBefore_0 : decode cX5_leavesBefore 0 = .ok (.iconst 0, 1) := by decide +kernel
theorem dX5_leavesBefore_1 : decode cX5_leavesBefore 1 = .ok (.istore_n 2, 1) := by decide +kernel
theorem dX5_leavesBefore_2 : decode cX5_leavesBefore 2 = .ok (.iconst 0, 1) := by decide +kernel
theorem dX5_leavesBefore_3 : decode cX5_leavesBefore 3 = .ok (.istore_n 3, 1) := by decide +kernel
theorem dX5_leavesBefore_4 : decode cX5_leavesBefore 4 = .ok (.iload_n 3, 1) := by decide +kernel
theorem dX5_leavesBefore_5 : decode cX5_leavesBefore 5 = .ok (.iload_n 1, 1) := by decide +kernel
theorem dX5_leavesBefore_6 : decode cX5_leavesBefore 6 = .ok (.if_icmp .ge 27, 3) := by decide +kernel
theorem dX5_leavesBefore_9 : decode cX5_leavesBefore 9 = .ok (.iload_n 3, 1) := by decide +kernel
theorem dX5_leavesBefore_10 : decode cX5_leavesBefore 10 = .ok (.bipush 64, 2) := by decide +kernel
theorem dX5_leavesBefore_12 : decode cX5_leavesBefore 12 = .ok (.if_icmp .ge 21, 3) := by decide +kernel
theorem dX5_leavesBefore_15 : decode cX5_leavesBefore 15 = .ok (.aload_n 0, 1) := by decide +kernel
theorem dX5_leavesBefore_16 : decode cX5_leavesBefore 16 = .ok (.getfield 9, 3) := by decide +kernel
theorem dX5_leavesBefore_19 : decode cX5_leavesBefore 19 = .ok (.iload_n 3, 1) := by decide +kernel
theorem dX5_leavesBefore_20 : decode cX5_leavesBefore 20 = .ok (.iaload, 1) := by decide +kernel
theorem dX5_leavesBefore_21 : decode cX5_leavesBefore 21 = .ok (.ifCond .le 6, 3) := by decide +kernel
theorem dX5_leavesBefore_24 : decode cX5_leavesBefore 24 = .ok (.iinc 2 1, 3) := by decide +kernel
theorem dX5_leavesBefore_27 : decode cX5_leavesBefore 27 = .ok (.iinc 3 1, 3) := by decide +kernel
theorem dX5_leavesBefore_30 : decode cX5_leavesBefore 30 = .ok (.goto (-26), 3) := by decide +kernel
theorem dX5_leavesBefore_33 : decode cX5_leavesBefore 33 = .ok (.iload_n 2, 1) := by decide +kernel
theorem dX5_leavesBefore_34 : decode cX5_leavesBefore 34 = .ok (.ireturn, 1) := by decide +kernel
theorem dX5_leaves_0 : decode cX5_leaves 0 = .ok (.aload_n 0, 1) := by decide +kernel
theorem dX5_leaves_1 : decode cX5_leaves 1 = .ok (.bipush 64, 2) := by decide +kernel
theorem dX5_leaves_3 : decode cX5_leaves 3 = .ok (.invokevirtual 22, 3) := by decide +kernel
theorem dX5_leaves_6 : decode cX5_leaves 6 = .ok (.ireturn, 1) := by decide +kernel
theorem dX6_split_0 : decode cX6_split 0 = .ok (.aload_n 0, 1) := by decide +kernel
theorem dX6_split_1 : decode cX6_split 1 = .ok (.iload_n 1, 1) := by decide +kernel
theorem dX6_split_2 : decode cX6_split 2 = .ok (.iload_n 2, 1) := by decide +kernel
theorem dX6_split_3 : decode cX6_split 3 = .ok (.invokevirtual 90, 3) := by decide +kernel
theorem dX6_split_6 : decode cX6_split 6 = .ok (.istore_n 3, 1) := by decide +kernel
theorem dX6_split_7 : decode cX6_split 7 = .ok (.iload_n 3, 1) := by decide +kernel
theorem dX6_split_8 : decode cX6_split 8 = .ok (.iconst (-1), 1) := by decide +kernel
theorem dX6_split_9 : decode cX6_split 9 = .ok (.if_icmp .ne 5, 3) := by decide +kernel
theorem dX6_split_12 : decode cX6_split 12 = .ok (.iconst (-1), 1) := by decide +kernel
theorem dX6_split_13 : decode cX6_split 13 = .ok (.ireturn, 1) := by decide +kernel
theorem dX6_split_14 : decode cX6_split 14 = .ok (.aload_n 0, 1) := by decide +kernel
theorem dX6_split_15 : decode cX6_split 15 = .ok (.getfield 12, 3) := by decide +kernel
theorem dX6_split_18 : decode cX6_split 18 = .ok (.iload_n 1, 1) := by decide +kernel
theorem dX6_split_19 : decode cX6_split 19 = .ok (.invokevirtual 76, 3) := by decide +kernel
theorem dX6_split_22 : decode cX6_split 22 = .ok (.getfield 93, 3) := by decide +kernel
theorem dX6_split_25 : decode cX6_split 25 = .ok (.astore 4, 2) := by decide +kernel
theorem dX6_split_27 : decode cX6_split 27 = .ok (.aload 4, 2) := by decide +kernel
theorem dX6_split_29 : decode cX6_split 29 = .ok (.iload_n 3, 1) := by decide +kernel
theorem dX6_split_30 : decode cX6_split 30 = .ok (.invokevirtual 96, 3) := by decide +kernel
theorem dX6_split_33 : decode cX6_split 33 = .ok (.iconst 1, 1) := by decide +kernel
theorem dX6_split_34 : decode cX6_split 34 = .ok (.if_icmp .ne 6, 3) := by decide +kernel
theorem dX6_split_37 : decode cX6_split 37 = .ok (.bipush (-4), 2) := by decide +kernel
theorem dX6_split_39 : decode cX6_split 39 = .ok (.ireturn, 1) := by decide +kernel
theorem dX6_split_40 : decode cX6_split 40 = .ok (.aload_n 0, 1) := by decide +kernel
theorem dX6_split_41 : decode cX6_split 41 = .ok (.getfield 22, 3) := by decide +kernel
theorem dX6_split_44 : decode cX6_split 44 = .ok (.aload_n 0, 1) := by decide +kernel
theorem dX6_split_45 : decode cX6_split 45 = .ok (.getfield 12, 3) := by decide +kernel
theorem dX6_split_48 : decode cX6_split 48 = .ok (.invokevirtual 62, 3) := by decide +kernel
theorem dX6_split_51 : decode cX6_split 51 = .ok (.aload 4, 2) := by decide +kernel
theorem dX6_split_53 : decode cX6_split 53 = .ok (.iload_n 3, 1) := by decide +kernel
theorem dX6_split_54 : decode cX6_split 54 = .ok (.invokevirtual 153, 3) := by decide +kernel
theorem dX6_split_57 : decode cX6_split 57 = .ok (.aload 4, 2) := by decide +kernel
theorem dX6_split_59 : decode cX6_split 59 = .ok (.invokevirtual 156, 3) := by decide +kernel
theorem dX6_split_62 : decode cX6_split 62 = .ok (.ireturn, 1) := by decide +kernel
theorem dX7_nodeOf_0 : decode cX7_nodeOf 0 = .ok (.iload_n 2, 1) := by decide +kernel
theorem dX7_nodeOf_1 : decode cX7_nodeOf 1 = .ok (.bipush 8, 2) := by decide +kernel
theorem dX7_nodeOf_3 : decode cX7_nodeOf 3 = .ok (.if_icmp .ne 7, 3) := by decide +kernel
theorem dX7_nodeOf_6 : decode cX7_nodeOf 6 = .ok (.iconst 0, 1) := by decide +kernel
theorem dX7_nodeOf_7 : decode cX7_nodeOf 7 = .ok (.goto 22, 3) := by decide +kernel
theorem dX7_nodeOf_10 : decode cX7_nodeOf 10 = .ok (.iload_n 2, 1) := by decide +kernel
theorem dX7_nodeOf_11 : decode cX7_nodeOf 11 = .ok (.iconst 4, 1) := by decide +kernel
theorem dX7_nodeOf_12 : decode cX7_nodeOf 12 = .ok (.if_icmp .ne 12, 3) := by decide +kernel
theorem dX7_nodeOf_15 : decode cX7_nodeOf 15 = .ok (.iconst 1, 1) := by decide +kernel
theorem dX7_nodeOf_16 : decode cX7_nodeOf 16 = .ok (.iload_n 1, 1) := by decide +kernel
theorem dX7_nodeOf_17 : decode cX7_nodeOf 17 = .ok (.bipush 16, 2) := by decide +kernel
theorem dX7_nodeOf_19 : decode cX7_nodeOf 19 = .ok (.idiv, 1) := by decide +kernel
theorem dX7_nodeOf_20 : decode cX7_nodeOf 20 = .ok (.iadd, 1) := by decide +kernel
theorem dX7_nodeOf_21 : decode cX7_nodeOf 21 = .ok (.goto 8, 3) := by decide +kernel
theorem dX7_nodeOf_24 : decode cX7_nodeOf 24 = .ok (.iconst 5, 1) := by decide +kernel
theorem dX7_nodeOf_25 : decode cX7_nodeOf 25 = .ok (.iload_n 1, 1) := by decide +kernel
theorem dX7_nodeOf_26 : decode cX7_nodeOf 26 = .ok (.iconst 4, 1) := by decide +kernel
theorem dX7_nodeOf_27 : decode cX7_nodeOf 27 = .ok (.idiv, 1) := by decide +kernel
theorem dX7_nodeOf_28 : decode cX7_nodeOf 28 = .ok (.iadd, 1) := by decide +kernel
theorem dX7_nodeOf_29 : decode cX7_nodeOf 29 = .ok (.ireturn, 1) := by decide +kernel
theorem dX7_leavesTo_0 : decode cX7_leavesTo 0 = .ok (.iconst 0, 1) := by decide +kernel
theorem dX7_leavesTo_1 : decode cX7_leavesTo 1 = .ok (.istore_n 3, 1) := by decide +kernel
theorem dX7_leavesTo_2 : decode cX7_leavesTo 2 = .ok (.iconst 0, 1) := by decide +kernel
theorem dX7_leavesTo_3 : decode cX7_leavesTo 3 = .ok (.istore 4, 2) := by decide +kernel
theorem dX7_leavesTo_5 : decode cX7_leavesTo 5 = .ok (.iload_n 3, 1) := by decide +kernel
theorem dX7_leavesTo_6 : decode cX7_leavesTo 6 = .ok (.iload_n 2, 1) := by decide +kernel
theorem dX7_leavesTo_7 : decode cX7_leavesTo 7 = .ok (.if_icmp .ge 25, 3) := by decide +kernel
theorem dX7_leavesTo_10 : decode cX7_leavesTo 10 = .ok (.aload_n 0, 1) := by decide +kernel
theorem dX7_leavesTo_11 : decode cX7_leavesTo 11 = .ok (.iload_n 1, 1) := by decide +kernel
theorem dX7_leavesTo_12 : decode cX7_leavesTo 12 = .ok (.iload_n 3, 1) := by decide +kernel
theorem dX7_leavesTo_13 : decode cX7_leavesTo 13 = .ok (.invokevirtual 76, 3) := by decide +kernel
theorem dX7_leavesTo_16 : decode cX7_leavesTo 16 = .ok (.istore 5, 2) := by decide +kernel
theorem dX7_leavesTo_18 : decode cX7_leavesTo 18 = .ok (.iload_n 3, 1) := by decide +kernel
theorem dX7_leavesTo_19 : decode cX7_leavesTo 19 = .ok (.iload 5, 2) := by decide +kernel
theorem dX7_leavesTo_21 : decode cX7_leavesTo 21 = .ok (.iload 5, 2) := by decide +kernel
theorem dX7_leavesTo_23 : decode cX7_leavesTo 23 = .ok (.imul, 1) := by decide +kernel
theorem dX7_leavesTo_24 : decode cX7_leavesTo 24 = .ok (.iadd, 1) := by decide +kernel
theorem dX7_leavesTo_25 : decode cX7_leavesTo 25 = .ok (.istore_n 3, 1) := by decide +kernel
theorem dX7_leavesTo_26 : decode cX7_leavesTo 26 = .ok (.iinc 4 1, 3) := by decide +kernel
theorem dX7_leavesTo_29 : decode cX7_leavesTo 29 = .ok (.goto (-24), 3) := by decide +kernel
theorem dX7_leavesTo_32 : decode cX7_leavesTo 32 = .ok (.iload 4, 2) := by decide +kernel
theorem dX7_leavesTo_34 : decode cX7_leavesTo 34 = .ok (.ireturn, 1) := by decide +kernel
theorem dX7_split_0 : decode cX7_split 0 = .ok (.aload_n 0, 1) := by decide +kernel
theorem dX7_split_1 : decode cX7_split 1 = .ok (.iload_n 1, 1) := by decide +kernel
theorem dX7_split_2 : decode cX7_split 2 = .ok (.iload_n 2, 1) := by decide +kernel
theorem dX7_split_3 : decode cX7_split 3 = .ok (.invokevirtual 130, 3) := by decide +kernel
theorem dX7_split_6 : decode cX7_split 6 = .ok (.ifCond .eq 5, 3) := by decide +kernel
theorem dX7_split_9 : decode cX7_split 9 = .ok (.iconst (-1), 1) := by decide +kernel
theorem dX7_split_10 : decode cX7_split 10 = .ok (.ireturn, 1) := by decide +kernel
theorem dX7_split_11 : decode cX7_split 11 = .ok (.aload_n 0, 1) := by decide +kernel
theorem dX7_split_12 : decode cX7_split 12 = .ok (.iload_n 1, 1) := by decide +kernel
theorem dX7_split_13 : decode cX7_split 13 = .ok (.iload_n 2, 1) := by decide +kernel
theorem dX7_split_14 : decode cX7_split 14 = .ok (.invokevirtual 127, 3) := by decide +kernel
theorem dX7_split_17 : decode cX7_split 17 = .ok (.istore_n 3, 1) := by decide +kernel
theorem dX7_split_18 : decode cX7_split 18 = .ok (.aload_n 0, 1) := by decide +kernel
theorem dX7_split_19 : decode cX7_split 19 = .ok (.iload_n 1, 1) := by decide +kernel
theorem dX7_split_20 : decode cX7_split 20 = .ok (.iload_n 3, 1) := by decide +kernel
theorem dX7_split_21 : decode cX7_split 21 = .ok (.invokevirtual 76, 3) := by decide +kernel
theorem dX7_split_24 : decode cX7_split 24 = .ok (.istore 4, 2) := by decide +kernel
theorem dX7_split_26 : decode cX7_split 26 = .ok (.iload 4, 2) := by decide +kernel
theorem dX7_split_28 : decode cX7_split 28 = .ok (.iconst 1, 1) := by decide +kernel
theorem dX7_split_29 : decode cX7_split 29 = .ok (.if_icmp .ne 6, 3) := by decide +kernel
theorem dX7_split_32 : decode cX7_split 32 = .ok (.bipush (-4), 2) := by decide +kernel
theorem dX7_split_34 : decode cX7_split 34 = .ok (.ireturn, 1) := by decide +kernel
theorem dX7_split_35 : decode cX7_split 35 = .ok (.aload_n 0, 1) := by decide +kernel
theorem dX7_split_36 : decode cX7_split 36 = .ok (.invokevirtual 47, 3) := by decide +kernel
theorem dX7_split_39 : decode cX7_split 39 = .ok (.aload_n 0, 1) := by decide +kernel
theorem dX7_split_40 : decode cX7_split 40 = .ok (.getfield 7, 3) := by decide +kernel
theorem dX7_split_43 : decode cX7_split 43 = .ok (.sipush 257, 3) := by decide +kernel
theorem dX7_split_46 : decode cX7_split 46 = .ok (.bipush 21, 2) := by decide +kernel
theorem dX7_split_48 : decode cX7_split 48 = .ok (.iload_n 1, 1) := by decide +kernel
theorem dX7_split_49 : decode cX7_split 49 = .ok (.imul, 1) := by decide +kernel
theorem dX7_split_50 : decode cX7_split 50 = .ok (.iadd, 1) := by decide +kernel
theorem dX7_split_51 : decode cX7_split 51 = .ok (.aload_n 0, 1) := by decide +kernel
theorem dX7_split_52 : decode cX7_split 52 = .ok (.iload_n 3, 1) := by decide +kernel
theorem dX7_split_53 : decode cX7_split 53 = .ok (.iload 4, 2) := by decide +kernel
theorem dX7_split_55 : decode cX7_split 55 = .ok (.invokevirtual 154, 3) := by decide +kernel
theorem dX7_split_58 : decode cX7_split 58 = .ok (.iadd, 1) := by decide +kernel
theorem dX7_split_59 : decode cX7_split 59 = .ok (.iconst 1, 1) := by decide +kernel
theorem dX7_split_60 : decode cX7_split 60 = .ok (.iastore, 1) := by decide +kernel
theorem dX7_split_61 : decode cX7_split 61 = .ok (.aload_n 0, 1) := by decide +kernel
theorem dX7_split_62 : decode cX7_split 62 = .ok (.iload_n 1, 1) := by decide +kernel
theorem dX7_split_63 : decode cX7_split 63 = .ok (.bipush 64, 2) := by decide +kernel
theorem dX7_split_65 : decode cX7_split 65 = .ok (.invokevirtual 157, 3) := by decide +kernel
theorem dX7_split_68 : decode cX7_split 68 = .ok (.ireturn, 1) := by decide +kernel
theorem dX5_startOfBlock_0 : decode cX5_startOfBlock 0 = .ok (.iload_n 0, 1) := by decide +kernel
theorem dX5_startOfBlock_1 : decode cX5_startOfBlock 1 = .ok (.iload_n 1, 1) := by decide +kernel
theorem dX5_startOfBlock_2 : decode cX5_startOfBlock 2 = .ok (.iload_n 1, 1) := by decide +kernel
theorem dX5_startOfBlock_3 : decode cX5_startOfBlock 3 = .ok (.imul, 1) := by decide +kernel
theorem dX5_startOfBlock_4 : decode cX5_startOfBlock 4 = .ok (.ineg, 1) := by decide +kernel
theorem dX5_startOfBlock_5 : decode cX5_startOfBlock 5 = .ok (.iand, 1) := by decide +kernel
theorem dX5_startOfBlock_6 : decode cX5_startOfBlock 6 = .ok (.ireturn, 1) := by decide +kernel
theorem dX5_hasFourLeaves_0 : decode cX5_hasFourLeaves 0 = .ok (.iconst 0, 1) := by decide +kernel
theorem dX5_hasFourLeaves_1 : decode cX5_hasFourLeaves 1 = .ok (.istore_n 3, 1) := by decide +kernel
theorem dX5_hasFourLeaves_2 : decode cX5_hasFourLeaves 2 = .ok (.iload_n 3, 1) := by decide +kernel
theorem dX5_hasFourLeaves_3 : decode cX5_hasFourLeaves 3 = .ok (.iconst 4, 1) := by decide +kernel
theorem dX5_hasFourLeaves_4 : decode cX5_hasFourLeaves 4 = .ok (.if_icmp .ge 27, 3) := by decide +kernel
theorem dX5_hasFourLeaves_7 : decode cX5_hasFourLeaves 7 = .ok (.aload_n 0, 1) := by decide +kernel
theorem dX5_hasFourLeaves_8 : decode cX5_hasFourLeaves 8 = .ok (.iload_n 1, 1) := by decide +kernel
theorem dX5_hasFourLeaves_9 : decode cX5_hasFourLeaves 9 = .ok (.iconst 2, 1) := by decide +kernel
theorem dX5_hasFourLeaves_10 : decode cX5_hasFourLeaves 10 = .ok (.iload_n 2, 1) := by decide +kernel
theorem dX5_hasFourLeaves_11 : decode cX5_hasFourLeaves 11 = .ok (.imul, 1) := by decide +kernel
theorem dX5_hasFourLeaves_12 : decode cX5_hasFourLeaves 12 = .ok (.iload_n 3, 1) := by decide +kernel
theorem dX5_hasFourLeaves_13 : decode cX5_hasFourLeaves 13 = .ok (.invokestatic 28, 3) := by decide +kernel
theorem dX5_hasFourLeaves_16 : decode cX5_hasFourLeaves 16 = .ok (.invokevirtual 25, 3) := by decide +kernel
theorem dX5_hasFourLeaves_19 : decode cX5_hasFourLeaves 19 = .ok (.iload_n 2, 1) := by decide +kernel
theorem dX5_hasFourLeaves_20 : decode cX5_hasFourLeaves 20 = .ok (.if_icmp .eq 5, 3) := by decide +kernel
theorem dX5_hasFourLeaves_23 : decode cX5_hasFourLeaves 23 = .ok (.iconst 0, 1) := by decide +kernel
theorem dX5_hasFourLeaves_24 : decode cX5_hasFourLeaves 24 = .ok (.ireturn, 1) := by decide +kernel
theorem dX5_hasFourLeaves_25 : decode cX5_hasFourLeaves 25 = .ok (.iinc 3 1, 3) := by decide +kernel
theorem dX5_hasFourLeaves_28 : decode cX5_hasFourLeaves 28 = .ok (.goto (-26), 3) := by decide +kernel
theorem dX5_hasFourLeaves_31 : decode cX5_hasFourLeaves 31 = .ok (.iconst 1, 1) := by decide +kernel
theorem dX5_hasFourLeaves_32 : decode cX5_hasFourLeaves 32 = .ok (.ireturn, 1) := by decide +kernel
theorem dX5_merge_0 : decode cX5_merge 0 = .ok (.iconst 0, 1) := by decide +kernel
theorem dX5_merge_1 : decode cX5_merge 1 = .ok (.istore_n 3, 1) := by decide +kernel
theorem dX5_merge_2 : decode cX5_merge 2 = .ok (.iload_n 3, 1) := by decide +kernel
theorem dX5_merge_3 : decode cX5_merge 3 = .ok (.iload_n 2, 1) := by decide +kernel
theorem dX5_merge_4 : decode cX5_merge 4 = .ok (.iload_n 2, 1) := by decide +kernel
theorem dX5_merge_5 : decode cX5_merge 5 = .ok (.imul, 1) := by decide +kernel
theorem dX5_merge_6 : decode cX5_merge 6 = .ok (.if_icmp .ge 23, 3) := by decide +kernel
theorem dX5_merge_9 : decode cX5_merge 9 = .ok (.iload_n 3, 1) := by decide +kernel
theorem dX5_merge_10 : decode cX5_merge 10 = .ok (.bipush 64, 2) := by decide +kernel
theorem dX5_merge_12 : decode cX5_merge 12 = .ok (.if_icmp .ge 17, 3) := by decide +kernel
theorem dX5_merge_15 : decode cX5_merge 15 = .ok (.aload_n 0, 1) := by decide +kernel
theorem dX5_merge_16 : decode cX5_merge 16 = .ok (.iload_n 1, 1) := by decide +kernel
theorem dX5_merge_17 : decode cX5_merge 17 = .ok (.iload_n 3, 1) := by decide +kernel
theorem dX5_merge_18 : decode cX5_merge 18 = .ok (.iadd, 1) := by decide +kernel
theorem dX5_merge_19 : decode cX5_merge 19 = .ok (.iconst 0, 1) := by decide +kernel
theorem dX5_merge_20 : decode cX5_merge 20 = .ok (.invokevirtual 32, 3) := by decide +kernel
theorem dX5_merge_23 : decode cX5_merge 23 = .ok (.iinc 3 1, 3) := by decide +kernel
theorem dX5_merge_26 : decode cX5_merge 26 = .ok (.goto (-24), 3) := by decide +kernel
theorem dX5_merge_29 : decode cX5_merge 29 = .ok (.aload_n 0, 1) := by decide +kernel
theorem dX5_merge_30 : decode cX5_merge 30 = .ok (.iload_n 1, 1) := by decide +kernel
theorem dX5_merge_31 : decode cX5_merge 31 = .ok (.iload_n 2, 1) := by decide +kernel
theorem dX5_merge_32 : decode cX5_merge 32 = .ok (.invokevirtual 32, 3) := by decide +kernel
theorem dX5_merge_35 : decode cX5_merge 35 = .ok (.return_, 1) := by decide +kernel
theorem dX6_join_0 : decode cX6_join 0 = .ok (.aload_n 0, 1) := by decide +kernel
theorem dX6_join_1 : decode cX6_join 1 = .ok (.iload_n 1, 1) := by decide +kernel
theorem dX6_join_2 : decode cX6_join 2 = .ok (.iload_n 2, 1) := by decide +kernel
theorem dX6_join_3 : decode cX6_join 3 = .ok (.invokevirtual 90, 3) := by decide +kernel
theorem dX6_join_6 : decode cX6_join 6 = .ok (.istore_n 3, 1) := by decide +kernel
theorem dX6_join_7 : decode cX6_join 7 = .ok (.iload_n 3, 1) := by decide +kernel
theorem dX6_join_8 : decode cX6_join 8 = .ok (.iconst (-1), 1) := by decide +kernel
theorem dX6_join_9 : decode cX6_join 9 = .ok (.if_icmp .ne 5, 3) := by decide +kernel
theorem dX6_join_12 : decode cX6_join 12 = .ok (.iconst (-1), 1) := by decide +kernel
theorem dX6_join_13 : decode cX6_join 13 = .ok (.ireturn, 1) := by decide +kernel
theorem dX6_join_14 : decode cX6_join 14 = .ok (.aload_n 0, 1) := by decide +kernel
theorem dX6_join_15 : decode cX6_join 15 = .ok (.getfield 12, 3) := by decide +kernel
theorem dX6_join_18 : decode cX6_join 18 = .ok (.iload_n 1, 1) := by decide +kernel
theorem dX6_join_19 : decode cX6_join 19 = .ok (.invokevirtual 76, 3) := by decide +kernel
theorem dX6_join_22 : decode cX6_join 22 = .ok (.getfield 93, 3) := by decide +kernel
theorem dX6_join_25 : decode cX6_join 25 = .ok (.astore 4, 2) := by decide +kernel
theorem dX6_join_27 : decode cX6_join 27 = .ok (.aload 4, 2) := by decide +kernel
theorem dX6_join_29 : decode cX6_join 29 = .ok (.iload_n 3, 1) := by decide +kernel
theorem dX6_join_30 : decode cX6_join 30 = .ok (.invokevirtual 96, 3) := by decide +kernel
theorem dX6_join_33 : decode cX6_join 33 = .ok (.istore 5, 2) := by decide +kernel
theorem dX6_join_35 : decode cX6_join 35 = .ok (.iload_n 3, 1) := by decide +kernel
theorem dX6_join_36 : decode cX6_join 36 = .ok (.iconst 2, 1) := by decide +kernel
theorem dX6_join_37 : decode cX6_join 37 = .ok (.iload 5, 2) := by decide +kernel
theorem dX6_join_39 : decode cX6_join 39 = .ok (.imul, 1) := by decide +kernel
theorem dX6_join_40 : decode cX6_join 40 = .ok (.invokestatic 159, 3) := by decide +kernel
theorem dX6_join_43 : decode cX6_join 43 = .ok (.istore 6, 2) := by decide +kernel
theorem dX6_join_45 : decode cX6_join 45 = .ok (.iload 5, 2) := by decide +kernel
theorem dX6_join_47 : decode cX6_join 47 = .ok (.bipush 8, 2) := by decide +kernel
theorem dX6_join_49 : decode cX6_join 49 = .ok (.if_icmp .eq 15, 3) := by decide +kernel
theorem dX6_join_52 : decode cX6_join 52 = .ok (.aload 4, 2) := by decide +kernel
theorem dX6_join_54 : decode cX6_join 54 = .ok (.iload 6, 2) := by decide +kernel
theorem dX6_join_56 : decode cX6_join 56 = .ok (.iload 5, 2) := by decide +kernel
theorem dX6_join_58 : decode cX6_join 58 = .ok (.invokevirtual 162, 3) := by decide +kernel
theorem dX6_join_61 : decode cX6_join 61 = .ok (.ifCond .ne 6, 3) := by decide +kernel
theorem dX6_join_64 : decode cX6_join 64 = .ok (.bipush (-4), 2) := by decide +kernel
theorem dX6_join_66 : decode cX6_join 66 = .ok (.ireturn, 1) := by decide +kernel
theorem dX6_join_67 : decode cX6_join 67 = .ok (.aload_n 0, 1) := by decide +kernel
theorem dX6_join_68 : decode cX6_join 68 = .ok (.getfield 22, 3) := by decide +kernel
theorem dX6_join_71 : decode cX6_join 71 = .ok (.aload_n 0, 1) := by decide +kernel
theorem dX6_join_72 : decode cX6_join 72 = .ok (.getfield 12, 3) := by decide +kernel
theorem dX6_join_75 : decode cX6_join 75 = .ok (.invokevirtual 62, 3) := by decide +kernel
theorem dX6_join_78 : decode cX6_join 78 = .ok (.aload 4, 2) := by decide +kernel
theorem dX6_join_80 : decode cX6_join 80 = .ok (.iload 6, 2) := by decide +kernel
theorem dX6_join_82 : decode cX6_join 82 = .ok (.iconst 2, 1) := by decide +kernel
theorem dX6_join_83 : decode cX6_join 83 = .ok (.iload 5, 2) := by decide +kernel
theorem dX6_join_85 : decode cX6_join 85 = .ok (.imul, 1) := by decide +kernel
theorem dX6_join_86 : decode cX6_join 86 = .ok (.invokevirtual 166, 3) := by decide +kernel
theorem dX6_join_89 : decode cX6_join 89 = .ok (.aload 4, 2) := by decide +kernel
theorem dX6_join_91 : decode cX6_join 91 = .ok (.iload 6, 2) := by decide +kernel
theorem dX6_join_93 : decode cX6_join 93 = .ok (.invokevirtual 170, 3) := by decide +kernel
theorem dX6_join_96 : decode cX6_join 96 = .ok (.ireturn, 1) := by decide +kernel
theorem dX7_join_0 : decode cX7_join 0 = .ok (.aload_n 0, 1) := by decide +kernel
theorem dX7_join_1 : decode cX7_join 1 = .ok (.iload_n 1, 1) := by decide +kernel
theorem dX7_join_2 : decode cX7_join 2 = .ok (.iload_n 2, 1) := by decide +kernel
theorem dX7_join_3 : decode cX7_join 3 = .ok (.invokevirtual 130, 3) := by decide +kernel
theorem dX7_join_6 : decode cX7_join 6 = .ok (.ifCond .eq 5, 3) := by decide +kernel
theorem dX7_join_9 : decode cX7_join 9 = .ok (.iconst (-1), 1) := by decide +kernel
theorem dX7_join_10 : decode cX7_join 10 = .ok (.ireturn, 1) := by decide +kernel
theorem dX7_join_11 : decode cX7_join 11 = .ok (.aload_n 0, 1) := by decide +kernel
theorem dX7_join_12 : decode cX7_join 12 = .ok (.iload_n 1, 1) := by decide +kernel
theorem dX7_join_13 : decode cX7_join 13 = .ok (.iload_n 2, 1) := by decide +kernel
theorem dX7_join_14 : decode cX7_join 14 = .ok (.invokevirtual 127, 3) := by decide +kernel
theorem dX7_join_17 : decode cX7_join 17 = .ok (.istore_n 3, 1) := by decide +kernel
theorem dX7_join_18 : decode cX7_join 18 = .ok (.aload_n 0, 1) := by decide +kernel
theorem dX7_join_19 : decode cX7_join 19 = .ok (.iload_n 1, 1) := by decide +kernel
theorem dX7_join_20 : decode cX7_join 20 = .ok (.iload_n 3, 1) := by decide +kernel
theorem dX7_join_21 : decode cX7_join 21 = .ok (.invokevirtual 76, 3) := by decide +kernel
theorem dX7_join_24 : decode cX7_join 24 = .ok (.istore 4, 2) := by decide +kernel
theorem dX7_join_26 : decode cX7_join 26 = .ok (.iload 4, 2) := by decide +kernel
theorem dX7_join_28 : decode cX7_join 28 = .ok (.bipush 8, 2) := by decide +kernel
theorem dX7_join_30 : decode cX7_join 30 = .ok (.if_icmp .ne 6, 3) := by decide +kernel
theorem dX7_join_33 : decode cX7_join 33 = .ok (.bipush (-4), 2) := by decide +kernel
theorem dX7_join_35 : decode cX7_join 35 = .ok (.ireturn, 1) := by decide +kernel
theorem dX7_join_36 : decode cX7_join 36 = .ok (.iload_n 3, 1) := by decide +kernel
theorem dX7_join_37 : decode cX7_join 37 = .ok (.iload_n 3, 1) := by decide +kernel
theorem dX7_join_38 : decode cX7_join 38 = .ok (.iconst 4, 1) := by decide +kernel
theorem dX7_join_39 : decode cX7_join 39 = .ok (.iload 4, 2) := by decide +kernel
theorem dX7_join_41 : decode cX7_join 41 = .ok (.imul, 1) := by decide +kernel
theorem dX7_join_42 : decode cX7_join 42 = .ok (.iload 4, 2) := by decide +kernel
theorem dX7_join_44 : decode cX7_join 44 = .ok (.imul, 1) := by decide +kernel
theorem dX7_join_45 : decode cX7_join 45 = .ok (.irem, 1) := by decide +kernel
theorem dX7_join_46 : decode cX7_join 46 = .ok (.isub, 1) := by decide +kernel
theorem dX7_join_47 : decode cX7_join 47 = .ok (.istore 5, 2) := by decide +kernel
theorem dX7_join_49 : decode cX7_join 49 = .ok (.iconst 0, 1) := by decide +kernel
theorem dX7_join_50 : decode cX7_join 50 = .ok (.istore 6, 2) := by decide +kernel
theorem dX7_join_52 : decode cX7_join 52 = .ok (.iload 6, 2) := by decide +kernel
theorem dX7_join_54 : decode cX7_join 54 = .ok (.iconst 4, 1) := by decide +kernel
theorem dX7_join_55 : decode cX7_join 55 = .ok (.if_icmp .ge 33, 3) := by decide +kernel
theorem dX7_join_58 : decode cX7_join 58 = .ok (.aload_n 0, 1) := by decide +kernel
theorem dX7_join_59 : decode cX7_join 59 = .ok (.iload_n 1, 1) := by decide +kernel
theorem dX7_join_60 : decode cX7_join 60 = .ok (.iload 5, 2) := by decide +kernel
theorem dX7_join_62 : decode cX7_join 62 = .ok (.iload 6, 2) := by decide +kernel
theorem dX7_join_64 : decode cX7_join 64 = .ok (.iload 4, 2) := by decide +kernel
theorem dX7_join_66 : decode cX7_join 66 = .ok (.imul, 1) := by decide +kernel
theorem dX7_join_67 : decode cX7_join 67 = .ok (.iload 4, 2) := by decide +kernel
theorem dX7_join_69 : decode cX7_join 69 = .ok (.imul, 1) := by decide +kernel
theorem dX7_join_70 : decode cX7_join 70 = .ok (.iadd, 1) := by decide +kernel
theorem dX7_join_71 : decode cX7_join 71 = .ok (.invokevirtual 76, 3) := by decide +kernel
theorem dX7_join_74 : decode cX7_join 74 = .ok (.iload 4, 2) := by decide +kernel
theorem dX7_join_76 : decode cX7_join 76 = .ok (.if_icmp .eq 6, 3) := by decide +kernel
theorem dX7_join_79 : decode cX7_join 79 = .ok (.bipush (-4), 2) := by decide +kernel
theorem dX7_join_81 : decode cX7_join 81 = .ok (.ireturn, 1) := by decide +kernel
theorem dX7_join_82 : decode cX7_join 82 = .ok (.iinc 6 1, 3) := by decide +kernel
theorem dX7_join_85 : decode cX7_join 85 = .ok (.goto (-33), 3) := by decide +kernel
theorem dX7_join_88 : decode cX7_join 88 = .ok (.aload_n 0, 1) := by decide +kernel
theorem dX7_join_89 : decode cX7_join 89 = .ok (.invokevirtual 47, 3) := by decide +kernel
theorem dX7_join_92 : decode cX7_join 92 = .ok (.aload_n 0, 1) := by decide +kernel
theorem dX7_join_93 : decode cX7_join 93 = .ok (.getfield 7, 3) := by decide +kernel
theorem dX7_join_96 : decode cX7_join 96 = .ok (.sipush 257, 3) := by decide +kernel
theorem dX7_join_99 : decode cX7_join 99 = .ok (.bipush 21, 2) := by decide +kernel
theorem dX7_join_101 : decode cX7_join 101 = .ok (.iload_n 1, 1) := by decide +kernel
theorem dX7_join_102 : decode cX7_join 102 = .ok (.imul, 1) := by decide +kernel
theorem dX7_join_103 : decode cX7_join 103 = .ok (.iadd, 1) := by decide +kernel
theorem dX7_join_104 : decode cX7_join 104 = .ok (.aload_n 0, 1) := by decide +kernel
theorem dX7_join_105 : decode cX7_join 105 = .ok (.iload 5, 2) := by decide +kernel
theorem dX7_join_107 : decode cX7_join 107 = .ok (.iconst 2, 1) := by decide +kernel
theorem dX7_join_108 : decode cX7_join 108 = .ok (.iload 4, 2) := by decide +kernel
theorem dX7_join_110 : decode cX7_join 110 = .ok (.imul, 1) := by decide +kernel
theorem dX7_join_111 : decode cX7_join 111 = .ok (.invokevirtual 154, 3) := by decide +kernel
theorem dX7_join_114 : decode cX7_join 114 = .ok (.iadd, 1) := by decide +kernel
theorem dX7_join_115 : decode cX7_join 115 = .ok (.iconst 0, 1) := by decide +kernel
theorem dX7_join_116 : decode cX7_join 116 = .ok (.iastore, 1) := by decide +kernel
theorem dX7_join_117 : decode cX7_join 117 = .ok (.aload_n 0, 1) := by decide +kernel
theorem dX7_join_118 : decode cX7_join 118 = .ok (.iload_n 1, 1) := by decide +kernel
theorem dX7_join_119 : decode cX7_join 119 = .ok (.iload 5, 2) := by decide +kernel
theorem dX7_join_121 : decode cX7_join 121 = .ok (.invokevirtual 157, 3) := by decide +kernel
theorem dX7_join_124 : decode cX7_join 124 = .ok (.ireturn, 1) := by decide +kernel
theorem dX6_leafCost_0 : decode cX6_leafCost 0 = .ok (.iload_n 0, 1) := by decide +kernel
theorem dX6_leafCost_1 : decode cX6_leafCost 1 = .ok (.iload_n 0, 1) := by decide +kernel
theorem dX6_leafCost_2 : decode cX6_leafCost 2 = .ok (.imul, 1) := by decide +kernel
theorem dX6_leafCost_3 : decode cX6_leafCost 3 = .ok (.iconst 2, 1) := by decide +kernel
theorem dX6_leafCost_4 : decode cX6_leafCost 4 = .ok (.iload_n 0, 1) := by decide +kernel
theorem dX6_leafCost_5 : decode cX6_leafCost 5 = .ok (.imul, 1) := by decide +kernel
theorem dX6_leafCost_6 : decode cX6_leafCost 6 = .ok (.iload_n 1, 1) := by decide +kernel
theorem dX6_leafCost_7 : decode cX6_leafCost 7 = .ok (.imul, 1) := by decide +kernel
theorem dX6_leafCost_8 : decode cX6_leafCost 8 = .ok (.invokestatic 269, 3) := by decide +kernel
theorem dX6_leafCost_11 : decode cX6_leafCost 11 = .ok (.ireturn, 1) := by decide +kernel
theorem dX6_leastCostOfQuarters_0 : decode cX6_leastCostOfQuarters 0 = .ok (.iconst 0, 1) := by decide +kernel
theorem dX6_leastCostOfQuarters_1 : decode cX6_leastCostOfQuarters 1 = .ok (.istore_n 3, 1) := by decide +kernel
theorem dX6_leastCostOfQuarters_2 : decode cX6_leastCostOfQuarters 2 = .ok (.iconst 0, 1) := by decide +kernel
theorem dX6_leastCostOfQuarters_3 : decode cX6_leastCostOfQuarters 3 = .ok (.istore 4, 2) := by decide +kernel
theorem dX6_leastCostOfQuarters_5 : decode cX6_leastCostOfQuarters 5 = .ok (.iload 4, 2) := by decide +kernel
theorem dX6_leastCostOfQuarters_7 : decode cX6_leastCostOfQuarters 7 = .ok (.iconst 4, 1) := by decide +kernel
theorem dX6_leastCostOfQuarters_8 : decode cX6_leastCostOfQuarters 8 = .ok (.if_icmp .ge 40, 3) := by decide +kernel
theorem dX6_leastCostOfQuarters_11 : decode cX6_leastCostOfQuarters 11 = .ok (.iload_n 1, 1) := by decide +kernel
theorem dX6_leastCostOfQuarters_12 : decode cX6_leastCostOfQuarters 12 = .ok (.iload_n 2, 1) := by decide +kernel
theorem dX6_leastCostOfQuarters_13 : decode cX6_leastCostOfQuarters 13 = .ok (.iload 4, 2) := by decide +kernel
theorem dX6_leastCostOfQuarters_15 : decode cX6_leastCostOfQuarters 15 = .ok (.invokestatic 280, 3) := by decide +kernel
theorem dX6_leastCostOfQuarters_18 : decode cX6_leastCostOfQuarters 18 = .ok (.istore 5, 2) := by decide +kernel
theorem dX6_leastCostOfQuarters_20 : decode cX6_leastCostOfQuarters 20 = .ok (.iload 5, 2) := by decide +kernel
theorem dX6_leastCostOfQuarters_22 : decode cX6_leastCostOfQuarters 22 = .ok (.ifCond .lt 20, 3) := by decide +kernel
theorem dX6_leastCostOfQuarters_25 : decode cX6_leastCostOfQuarters 25 = .ok (.iload 5, 2) := by decide +kernel
theorem dX6_leastCostOfQuarters_27 : decode cX6_leastCostOfQuarters 27 = .ok (.bipush 64, 2) := by decide +kernel
theorem dX6_leastCostOfQuarters_29 : decode cX6_leastCostOfQuarters 29 = .ok (.if_icmp .ge 13, 3) := by decide +kernel
theorem dX6_leastCostOfQuarters_32 : decode cX6_leastCostOfQuarters 32 = .ok (.iload_n 3, 1) := by decide +kernel
theorem dX6_leastCostOfQuarters_33 : decode cX6_leastCostOfQuarters 33 = .ok (.aload_n 0, 1) := by decide +kernel
theorem dX6_leastCostOfQuarters_34 : decode cX6_leastCostOfQuarters 34 = .ok (.getfield 47, 3) := by decide +kernel
theorem dX6_leastCostOfQuarters_37 : decode cX6_leastCostOfQuarters 37 = .ok (.iload 5, 2) := by decide +kernel
theorem dX6_leastCostOfQuarters_39 : decode cX6_leastCostOfQuarters 39 = .ok (.iaload, 1) := by decide +kernel
theorem dX6_leastCostOfQuarters_40 : decode cX6_leastCostOfQuarters 40 = .ok (.iadd, 1) := by decide +kernel
theorem dX6_leastCostOfQuarters_41 : decode cX6_leastCostOfQuarters 41 = .ok (.istore_n 3, 1) := by decide +kernel
theorem dX6_leastCostOfQuarters_42 : decode cX6_leastCostOfQuarters 42 = .ok (.iinc 4 1, 3) := by decide +kernel
theorem dX6_leastCostOfQuarters_45 : decode cX6_leastCostOfQuarters 45 = .ok (.goto (-40), 3) := by decide +kernel
theorem dX6_leastCostOfQuarters_48 : decode cX6_leastCostOfQuarters 48 = .ok (.iload_n 3, 1) := by decide +kernel
theorem dX6_leastCostOfQuarters_49 : decode cX6_leastCostOfQuarters 49 = .ok (.ireturn, 1) := by decide +kernel
theorem dX6_findLeastTree_0 : decode cX6_findLeastTree 0 = .ok (.iconst 1, 1) := by decide +kernel
theorem dX6_findLeastTree_1 : decode cX6_findLeastTree 1 = .ok (.istore_n 2, 1) := by decide +kernel
theorem dX6_findLeastTree_2 : decode cX6_findLeastTree 2 = .ok (.iload_n 2, 1) := by decide +kernel
theorem dX6_findLeastTree_3 : decode cX6_findLeastTree 3 = .ok (.bipush 8, 2) := by decide +kernel
theorem dX6_findLeastTree_5 : decode cX6_findLeastTree 5 = .ok (.if_icmp .gt 87, 3) := by decide +kernel
theorem dX6_findLeastTree_8 : decode cX6_findLeastTree 8 = .ok (.iconst 0, 1) := by decide +kernel
theorem dX6_findLeastTree_9 : decode cX6_findLeastTree 9 = .ok (.istore_n 3, 1) := by decide +kernel
theorem dX6_findLeastTree_10 : decode cX6_findLeastTree 10 = .ok (.iload_n 3, 1) := by decide +kernel
theorem dX6_findLeastTree_11 : decode cX6_findLeastTree 11 = .ok (.bipush 64, 2) := by decide +kernel
theorem dX6_findLeastTree_13 : decode cX6_findLeastTree 13 = .ok (.if_icmp .ge 72, 3) := by decide +kernel
theorem dX6_findLeastTree_16 : decode cX6_findLeastTree 16 = .ok (.iload_n 2, 1) := by decide +kernel
theorem dX6_findLeastTree_17 : decode cX6_findLeastTree 17 = .ok (.aload_n 0, 1) := by decide +kernel
theorem dX6_findLeastTree_18 : decode cX6_findLeastTree 18 = .ok (.aload_n 1, 1) := by decide +kernel
theorem dX6_findLeastTree_19 : decode cX6_findLeastTree 19 = .ok (.iload_n 3, 1) := by decide +kernel
theorem dX6_findLeastTree_20 : decode cX6_findLeastTree 20 = .ok (.iload_n 2, 1) := by decide +kernel
theorem dX6_findLeastTree_21 : decode cX6_findLeastTree 21 = .ok (.invokevirtual 111, 3) := by decide +kernel
theorem dX6_findLeastTree_24 : decode cX6_findLeastTree 24 = .ok (.invokestatic 224, 3) := by decide +kernel
theorem dX6_findLeastTree_27 : decode cX6_findLeastTree 27 = .ok (.istore 4, 2) := by decide +kernel
theorem dX6_findLeastTree_29 : decode cX6_findLeastTree 29 = .ok (.iload_n 2, 1) := by decide +kernel
theorem dX6_findLeastTree_30 : decode cX6_findLeastTree 30 = .ok (.iconst 1, 1) := by decide +kernel
theorem dX6_findLeastTree_31 : decode cX6_findLeastTree 31 = .ok (.if_icmp .ne 8, 3) := by decide +kernel
theorem dX6_findLeastTree_34 : decode cX6_findLeastTree 34 = .ok (.iload 4, 2) := by decide +kernel
theorem dX6_findLeastTree_36 : decode cX6_findLeastTree 36 = .ok (.goto 9, 3) := by decide +kernel
theorem dX6_findLeastTree_39 : decode cX6_findLeastTree 39 = .ok (.aload_n 0, 1) := by decide +kernel
theorem dX6_findLeastTree_40 : decode cX6_findLeastTree 40 = .ok (.iload_n 3, 1) := by decide +kernel
theorem dX6_findLeastTree_41 : decode cX6_findLeastTree 41 = .ok (.iload_n 2, 1) := by decide +kernel
theorem dX6_findLeastTree_42 : decode cX6_findLeastTree 42 = .ok (.invokevirtual 277, 3) := by decide +kernel
theorem dX6_findLeastTree_45 : decode cX6_findLeastTree 45 = .ok (.istore 5, 2) := by decide +kernel
theorem dX6_findLeastTree_47 : decode cX6_findLeastTree 47 = .ok (.iload 4, 2) := by decide +kernel
theorem dX6_findLeastTree_49 : decode cX6_findLeastTree 49 = .ok (.iload 5, 2) := by decide +kernel
theorem dX6_findLeastTree_51 : decode cX6_findLeastTree 51 = .ok (.if_icmp .gt 12, 3) := by decide +kernel
theorem dX6_findLeastTree_54 : decode cX6_findLeastTree 54 = .ok (.aload_n 0, 1) := by decide +kernel
theorem dX6_findLeastTree_55 : decode cX6_findLeastTree 55 = .ok (.getfield 43, 3) := by decide +kernel
theorem dX6_findLeastTree_58 : decode cX6_findLeastTree 58 = .ok (.iload_n 3, 1) := by decide +kernel
theorem dX6_findLeastTree_59 : decode cX6_findLeastTree 59 = .ok (.iload_n 2, 1) := by decide +kernel
theorem dX6_findLeastTree_60 : decode cX6_findLeastTree 60 = .ok (.invokevirtual 166, 3) := by decide +kernel
theorem dX6_findLeastTree_63 : decode cX6_findLeastTree 63 = .ok (.aload_n 0, 1) := by decide +kernel
theorem dX6_findLeastTree_64 : decode cX6_findLeastTree 64 = .ok (.getfield 47, 3) := by decide +kernel
theorem dX6_findLeastTree_67 : decode cX6_findLeastTree 67 = .ok (.iload_n 3, 1) := by decide +kernel
theorem dX6_findLeastTree_68 : decode cX6_findLeastTree 68 = .ok (.iload 4, 2) := by decide +kernel
theorem dX6_findLeastTree_70 : decode cX6_findLeastTree 70 = .ok (.iload 5, 2) := by decide +kernel
theorem dX6_findLeastTree_72 : decode cX6_findLeastTree 72 = .ok (.invokestatic 269, 3) := by decide +kernel
theorem dX6_findLeastTree_75 : decode cX6_findLeastTree 75 = .ok (.iastore, 1) := by decide +kernel
theorem dX6_findLeastTree_76 : decode cX6_findLeastTree 76 = .ok (.iload_n 3, 1) := by decide +kernel
theorem dX6_findLeastTree_77 : decode cX6_findLeastTree 77 = .ok (.iload_n 2, 1) := by decide +kernel
theorem dX6_findLeastTree_78 : decode cX6_findLeastTree 78 = .ok (.iload_n 2, 1) := by decide +kernel
theorem dX6_findLeastTree_79 : decode cX6_findLeastTree 79 = .ok (.imul, 1) := by decide +kernel
theorem dX6_findLeastTree_80 : decode cX6_findLeastTree 80 = .ok (.iadd, 1) := by decide +kernel
theorem dX6_findLeastTree_81 : decode cX6_findLeastTree 81 = .ok (.istore_n 3, 1) := by decide +kernel
theorem dX6_findLeastTree_82 : decode cX6_findLeastTree 82 = .ok (.goto (-72), 3) := by decide +kernel
theorem dX6_findLeastTree_85 : decode cX6_findLeastTree 85 = .ok (.iload_n 2, 1) := by decide +kernel
theorem dX6_findLeastTree_86 : decode cX6_findLeastTree 86 = .ok (.iconst 2, 1) := by decide +kernel
theorem dX6_findLeastTree_87 : decode cX6_findLeastTree 87 = .ok (.imul, 1) := by decide +kernel
theorem dX6_findLeastTree_88 : decode cX6_findLeastTree 88 = .ok (.istore_n 2, 1) := by decide +kernel
theorem dX6_findLeastTree_89 : decode cX6_findLeastTree 89 = .ok (.goto (-87), 3) := by decide +kernel
theorem dX6_findLeastTree_92 : decode cX6_findLeastTree 92 = .ok (.aload_n 0, 1) := by decide +kernel
theorem dX6_findLeastTree_93 : decode cX6_findLeastTree 93 = .ok (.getfield 47, 3) := by decide +kernel
theorem dX6_findLeastTree_96 : decode cX6_findLeastTree 96 = .ok (.iconst 0, 1) := by decide +kernel
theorem dX6_findLeastTree_97 : decode cX6_findLeastTree 97 = .ok (.iaload, 1) := by decide +kernel
theorem dX6_findLeastTree_98 : decode cX6_findLeastTree 98 = .ok (.ireturn, 1) := by decide +kernel
theorem dX5_isLike_0 : decode cX5_isLike 0 = .ok (.iconst 0, 1) := by decide +kernel
theorem dX5_isLike_1 : decode cX5_isLike 1 = .ok (.istore_n 2, 1) := by decide +kernel
theorem dX5_isLike_2 : decode cX5_isLike 2 = .ok (.iload_n 2, 1) := by decide +kernel
theorem dX5_isLike_3 : decode cX5_isLike 3 = .ok (.bipush 64, 2) := by decide +kernel
theorem dX5_isLike_5 : decode cX5_isLike 5 = .ok (.if_icmp .ge 26, 3) := by decide +kernel
theorem dX5_isLike_8 : decode cX5_isLike 8 = .ok (.aload_n 0, 1) := by decide +kernel
theorem dX5_isLike_9 : decode cX5_isLike 9 = .ok (.getfield 9, 3) := by decide +kernel
theorem dX5_isLike_12 : decode cX5_isLike 12 = .ok (.iload_n 2, 1) := by decide +kernel
theorem dX5_isLike_13 : decode cX5_isLike 13 = .ok (.iaload, 1) := by decide +kernel
theorem dX5_isLike_14 : decode cX5_isLike 14 = .ok (.aload_n 1, 1) := by decide +kernel
theorem dX5_isLike_15 : decode cX5_isLike 15 = .ok (.getfield 9, 3) := by decide +kernel
theorem dX5_isLike_18 : decode cX5_isLike 18 = .ok (.iload_n 2, 1) := by decide +kernel
theorem dX5_isLike_19 : decode cX5_isLike 19 = .ok (.iaload, 1) := by decide +kernel
theorem dX5_isLike_20 : decode cX5_isLike 20 = .ok (.if_icmp .eq 5, 3) := by decide +kernel
theorem dX5_isLike_23 : decode cX5_isLike 23 = .ok (.iconst 0, 1) := by decide +kernel
theorem dX5_isLike_24 : decode cX5_isLike 24 = .ok (.ireturn, 1) := by decide +kernel
theorem dX5_isLike_25 : decode cX5_isLike 25 = .ok (.iinc 2 1, 3) := by decide +kernel
theorem dX5_isLike_28 : decode cX5_isLike 28 = .ok (.goto (-26), 3) := by decide +kernel
theorem dX5_isLike_31 : decode cX5_isLike 31 = .ok (.iconst 1, 1) := by decide +kernel
theorem dX5_isLike_32 : decode cX5_isLike 32 = .ok (.ireturn, 1) := by decide +kernel
theorem dX6_recompress_0 : decode cX6_recompress 0 = .ok (.iload_n 1, 1) := by decide +kernel
theorem dX6_recompress_1 : decode cX6_recompress 1 = .ok (.invokestatic 70, 3) := by decide +kernel
theorem dX6_recompress_4 : decode cX6_recompress 4 = .ok (.ifCond .ne 5, 3) := by decide +kernel
theorem dX6_recompress_7 : decode cX6_recompress 7 = .ok (.iconst (-1), 1) := by decide +kernel
theorem dX6_recompress_8 : decode cX6_recompress 8 = .ok (.ireturn, 1) := by decide +kernel
theorem dX6_recompress_9 : decode cX6_recompress 9 = .ok (.aload_n 0, 1) := by decide +kernel
theorem dX6_recompress_10 : decode cX6_recompress 10 = .ok (.getfield 12, 3) := by decide +kernel
theorem dX6_recompress_13 : decode cX6_recompress 13 = .ok (.iload_n 1, 1) := by decide +kernel
theorem dX6_recompress_14 : decode cX6_recompress 14 = .ok (.invokevirtual 76, 3) := by decide +kernel
theorem dX6_recompress_17 : decode cX6_recompress 17 = .ok (.astore_n 2, 1) := by decide +kernel
theorem dX6_recompress_18 : decode cX6_recompress 18 = .ok (.aload_n 0, 1) := by decide +kernel
theorem dX6_recompress_19 : decode cX6_recompress 19 = .ok (.aload_n 2, 1) := by decide +kernel
theorem dX6_recompress_20 : decode cX6_recompress 20 = .ok (.invokevirtual 173, 3) := by decide +kernel
theorem dX6_recompress_23 : decode cX6_recompress 23 = .ok (.istore_n 3, 1) := by decide +kernel
theorem dX6_recompress_24 : decode cX6_recompress 24 = .ok (.aload_n 0, 1) := by decide +kernel
theorem dX6_recompress_25 : decode cX6_recompress 25 = .ok (.getfield 43, 3) := by decide +kernel
theorem dX6_recompress_28 : decode cX6_recompress 28 = .ok (.aload_n 2, 1) := by decide +kernel
theorem dX6_recompress_29 : decode cX6_recompress 29 = .ok (.getfield 93, 3) := by decide +kernel
theorem dX6_recompress_32 : decode cX6_recompress 32 = .ok (.invokevirtual 177, 3) := by decide +kernel
theorem dX6_recompress_35 : decode cX6_recompress 35 = .ok (.ifCond .eq 6, 3) := by decide +kernel
theorem dX6_recompress_38 : decode cX6_recompress 38 = .ok (.bipush (-5), 2) := by decide +kernel
theorem dX6_recompress_40 : decode cX6_recompress 40 = .ok (.ireturn, 1) := by decide +kernel
theorem dX6_recompress_41 : decode cX6_recompress 41 = .ok (.aload_n 0, 1) := by decide +kernel
theorem dX6_recompress_42 : decode cX6_recompress 42 = .ok (.getfield 22, 3) := by decide +kernel
theorem dX6_recompress_45 : decode cX6_recompress 45 = .ok (.aload_n 0, 1) := by decide +kernel
theorem dX6_recompress_46 : decode cX6_recompress 46 = .ok (.getfield 12, 3) := by decide +kernel
theorem dX6_recompress_49 : decode cX6_recompress 49 = .ok (.invokevirtual 62, 3) := by decide +kernel
theorem dX6_recompress_52 : decode cX6_recompress 52 = .ok (.aload_n 2, 1) := by decide +kernel
theorem dX6_recompress_53 : decode cX6_recompress 53 = .ok (.getfield 93, 3) := by decide +kernel
theorem dX6_recompress_56 : decode cX6_recompress 56 = .ok (.aload_n 0, 1) := by decide +kernel
theorem dX6_recompress_57 : decode cX6_recompress 57 = .ok (.getfield 43, 3) := by decide +kernel
theorem dX6_recompress_60 : decode cX6_recompress 60 = .ok (.invokevirtual 181, 3) := by decide +kernel
theorem dX6_recompress_63 : decode cX6_recompress 63 = .ok (.iload_n 3, 1) := by decide +kernel
theorem dX6_recompress_64 : decode cX6_recompress 64 = .ok (.ireturn, 1) := by decide +kernel
theorem dX7_costOf_0 : decode cX7_costOf 0 = .ok (.aload_n 0, 1) := by decide +kernel
theorem dX7_costOf_1 : decode cX7_costOf 1 = .ok (.iload_n 1, 1) := by decide +kernel
theorem dX7_costOf_2 : decode cX7_costOf 2 = .ok (.iload_n 2, 1) := by decide +kernel
theorem dX7_costOf_3 : decode cX7_costOf 3 = .ok (.iload_n 3, 1) := by decide +kernel
theorem dX7_costOf_4 : decode cX7_costOf 4 = .ok (.invokevirtual 106, 3) := by decide +kernel
theorem dX7_costOf_7 : decode cX7_costOf 7 = .ok (.istore 4, 2) := by decide +kernel
theorem dX7_costOf_9 : decode cX7_costOf 9 = .ok (.iconst 2, 1) := by decide +kernel
theorem dX7_costOf_10 : decode cX7_costOf 10 = .ok (.iload 4, 2) := by decide +kernel
theorem dX7_costOf_12 : decode cX7_costOf 12 = .ok (.imul, 1) := by decide +kernel
theorem dX7_costOf_13 : decode cX7_costOf 13 = .ok (.iload_n 3, 1) := by decide +kernel
theorem dX7_costOf_14 : decode cX7_costOf 14 = .ok (.if_icmp .ge 12, 3) := by decide +kernel
theorem dX7_costOf_17 : decode cX7_costOf 17 = .ok (.iconst 2, 1) := by decide +kernel
theorem dX7_costOf_18 : decode cX7_costOf 18 = .ok (.iload_n 3, 1) := by decide +kernel
theorem dX7_costOf_19 : decode cX7_costOf 19 = .ok (.imul, 1) := by decide +kernel
theorem dX7_costOf_20 : decode cX7_costOf 20 = .ok (.iload 4, 2) := by decide +kernel
theorem dX7_costOf_22 : decode cX7_costOf 22 = .ok (.imul, 1) := by decide +kernel
theorem dX7_costOf_23 : decode cX7_costOf 23 = .ok (.goto 6, 3) := by decide +kernel
theorem dX7_costOf_26 : decode cX7_costOf 26 = .ok (.iload_n 3, 1) := by decide +kernel
theorem dX7_costOf_27 : decode cX7_costOf 27 = .ok (.iload_n 3, 1) := by decide +kernel
theorem dX7_costOf_28 : decode cX7_costOf 28 = .ok (.imul, 1) := by decide +kernel
theorem dX7_costOf_29 : decode cX7_costOf 29 = .ok (.ireturn, 1) := by decide +kernel
theorem dX7_findLeast_0 : decode cX7_findLeast 0 = .ok (.bipush 20, 2) := by decide +kernel
theorem dX7_findLeast_2 : decode cX7_findLeast 2 = .ok (.istore_n 2, 1) := by decide +kernel
theorem dX7_findLeast_3 : decode cX7_findLeast 3 = .ok (.iload_n 2, 1) := by decide +kernel
theorem dX7_findLeast_4 : decode cX7_findLeast 4 = .ok (.ifCond .lt 161, 3) := by decide +kernel
theorem dX7_findLeast_7 : decode cX7_findLeast 7 = .ok (.iload_n 2, 1) := by decide +kernel
theorem dX7_findLeast_8 : decode cX7_findLeast 8 = .ok (.ifCond .ne 8, 3) := by decide +kernel
theorem dX7_findLeast_11 : decode cX7_findLeast 11 = .ok (.bipush 8, 2) := by decide +kernel
theorem dX7_findLeast_13 : decode cX7_findLeast 13 = .ok (.goto 13, 3) := by decide +kernel
theorem dX7_findLeast_16 : decode cX7_findLeast 16 = .ok (.iload_n 2, 1) := by decide +kernel
theorem dX7_findLeast_17 : decode cX7_findLeast 17 = .ok (.iconst 5, 1) := by decide +kernel
theorem dX7_findLeast_18 : decode cX7_findLeast 18 = .ok (.if_icmp .ge 7, 3) := by decide +kernel
theorem dX7_findLeast_21 : decode cX7_findLeast 21 = .ok (.iconst 4, 1) := by decide +kernel
theorem dX7_findLeast_22 : decode cX7_findLeast 22 = .ok (.goto 4, 3) := by decide +kernel
theorem dX7_findLeast_25 : decode cX7_findLeast 25 = .ok (.iconst 2, 1) := by decide +kernel
theorem dX7_findLeast_26 : decode cX7_findLeast 26 = .ok (.istore_n 3, 1) := by decide +kernel
theorem dX7_findLeast_27 : decode cX7_findLeast 27 = .ok (.iload_n 2, 1) := by decide +kernel
theorem dX7_findLeast_28 : decode cX7_findLeast 28 = .ok (.ifCond .ne 7, 3) := by decide +kernel
theorem dX7_findLeast_31 : decode cX7_findLeast 31 = .ok (.iconst 0, 1) := by decide +kernel
theorem dX7_findLeast_32 : decode cX7_findLeast 32 = .ok (.goto 22, 3) := by decide +kernel
theorem dX7_findLeast_35 : decode cX7_findLeast 35 = .ok (.iload_n 2, 1) := by decide +kernel
theorem dX7_findLeast_36 : decode cX7_findLeast 36 = .ok (.iconst 5, 1) := by decide +kernel
theorem dX7_findLeast_37 : decode cX7_findLeast 37 = .ok (.if_icmp .ge 12, 3) := by decide +kernel
theorem dX7_findLeast_40 : decode cX7_findLeast 40 = .ok (.bipush 16, 2) := by decide +kernel
theorem dX7_findLeast_42 : decode cX7_findLeast 42 = .ok (.iload_n 2, 1) := by decide +kernel
theorem dX7_findLeast_43 : decode cX7_findLeast 43 = .ok (.iconst 1, 1) := by decide +kernel
theorem dX7_findLeast_44 : decode cX7_findLeast 44 = .ok (.isub, 1) := by decide +kernel
theorem dX7_findLeast_45 : decode cX7_findLeast 45 = .ok (.imul, 1) := by decide +kernel
theorem dX7_findLeast_46 : decode cX7_findLeast 46 = .ok (.goto 8, 3) := by decide +kernel
theorem dX7_findLeast_49 : decode cX7_findLeast 49 = .ok (.iconst 4, 1) := by decide +kernel
theorem dX7_findLeast_50 : decode cX7_findLeast 50 = .ok (.iload_n 2, 1) := by decide +kernel
theorem dX7_findLeast_51 : decode cX7_findLeast 51 = .ok (.iconst 5, 1) := by decide +kernel
theorem dX7_findLeast_52 : decode cX7_findLeast 52 = .ok (.isub, 1) := by decide +kernel
theorem dX7_findLeast_53 : decode cX7_findLeast 53 = .ok (.imul, 1) := by decide +kernel
theorem dX7_findLeast_54 : decode cX7_findLeast 54 = .ok (.istore 4, 2) := by decide +kernel
theorem dX7_findLeast_56 : decode cX7_findLeast 56 = .ok (.iconst 0, 1) := by decide +kernel
theorem dX7_findLeast_57 : decode cX7_findLeast 57 = .ok (.istore 5, 2) := by decide +kernel
theorem dX7_findLeast_59 : decode cX7_findLeast 59 = .ok (.iconst 0, 1) := by decide +kernel
theorem dX7_findLeast_60 : decode cX7_findLeast 60 = .ok (.istore 6, 2) := by decide +kernel
theorem dX7_findLeast_62 : decode cX7_findLeast 62 = .ok (.iload 6, 2) := by decide +kernel
theorem dX7_findLeast_64 : decode cX7_findLeast 64 = .ok (.iconst 4, 1) := by decide +kernel
theorem dX7_findLeast_65 : decode cX7_findLeast 65 = .ok (.if_icmp .ge 46, 3) := by decide +kernel
theorem dX7_findLeast_68 : decode cX7_findLeast 68 = .ok (.iload 5, 2) := by decide +kernel
theorem dX7_findLeast_70 : decode cX7_findLeast 70 = .ok (.iload_n 2, 1) := by decide +kernel
theorem dX7_findLeast_71 : decode cX7_findLeast 71 = .ok (.iconst 5, 1) := by decide +kernel
theorem dX7_findLeast_72 : decode cX7_findLeast 72 = .ok (.if_icmp .ge 19, 3) := by decide +kernel
theorem dX7_findLeast_75 : decode cX7_findLeast 75 = .ok (.aload_n 0, 1) := by decide +kernel
theorem dX7_findLeast_76 : decode cX7_findLeast 76 = .ok (.getfield 32, 3) := by decide +kernel
theorem dX7_findLeast_79 : decode cX7_findLeast 79 = .ok (.iconst 4, 1) := by decide +kernel
theorem dX7_findLeast_80 : decode cX7_findLeast 80 = .ok (.iload_n 2, 1) := by decide +kernel
theorem dX7_findLeast_81 : decode cX7_findLeast 81 = .ok (.imul, 1) := by decide +kernel
theorem dX7_findLeast_82 : decode cX7_findLeast 82 = .ok (.iconst 1, 1) := by decide +kernel
theorem dX7_findLeast_83 : decode cX7_findLeast 83 = .ok (.iadd, 1) := by decide +kernel
theorem dX7_findLeast_84 : decode cX7_findLeast 84 = .ok (.iload 6, 2) := by decide +kernel
theorem dX7_findLeast_86 : decode cX7_findLeast 86 = .ok (.iadd, 1) := by decide +kernel
theorem dX7_findLeast_87 : decode cX7_findLeast 87 = .ok (.iaload, 1) := by decide +kernel
theorem dX7_findLeast_88 : decode cX7_findLeast 88 = .ok (.goto 14, 3) := by decide +kernel
theorem dX7_findLeast_91 : decode cX7_findLeast 91 = .ok (.aload_n 0, 1) := by decide +kernel
theorem dX7_findLeast_92 : decode cX7_findLeast 92 = .ok (.iload_n 1, 1) := by decide +kernel
theorem dX7_findLeast_93 : decode cX7_findLeast 93 = .ok (.iload 4, 2) := by decide +kernel
theorem dX7_findLeast_95 : decode cX7_findLeast 95 = .ok (.iload 6, 2) := by decide +kernel
theorem dX7_findLeast_97 : decode cX7_findLeast 97 = .ok (.iadd, 1) := by decide +kernel
theorem dX7_findLeast_98 : decode cX7_findLeast 98 = .ok (.iconst 1, 1) := by decide +kernel
theorem dX7_findLeast_99 : decode cX7_findLeast 99 = .ok (.invokevirtual 109, 3) := by decide +kernel
theorem dX7_findLeast_102 : decode cX7_findLeast 102 = .ok (.iadd, 1) := by decide +kernel
theorem dX7_findLeast_103 : decode cX7_findLeast 103 = .ok (.istore 5, 2) := by decide +kernel
theorem dX7_findLeast_105 : decode cX7_findLeast 105 = .ok (.iinc 6 1, 3) := by decide +kernel
theorem dX7_findLeast_108 : decode cX7_findLeast 108 = .ok (.goto (-46), 3) := by decide +kernel
theorem dX7_findLeast_111 : decode cX7_findLeast 111 = .ok (.aload_n 0, 1) := by decide +kernel
theorem dX7_findLeast_112 : decode cX7_findLeast 112 = .ok (.iload_n 1, 1) := by decide +kernel
theorem dX7_findLeast_113 : decode cX7_findLeast 113 = .ok (.iload 4, 2) := by decide +kernel
theorem dX7_findLeast_115 : decode cX7_findLeast 115 = .ok (.iload_n 3, 1) := by decide +kernel
theorem dX7_findLeast_116 : decode cX7_findLeast 116 = .ok (.invokevirtual 109, 3) := by decide +kernel
theorem dX7_findLeast_119 : decode cX7_findLeast 119 = .ok (.istore 6, 2) := by decide +kernel
theorem dX7_findLeast_121 : decode cX7_findLeast 121 = .ok (.aload_n 0, 1) := by decide +kernel
theorem dX7_findLeast_122 : decode cX7_findLeast 122 = .ok (.getfield 35, 3) := by decide +kernel
theorem dX7_findLeast_125 : decode cX7_findLeast 125 = .ok (.iload_n 2, 1) := by decide +kernel
theorem dX7_findLeast_126 : decode cX7_findLeast 126 = .ok (.iload 6, 2) := by decide +kernel
theorem dX7_findLeast_128 : decode cX7_findLeast 128 = .ok (.iload 5, 2) := by decide +kernel
theorem dX7_findLeast_130 : decode cX7_findLeast 130 = .ok (.if_icmp .le 7, 3) := by decide +kernel
theorem dX7_findLeast_133 : decode cX7_findLeast 133 = .ok (.iconst 1, 1) := by decide +kernel
theorem dX7_findLeast_134 : decode cX7_findLeast 134 = .ok (.goto 4, 3) := by decide +kernel
theorem dX7_findLeast_137 : decode cX7_findLeast 137 = .ok (.iconst 0, 1) := by decide +kernel
theorem dX7_findLeast_138 : decode cX7_findLeast 138 = .ok (.bastore, 1) := by decide +kernel
theorem dX7_findLeast_139 : decode cX7_findLeast 139 = .ok (.aload_n 0, 1) := by decide +kernel
theorem dX7_findLeast_140 : decode cX7_findLeast 140 = .ok (.getfield 32, 3) := by decide +kernel
theorem dX7_findLeast_143 : decode cX7_findLeast 143 = .ok (.iload_n 2, 1) := by decide +kernel
theorem dX7_findLeast_144 : decode cX7_findLeast 144 = .ok (.iload 6, 2) := by decide +kernel
theorem dX7_findLeast_146 : decode cX7_findLeast 146 = .ok (.iload 5, 2) := by decide +kernel
theorem dX7_findLeast_148 : decode cX7_findLeast 148 = .ok (.if_icmp .le 8, 3) := by decide +kernel
theorem dX7_findLeast_151 : decode cX7_findLeast 151 = .ok (.iload 5, 2) := by decide +kernel
theorem dX7_findLeast_153 : decode cX7_findLeast 153 = .ok (.goto 5, 3) := by decide +kernel
theorem dX7_findLeast_156 : decode cX7_findLeast 156 = .ok (.iload 6, 2) := by decide +kernel
theorem dX7_findLeast_158 : decode cX7_findLeast 158 = .ok (.iastore, 1) := by decide +kernel
theorem dX7_findLeast_159 : decode cX7_findLeast 159 = .ok (.iinc 2 (-1), 3) := by decide +kernel
theorem dX7_findLeast_162 : decode cX7_findLeast 162 = .ok (.goto (-159), 3) := by decide +kernel
theorem dX7_findLeast_165 : decode cX7_findLeast 165 = .ok (.iconst 1, 1) := by decide +kernel
theorem dX7_findLeast_166 : decode cX7_findLeast 166 = .ok (.istore_n 2, 1) := by decide +kernel
theorem dX7_findLeast_167 : decode cX7_findLeast 167 = .ok (.iload_n 2, 1) := by decide +kernel
theorem dX7_findLeast_168 : decode cX7_findLeast 168 = .ok (.bipush 21, 2) := by decide +kernel
theorem dX7_findLeast_170 : decode cX7_findLeast 170 = .ok (.if_icmp .ge 42, 3) := by decide +kernel
theorem dX7_findLeast_173 : decode cX7_findLeast 173 = .ok (.aload_n 0, 1) := by decide +kernel
theorem dX7_findLeast_174 : decode cX7_findLeast 174 = .ok (.getfield 35, 3) := by decide +kernel
theorem dX7_findLeast_177 : decode cX7_findLeast 177 = .ok (.iload_n 2, 1) := by decide +kernel
theorem dX7_findLeast_178 : decode cX7_findLeast 178 = .ok (.aload_n 0, 1) := by decide +kernel
theorem dX7_findLeast_179 : decode cX7_findLeast 179 = .ok (.getfield 35, 3) := by decide +kernel
theorem dX7_findLeast_182 : decode cX7_findLeast 182 = .ok (.iload_n 2, 1) := by decide +kernel
theorem dX7_findLeast_183 : decode cX7_findLeast 183 = .ok (.baload, 1) := by decide +kernel
theorem dX7_findLeast_184 : decode cX7_findLeast 184 = .ok (.ifCond .eq 20, 3) := by decide +kernel
theorem dX7_findLeast_187 : decode cX7_findLeast 187 = .ok (.aload_n 0, 1) := by decide +kernel
theorem dX7_findLeast_188 : decode cX7_findLeast 188 = .ok (.getfield 35, 3) := by decide +kernel
theorem dX7_findLeast_191 : decode cX7_findLeast 191 = .ok (.iload_n 2, 1) := by decide +kernel
theorem dX7_findLeast_192 : decode cX7_findLeast 192 = .ok (.iconst 1, 1) := by decide +kernel
theorem dX7_findLeast_193 : decode cX7_findLeast 193 = .ok (.isub, 1) := by decide +kernel
theorem dX7_findLeast_194 : decode cX7_findLeast 194 = .ok (.iconst 4, 1) := by decide +kernel
theorem dX7_findLeast_195 : decode cX7_findLeast 195 = .ok (.idiv, 1) := by decide +kernel
theorem dX7_findLeast_196 : decode cX7_findLeast 196 = .ok (.baload, 1) := by decide +kernel
theorem dX7_findLeast_197 : decode cX7_findLeast 197 = .ok (.ifCond .eq 7, 3) := by decide +kernel
theorem dX7_findLeast_200 : decode cX7_findLeast 200 = .ok (.iconst 1, 1) := by decide +kernel
theorem dX7_findLeast_201 : decode cX7_findLeast 201 = .ok (.goto 4, 3) := by decide +kernel
theorem dX7_findLeast_204 : decode cX7_findLeast 204 = .ok (.iconst 0, 1) := by decide +kernel
theorem dX7_findLeast_205 : decode cX7_findLeast 205 = .ok (.bastore, 1) := by decide +kernel
theorem dX7_findLeast_206 : decode cX7_findLeast 206 = .ok (.iinc 2 1, 3) := by decide +kernel
theorem dX7_findLeast_209 : decode cX7_findLeast 209 = .ok (.goto (-42), 3) := by decide +kernel
theorem dX7_findLeast_212 : decode cX7_findLeast 212 = .ok (.return_, 1) := by decide +kernel
theorem dX7_recompress_0 : decode cX7_recompress 0 = .ok (.iload_n 1, 1) := by decide +kernel
theorem dX7_recompress_1 : decode cX7_recompress 1 = .ok (.invokestatic 62, 3) := by decide +kernel
theorem dX7_recompress_4 : decode cX7_recompress 4 = .ok (.ifCond .eq 5, 3) := by decide +kernel
theorem dX7_recompress_7 : decode cX7_recompress 7 = .ok (.iconst (-1), 1) := by decide +kernel
theorem dX7_recompress_8 : decode cX7_recompress 8 = .ok (.ireturn, 1) := by decide +kernel
theorem dX7_recompress_9 : decode cX7_recompress 9 = .ok (.aload_n 0, 1) := by decide +kernel
theorem dX7_recompress_10 : decode cX7_recompress 10 = .ok (.iload_n 1, 1) := by decide +kernel
theorem dX7_recompress_11 : decode cX7_recompress 11 = .ok (.invokevirtual 160, 3) := by decide +kernel
theorem dX7_recompress_14 : decode cX7_recompress 14 = .ok (.iconst 1, 1) := by decide +kernel
theorem dX7_recompress_15 : decode cX7_recompress 15 = .ok (.istore_n 2, 1) := by decide +kernel
theorem dX7_recompress_16 : decode cX7_recompress 16 = .ok (.iconst 0, 1) := by decide +kernel
theorem dX7_recompress_17 : decode cX7_recompress 17 = .ok (.istore_n 3, 1) := by decide +kernel
theorem dX7_recompress_18 : decode cX7_recompress 18 = .ok (.iload_n 3, 1) := by decide +kernel
theorem dX7_recompress_19 : decode cX7_recompress 19 = .ok (.bipush 21, 2) := by decide +kernel
theorem dX7_recompress_21 : decode cX7_recompress 21 = .ok (.if_icmp .ge 34, 3) := by decide +kernel
theorem dX7_recompress_24 : decode cX7_recompress 24 = .ok (.iload_n 2, 1) := by decide +kernel
theorem dX7_recompress_25 : decode cX7_recompress 25 = .ok (.ifCond .eq 22, 3) := by decide +kernel
theorem dX7_recompress_28 : decode cX7_recompress 28 = .ok (.aload_n 0, 1) := by decide +kernel
theorem dX7_recompress_29 : decode cX7_recompress 29 = .ok (.getfield 35, 3) := by decide +kernel
theorem dX7_recompress_32 : decode cX7_recompress 32 = .ok (.iload_n 3, 1) := by decide +kernel
theorem dX7_recompress_33 : decode cX7_recompress 33 = .ok (.baload, 1) := by decide +kernel
theorem dX7_recompress_34 : decode cX7_recompress 34 = .ok (.aload_n 0, 1) := by decide +kernel
theorem dX7_recompress_35 : decode cX7_recompress 35 = .ok (.iload_n 1, 1) := by decide +kernel
theorem dX7_recompress_36 : decode cX7_recompress 36 = .ok (.iload_n 3, 1) := by decide +kernel
theorem dX7_recompress_37 : decode cX7_recompress 37 = .ok (.invokevirtual 72, 3) := by decide +kernel
theorem dX7_recompress_40 : decode cX7_recompress 40 = .ok (.if_icmp .ne 7, 3) := by decide +kernel
theorem dX7_recompress_43 : decode cX7_recompress 43 = .ok (.iconst 1, 1) := by decide +kernel
theorem dX7_recompress_44 : decode cX7_recompress 44 = .ok (.goto 4, 3) := by decide +kernel
theorem dX7_recompress_47 : decode cX7_recompress 47 = .ok (.iconst 0, 1) := by decide +kernel
theorem dX7_recompress_48 : decode cX7_recompress 48 = .ok (.istore_n 2, 1) := by decide +kernel
theorem dX7_recompress_49 : decode cX7_recompress 49 = .ok (.iinc 3 1, 3) := by decide +kernel
theorem dX7_recompress_52 : decode cX7_recompress 52 = .ok (.goto (-34), 3) := by decide +kernel
theorem dX7_recompress_55 : decode cX7_recompress 55 = .ok (.iload_n 2, 1) := by decide +kernel
theorem dX7_recompress_56 : decode cX7_recompress 56 = .ok (.ifCond .eq 6, 3) := by decide +kernel
theorem dX7_recompress_59 : decode cX7_recompress 59 = .ok (.bipush (-5), 2) := by decide +kernel
theorem dX7_recompress_61 : decode cX7_recompress 61 = .ok (.ireturn, 1) := by decide +kernel
theorem dX7_recompress_62 : decode cX7_recompress 62 = .ok (.aload_n 0, 1) := by decide +kernel
theorem dX7_recompress_63 : decode cX7_recompress 63 = .ok (.invokevirtual 47, 3) := by decide +kernel
theorem dX7_recompress_66 : decode cX7_recompress 66 = .ok (.iconst 0, 1) := by decide +kernel
theorem dX7_recompress_67 : decode cX7_recompress 67 = .ok (.istore_n 3, 1) := by decide +kernel
theorem dX7_recompress_68 : decode cX7_recompress 68 = .ok (.iload_n 3, 1) := by decide +kernel
theorem dX7_recompress_69 : decode cX7_recompress 69 = .ok (.bipush 21, 2) := by decide +kernel
theorem dX7_recompress_71 : decode cX7_recompress 71 = .ok (.if_icmp .ge 38, 3) := by decide +kernel
theorem dX7_recompress_74 : decode cX7_recompress 74 = .ok (.aload_n 0, 1) := by decide +kernel
theorem dX7_recompress_75 : decode cX7_recompress 75 = .ok (.getfield 7, 3) := by decide +kernel
theorem dX7_recompress_78 : decode cX7_recompress 78 = .ok (.sipush 257, 3) := by decide +kernel
theorem dX7_recompress_81 : decode cX7_recompress 81 = .ok (.bipush 21, 2) := by decide +kernel
theorem dX7_recompress_83 : decode cX7_recompress 83 = .ok (.iload_n 1, 1) := by decide +kernel
theorem dX7_recompress_84 : decode cX7_recompress 84 = .ok (.imul, 1) := by decide +kernel
theorem dX7_recompress_85 : decode cX7_recompress 85 = .ok (.iadd, 1) := by decide +kernel
theorem dX7_recompress_86 : decode cX7_recompress 86 = .ok (.iload_n 3, 1) := by decide +kernel
theorem dX7_recompress_87 : decode cX7_recompress 87 = .ok (.iadd, 1) := by decide +kernel
theorem dX7_recompress_88 : decode cX7_recompress 88 = .ok (.aload_n 0, 1) := by decide +kernel
theorem dX7_recompress_89 : decode cX7_recompress 89 = .ok (.getfield 35, 3) := by decide +kernel
theorem dX7_recompress_92 : decode cX7_recompress 92 = .ok (.iload_n 3, 1) := by decide +kernel
theorem dX7_recompress_93 : decode cX7_recompress 93 = .ok (.baload, 1) := by decide +kernel
theorem dX7_recompress_94 : decode cX7_recompress 94 = .ok (.ifCond .eq 7, 3) := by decide +kernel
theorem dX7_recompress_97 : decode cX7_recompress 97 = .ok (.iconst 1, 1) := by decide +kernel
theorem dX7_recompress_98 : decode cX7_recompress 98 = .ok (.goto 4, 3) := by decide +kernel
theorem dX7_recompress_101 : decode cX7_recompress 101 = .ok (.iconst 0, 1) := by decide +kernel
theorem dX7_recompress_102 : decode cX7_recompress 102 = .ok (.iastore, 1) := by decide +kernel
theorem dX7_recompress_103 : decode cX7_recompress 103 = .ok (.iinc 3 1, 3) := by decide +kernel
theorem dX7_recompress_106 : decode cX7_recompress 106 = .ok (.goto (-38), 3) := by decide +kernel
theorem dX7_recompress_109 : decode cX7_recompress 109 = .ok (.aload_n 0, 1) := by decide +kernel
theorem dX7_recompress_110 : decode cX7_recompress 110 = .ok (.getfield 32, 3) := by decide +kernel
theorem dX7_recompress_113 : decode cX7_recompress 113 = .ok (.iconst 0, 1) := by decide +kernel
theorem dX7_recompress_114 : decode cX7_recompress 114 = .ok (.iaload, 1) := by decide +kernel
theorem dX7_recompress_115 : decode cX7_recompress 115 = .ok (.ireturn, 1) := by decide +kernel
theorem dX4_append_0 : decode cX4_append 0 = .ok (.aload_n 0, 1) := by decide +kernel
theorem dX4_append_1 : decode cX4_append 1 = .ok (.getfield 22, 3) := by decide +kernel
theorem dX4_append_4 : decode cX4_append 4 = .ok (.ifCond .lt 12, 3) := by decide +kernel
theorem dX4_append_7 : decode cX4_append 7 = .ok (.aload_n 0, 1) := by decide +kernel
theorem dX4_append_8 : decode cX4_append 8 = .ok (.getfield 22, 3) := by decide +kernel
theorem dX4_append_11 : decode cX4_append 11 = .ok (.bipush 60, 2) := by decide +kernel
theorem dX4_append_13 : decode cX4_append 13 = .ok (.if_icmp .lt 5, 3) := by decide +kernel
theorem dX4_append_16 : decode cX4_append 16 = .ok (.iconst 0, 1) := by decide +kernel
theorem dX4_append_17 : decode cX4_append 17 = .ok (.ireturn, 1) := by decide +kernel
theorem dX4_append_18 : decode cX4_append 18 = .ok (.aload_n 0, 1) := by decide +kernel
theorem dX4_append_19 : decode cX4_append 19 = .ok (.getfield 9, 3) := by decide +kernel
theorem dX4_append_22 : decode cX4_append 22 = .ok (.aload_n 0, 1) := by decide +kernel
theorem dX4_append_23 : decode cX4_append 23 = .ok (.getfield 22, 3) := by decide +kernel
theorem dX4_append_26 : decode cX4_append 26 = .ok (.iload_n 1, 1) := by decide +kernel
theorem dX4_append_27 : decode cX4_append 27 = .ok (.iastore, 1) := by decide +kernel
theorem dX4_append_28 : decode cX4_append 28 = .ok (.aload_n 0, 1) := by decide +kernel
theorem dX4_append_29 : decode cX4_append 29 = .ok (.dup, 1) := by decide +kernel
theorem dX4_append_30 : decode cX4_append 30 = .ok (.getfield 22, 3) := by decide +kernel
theorem dX4_append_33 : decode cX4_append 33 = .ok (.iconst 1, 1) := by decide +kernel
theorem dX4_append_34 : decode cX4_append 34 = .ok (.iadd, 1) := by decide +kernel
theorem dX4_append_35 : decode cX4_append 35 = .ok (.putfield 22, 3) := by decide +kernel
theorem dX4_append_38 : decode cX4_append 38 = .ok (.iconst 1, 1) := by decide +kernel
theorem dX4_append_39 : decode cX4_append 39 = .ok (.ireturn, 1) := by decide +kernel
theorem dX6_type_0 : decode cX6_type 0 = .ok (.aload_n 0, 1) := by decide +kernel
theorem dX6_type_1 : decode cX6_type 1 = .ok (.getfield 29, 3) := by decide +kernel
theorem dX6_type_4 : decode cX6_type 4 = .ok (.iload_n 1, 1) := by decide +kernel
theorem dX6_type_5 : decode cX6_type 5 = .ok (.invokevirtual 185, 3) := by decide +kernel
theorem dX6_type_8 : decode cX6_type 8 = .ok (.ifCond .eq 13, 3) := by decide +kernel
theorem dX6_type_11 : decode cX6_type 11 = .ok (.aload_n 0, 1) := by decide +kernel
theorem dX6_type_12 : decode cX6_type 12 = .ok (.getfield 29, 3) := by decide +kernel
theorem dX6_type_15 : decode cX6_type 15 = .ok (.getfield 189, 3) := by decide +kernel
theorem dX6_type_18 : decode cX6_type 18 = .ok (.goto 5, 3) := by decide +kernel
theorem dX6_type_21 : decode cX6_type 21 = .ok (.bipush (-3), 2) := by decide +kernel
theorem dX6_type_23 : decode cX6_type 23 = .ok (.ireturn, 1) := by decide +kernel
theorem dX7_type_0 : decode cX7_type 0 = .ok (.aload_n 0, 1) := by decide +kernel
theorem dX7_type_1 : decode cX7_type 1 = .ok (.getfield 112, 3) := by decide +kernel
theorem dX7_type_4 : decode cX7_type 4 = .ok (.bipush 60, 2) := by decide +kernel
theorem dX7_type_6 : decode cX7_type 6 = .ok (.if_icmp .ne 6, 3) := by decide +kernel
theorem dX7_type_9 : decode cX7_type 9 = .ok (.bipush (-3), 2) := by decide +kernel
theorem dX7_type_11 : decode cX7_type 11 = .ok (.ireturn, 1) := by decide +kernel
theorem dX7_type_12 : decode cX7_type 12 = .ok (.aload_n 0, 1) := by decide +kernel
theorem dX7_type_13 : decode cX7_type 13 = .ok (.getfield 19, 3) := by decide +kernel
theorem dX7_type_16 : decode cX7_type 16 = .ok (.aload_n 0, 1) := by decide +kernel
theorem dX7_type_17 : decode cX7_type 17 = .ok (.getfield 112, 3) := by decide +kernel
theorem dX7_type_20 : decode cX7_type 20 = .ok (.iload_n 1, 1) := by decide +kernel
theorem dX7_type_21 : decode cX7_type 21 = .ok (.castore, 1) := by decide +kernel
theorem dX7_type_22 : decode cX7_type 22 = .ok (.aload_n 0, 1) := by decide +kernel
theorem dX7_type_23 : decode cX7_type 23 = .ok (.dup, 1) := by decide +kernel
theorem dX7_type_24 : decode cX7_type 24 = .ok (.getfield 112, 3) := by decide +kernel
theorem dX7_type_27 : decode cX7_type 27 = .ok (.iconst 1, 1) := by decide +kernel
theorem dX7_type_28 : decode cX7_type 28 = .ok (.iadd, 1) := by decide +kernel
theorem dX7_type_29 : decode cX7_type 29 = .ok (.putfield 112, 3) := by decide +kernel
theorem dX7_type_32 : decode cX7_type 32 = .ok (.aload_n 0, 1) := by decide +kernel
theorem dX7_type_33 : decode cX7_type 33 = .ok (.getfield 112, 3) := by decide +kernel
theorem dX7_type_36 : decode cX7_type 36 = .ok (.ireturn, 1) := by decide +kernel
theorem dX6_clearText_0 : decode cX6_clearText 0 = .ok (.aload_n 0, 1) := by decide +kernel
theorem dX6_clearText_1 : decode cX6_clearText 1 = .ok (.getfield 29, 3) := by decide +kernel
theorem dX6_clearText_4 : decode cX6_clearText 4 = .ok (.getfield 189, 3) := by decide +kernel
theorem dX6_clearText_7 : decode cX6_clearText 7 = .ok (.istore_n 1, 1) := by decide +kernel
theorem dX6_clearText_8 : decode cX6_clearText 8 = .ok (.aload_n 0, 1) := by decide +kernel
theorem dX6_clearText_9 : decode cX6_clearText 9 = .ok (.getfield 29, 3) := by decide +kernel
theorem dX6_clearText_12 : decode cX6_clearText 12 = .ok (.iconst 0, 1) := by decide +kernel
theorem dX6_clearText_13 : decode cX6_clearText 13 = .ok (.putfield 189, 3) := by decide +kernel
theorem dX6_clearText_16 : decode cX6_clearText 16 = .ok (.iload_n 1, 1) := by decide +kernel
theorem dX6_clearText_17 : decode cX6_clearText 17 = .ok (.ireturn, 1) := by decide +kernel
theorem dX7_clearText_0 : decode cX7_clearText 0 = .ok (.aload_n 0, 1) := by decide +kernel
theorem dX7_clearText_1 : decode cX7_clearText 1 = .ok (.getfield 112, 3) := by decide +kernel
theorem dX7_clearText_4 : decode cX7_clearText 4 = .ok (.istore_n 1, 1) := by decide +kernel
theorem dX7_clearText_5 : decode cX7_clearText 5 = .ok (.aload_n 0, 1) := by decide +kernel
theorem dX7_clearText_6 : decode cX7_clearText 6 = .ok (.iconst 0, 1) := by decide +kernel
theorem dX7_clearText_7 : decode cX7_clearText 7 = .ok (.putfield 112, 3) := by decide +kernel
theorem dX7_clearText_10 : decode cX7_clearText 10 = .ok (.iload_n 1, 1) := by decide +kernel
theorem dX7_clearText_11 : decode cX7_clearText 11 = .ok (.ireturn, 1) := by decide +kernel
theorem dX1_takeLatest_0 : decode cX1_takeLatest 0 = .ok (.aload_n 0, 1) := by decide +kernel
theorem dX1_takeLatest_1 : decode cX1_takeLatest 1 = .ok (.getfield 18, 3) := by decide +kernel
theorem dX1_takeLatest_4 : decode cX1_takeLatest 4 = .ok (.iconst 1, 1) := by decide +kernel
theorem dX1_takeLatest_5 : decode cX1_takeLatest 5 = .ok (.if_icmp .lt 11, 3) := by decide +kernel
theorem dX1_takeLatest_8 : decode cX1_takeLatest 8 = .ok (.aload_n 0, 1) := by decide +kernel
theorem dX1_takeLatest_9 : decode cX1_takeLatest 9 = .ok (.getfield 18, 3) := by decide +kernel
theorem dX1_takeLatest_12 : decode cX1_takeLatest 12 = .ok (.iconst 4, 1) := by decide +kernel
theorem dX1_takeLatest_13 : decode cX1_takeLatest 13 = .ok (.if_icmp .le 5, 3) := by decide +kernel
theorem dX1_takeLatest_16 : decode cX1_takeLatest 16 = .ok (.iconst 0, 1) := by decide +kernel
theorem dX1_takeLatest_17 : decode cX1_takeLatest 17 = .ok (.ireturn, 1) := by decide +kernel
theorem dX1_takeLatest_18 : decode cX1_takeLatest 18 = .ok (.aload_n 0, 1) := by decide +kernel
theorem dX1_takeLatest_19 : decode cX1_takeLatest 19 = .ok (.dup, 1) := by decide +kernel
theorem dX1_takeLatest_20 : decode cX1_takeLatest 20 = .ok (.getfield 18, 3) := by decide +kernel
theorem dX1_takeLatest_23 : decode cX1_takeLatest 23 = .ok (.iconst 1, 1) := by decide +kernel
theorem dX1_takeLatest_24 : decode cX1_takeLatest 24 = .ok (.isub, 1) := by decide +kernel
theorem dX1_takeLatest_25 : decode cX1_takeLatest 25 = .ok (.putfield 18, 3) := by decide +kernel
theorem dX1_takeLatest_28 : decode cX1_takeLatest 28 = .ok (.aload_n 1, 1) := by decide +kernel
theorem dX1_takeLatest_29 : decode cX1_takeLatest 29 = .ok (.aload_n 0, 1) := by decide +kernel
theorem dX1_takeLatest_30 : decode cX1_takeLatest 30 = .ok (.getfield 12, 3) := by decide +kernel
theorem dX1_takeLatest_33 : decode cX1_takeLatest 33 = .ok (.aload_n 0, 1) := by decide +kernel
theorem dX1_takeLatest_34 : decode cX1_takeLatest 34 = .ok (.getfield 18, 3) := by decide +kernel
theorem dX1_takeLatest_37 : decode cX1_takeLatest 37 = .ok (.aaload, 1) := by decide +kernel
theorem dX1_takeLatest_38 : decode cX1_takeLatest 38 = .ok (.invokevirtual 25, 3) := by decide +kernel
theorem dX1_takeLatest_41 : decode cX1_takeLatest 41 = .ok (.iconst 1, 1) := by decide +kernel
theorem dX1_takeLatest_42 : decode cX1_takeLatest 42 = .ok (.ireturn, 1) := by decide +kernel
theorem dX6_undo_0 : decode cX6_undo 0 = .ok (.aload_n 0, 1) := by decide +kernel
theorem dX6_undo_1 : decode cX6_undo 1 = .ok (.getfield 22, 3) := by decide +kernel
theorem dX6_undo_4 : decode cX6_undo 4 = .ok (.aload_n 0, 1) := by decide +kernel
theorem dX6_undo_5 : decode cX6_undo 5 = .ok (.getfield 12, 3) := by decide +kernel
theorem dX6_undo_8 : decode cX6_undo 8 = .ok (.invokevirtual 192, 3) := by decide +kernel
theorem dX6_undo_11 : decode cX6_undo 11 = .ok (.ifCond .eq 13, 3) := by decide +kernel
theorem dX6_undo_14 : decode cX6_undo 14 = .ok (.aload_n 0, 1) := by decide +kernel
theorem dX6_undo_15 : decode cX6_undo 15 = .ok (.getfield 22, 3) := by decide +kernel
theorem dX6_undo_18 : decode cX6_undo 18 = .ok (.getfield 196, 3) := by decide +kernel
theorem dX6_undo_21 : decode cX6_undo 21 = .ok (.goto 5, 3) := by decide +kernel
theorem dX6_undo_24 : decode cX6_undo 24 = .ok (.bipush (-5), 2) := by decide +kernel
theorem dX6_undo_26 : decode cX6_undo 26 = .ok (.ireturn, 1) := by decide +kernel
theorem dX7_undo_0 : decode cX7_undo 0 = .ok (.aload_n 0, 1) := by decide +kernel
theorem dX7_undo_1 : decode cX7_undo 1 = .ok (.getfield 39, 3) := by decide +kernel
theorem dX7_undo_4 : decode cX7_undo 4 = .ok (.ifCond .ne 6, 3) := by decide +kernel
theorem dX7_undo_7 : decode cX7_undo 7 = .ok (.bipush (-5), 2) := by decide +kernel
theorem dX7_undo_9 : decode cX7_undo 9 = .ok (.ireturn, 1) := by decide +kernel
theorem dX7_undo_10 : decode cX7_undo 10 = .ok (.aload_n 0, 1) := by decide +kernel
theorem dX7_undo_11 : decode cX7_undo 11 = .ok (.dup, 1) := by decide +kernel
theorem dX7_undo_12 : decode cX7_undo 12 = .ok (.getfield 39, 3) := by decide +kernel
theorem dX7_undo_15 : decode cX7_undo 15 = .ok (.iconst 1, 1) := by decide +kernel
theorem dX7_undo_16 : decode cX7_undo 16 = .ok (.isub, 1) := by decide +kernel
theorem dX7_undo_17 : decode cX7_undo 17 = .ok (.putfield 39, 3) := by decide +kernel
theorem dX7_undo_20 : decode cX7_undo 20 = .ok (.iconst 0, 1) := by decide +kernel
theorem dX7_undo_21 : decode cX7_undo 21 = .ok (.istore_n 1, 1) := by decide +kernel
theorem dX7_undo_22 : decode cX7_undo 22 = .ok (.iload_n 1, 1) := by decide +kernel
theorem dX7_undo_23 : decode cX7_undo 23 = .ok (.sipush 341, 3) := by decide +kernel
theorem dX7_undo_26 : decode cX7_undo 26 = .ok (.if_icmp .ge 30, 3) := by decide +kernel
theorem dX7_undo_29 : decode cX7_undo 29 = .ok (.aload_n 0, 1) := by decide +kernel
theorem dX7_undo_30 : decode cX7_undo 30 = .ok (.getfield 7, 3) := by decide +kernel
theorem dX7_undo_33 : decode cX7_undo 33 = .ok (.iload_n 1, 1) := by decide +kernel
theorem dX7_undo_34 : decode cX7_undo 34 = .ok (.aload_n 0, 1) := by decide +kernel
theorem dX7_undo_35 : decode cX7_undo 35 = .ok (.getfield 13, 3) := by decide +kernel
theorem dX7_undo_38 : decode cX7_undo 38 = .ok (.sipush 341, 3) := by decide +kernel
theorem dX7_undo_41 : decode cX7_undo 41 = .ok (.aload_n 0, 1) := by decide +kernel
theorem dX7_undo_42 : decode cX7_undo 42 = .ok (.getfield 39, 3) := by decide +kernel
theorem dX7_undo_45 : decode cX7_undo 45 = .ok (.imul, 1) := by decide +kernel
theorem dX7_undo_46 : decode cX7_undo 46 = .ok (.iload_n 1, 1) := by decide +kernel
theorem dX7_undo_47 : decode cX7_undo 47 = .ok (.iadd, 1) := by decide +kernel
theorem dX7_undo_48 : decode cX7_undo 48 = .ok (.iaload, 1) := by decide +kernel
theorem dX7_undo_49 : decode cX7_undo 49 = .ok (.iastore, 1) := by decide +kernel
theorem dX7_undo_50 : decode cX7_undo 50 = .ok (.iinc 1 1, 3) := by decide +kernel
theorem dX7_undo_53 : decode cX7_undo 53 = .ok (.goto (-31), 3) := by decide +kernel
theorem dX7_undo_56 : decode cX7_undo 56 = .ok (.aload_n 0, 1) := by decide +kernel
theorem dX7_undo_57 : decode cX7_undo 57 = .ok (.getfield 39, 3) := by decide +kernel
theorem dX7_undo_60 : decode cX7_undo 60 = .ok (.ireturn, 1) := by decide +kernel
theorem dX6_keep_0 : decode cX6_keep 0 = .ok (.aload_n 0, 1) := by decide +kernel
theorem dX6_keep_1 : decode cX6_keep 1 = .ok (.getfield 16, 3) := by decide +kernel
theorem dX6_keep_4 : decode cX6_keep 4 = .ok (.aload_n 0, 1) := by decide +kernel
theorem dX6_keep_5 : decode cX6_keep 5 = .ok (.getfield 12, 3) := by decide +kernel
theorem dX6_keep_8 : decode cX6_keep 8 = .ok (.invokevirtual 197, 3) := by decide +kernel
theorem dX6_keep_11 : decode cX6_keep 11 = .ok (.aload_n 0, 1) := by decide +kernel
theorem dX6_keep_12 : decode cX6_keep 12 = .ok (.iconst 1, 1) := by decide +kernel
theorem dX6_keep_13 : decode cX6_keep 13 = .ok (.putfield 199, 3) := by decide +kernel
theorem dX6_keep_16 : decode cX6_keep 16 = .ok (.aload_n 0, 1) := by decide +kernel
theorem dX6_keep_17 : decode cX6_keep 17 = .ok (.getfield 12, 3) := by decide +kernel
theorem dX6_keep_20 : decode cX6_keep 20 = .ok (.getfield 58, 3) := by decide +kernel
theorem dX6_keep_23 : decode cX6_keep 23 = .ok (.ireturn, 1) := by decide +kernel
theorem dX7_keep_0 : decode cX7_keep 0 = .ok (.iconst 0, 1) := by decide +kernel
theorem dX7_keep_1 : decode cX7_keep 1 = .ok (.istore_n 1, 1) := by decide +kernel
theorem dX7_keep_2 : decode cX7_keep 2 = .ok (.iload_n 1, 1) := by decide +kernel
theorem dX7_keep_3 : decode cX7_keep 3 = .ok (.sipush 341, 3) := by decide +kernel
theorem dX7_keep_6 : decode cX7_keep 6 = .ok (.if_icmp .ge 21, 3) := by decide +kernel
theorem dX7_keep_9 : decode cX7_keep 9 = .ok (.aload_n 0, 1) := by decide +kernel
theorem dX7_keep_10 : decode cX7_keep 10 = .ok (.getfield 16, 3) := by decide +kernel
theorem dX7_keep_13 : decode cX7_keep 13 = .ok (.iload_n 1, 1) := by decide +kernel
theorem dX7_keep_14 : decode cX7_keep 14 = .ok (.aload_n 0, 1) := by decide +kernel
theorem dX7_keep_15 : decode cX7_keep 15 = .ok (.getfield 7, 3) := by decide +kernel
theorem dX7_keep_18 : decode cX7_keep 18 = .ok (.iload_n 1, 1) := by decide +kernel
theorem dX7_keep_19 : decode cX7_keep 19 = .ok (.iaload, 1) := by decide +kernel
theorem dX7_keep_20 : decode cX7_keep 20 = .ok (.iastore, 1) := by decide +kernel
theorem dX7_keep_21 : decode cX7_keep 21 = .ok (.iinc 1 1, 3) := by decide +kernel
theorem dX7_keep_24 : decode cX7_keep 24 = .ok (.goto (-22), 3) := by decide +kernel
theorem dX7_keep_27 : decode cX7_keep 27 = .ok (.aload_n 0, 1) := by decide +kernel
theorem dX7_keep_28 : decode cX7_keep 28 = .ok (.iconst 1, 1) := by decide +kernel
theorem dX7_keep_29 : decode cX7_keep 29 = .ok (.putfield 43, 3) := by decide +kernel
theorem dX7_keep_32 : decode cX7_keep 32 = .ok (.aload_n 0, 1) := by decide +kernel
theorem dX7_keep_33 : decode cX7_keep 33 = .ok (.getfield 7, 3) := by decide +kernel
theorem dX7_keep_36 : decode cX7_keep 36 = .ok (.iconst 0, 1) := by decide +kernel
theorem dX7_keep_37 : decode cX7_keep 37 = .ok (.iaload, 1) := by decide +kernel
theorem dX7_keep_38 : decode cX7_keep 38 = .ok (.ireturn, 1) := by decide +kernel
theorem dX6_restore_0 : decode cX6_restore 0 = .ok (.aload_n 0, 1) := by decide +kernel
theorem dX6_restore_1 : decode cX6_restore 1 = .ok (.getfield 199, 3) := by decide +kernel
theorem dX6_restore_4 : decode cX6_restore 4 = .ok (.ifCond .ne 6, 3) := by decide +kernel
theorem dX6_restore_7 : decode cX6_restore 7 = .ok (.bipush (-5), 2) := by decide +kernel
theorem dX6_restore_9 : decode cX6_restore 9 = .ok (.ireturn, 1) := by decide +kernel
theorem dX6_restore_10 : decode cX6_restore 10 = .ok (.aload_n 0, 1) := by decide +kernel
theorem dX6_restore_11 : decode cX6_restore 11 = .ok (.getfield 22, 3) := by decide +kernel
theorem dX6_restore_14 : decode cX6_restore 14 = .ok (.aload_n 0, 1) := by decide +kernel
theorem dX6_restore_15 : decode cX6_restore 15 = .ok (.getfield 12, 3) := by decide +kernel
theorem dX6_restore_18 : decode cX6_restore 18 = .ok (.invokevirtual 62, 3) := by decide +kernel
theorem dX6_restore_21 : decode cX6_restore 21 = .ok (.aload_n 0, 1) := by decide +kernel
theorem dX6_restore_22 : decode cX6_restore 22 = .ok (.getfield 12, 3) := by decide +kernel
theorem dX6_restore_25 : decode cX6_restore 25 = .ok (.aload_n 0, 1) := by decide +kernel
theorem dX6_restore_26 : decode cX6_restore 26 = .ok (.getfield 16, 3) := by decide +kernel
theorem dX6_restore_29 : decode cX6_restore 29 = .ok (.invokevirtual 197, 3) := by decide +kernel
theorem dX6_restore_32 : decode cX6_restore 32 = .ok (.aload_n 0, 1) := by decide +kernel
theorem dX6_restore_33 : decode cX6_restore 33 = .ok (.getfield 12, 3) := by decide +kernel
theorem dX6_restore_36 : decode cX6_restore 36 = .ok (.getfield 58, 3) := by decide +kernel
theorem dX6_restore_39 : decode cX6_restore 39 = .ok (.ireturn, 1) := by decide +kernel
theorem dX7_restore_0 : decode cX7_restore 0 = .ok (.aload_n 0, 1) := by decide +kernel
theorem dX7_restore_1 : decode cX7_restore 1 = .ok (.getfield 43, 3) := by decide +kernel
theorem dX7_restore_4 : decode cX7_restore 4 = .ok (.ifCond .ne 6, 3) := by decide +kernel
theorem dX7_restore_7 : decode cX7_restore 7 = .ok (.bipush (-5), 2) := by decide +kernel
theorem dX7_restore_9 : decode cX7_restore 9 = .ok (.ireturn, 1) := by decide +kernel
theorem dX7_restore_10 : decode cX7_restore 10 = .ok (.aload_n 0, 1) := by decide +kernel
theorem dX7_restore_11 : decode cX7_restore 11 = .ok (.invokevirtual 47, 3) := by decide +kernel
theorem dX7_restore_14 : decode cX7_restore 14 = .ok (.iconst 0, 1) := by decide +kernel
theorem dX7_restore_15 : decode cX7_restore 15 = .ok (.istore_n 1, 1) := by decide +kernel
theorem dX7_restore_16 : decode cX7_restore 16 = .ok (.iload_n 1, 1) := by decide +kernel
theorem dX7_restore_17 : decode cX7_restore 17 = .ok (.sipush 341, 3) := by decide +kernel
theorem dX7_restore_20 : decode cX7_restore 20 = .ok (.if_icmp .ge 21, 3) := by decide +kernel
theorem dX7_restore_23 : decode cX7_restore 23 = .ok (.aload_n 0, 1) := by decide +kernel
theorem dX7_restore_24 : decode cX7_restore 24 = .ok (.getfield 7, 3) := by decide +kernel
theorem dX7_restore_27 : decode cX7_restore 27 = .ok (.iload_n 1, 1) := by decide +kernel
theorem dX7_restore_28 : decode cX7_restore 28 = .ok (.aload_n 0, 1) := by decide +kernel
theorem dX7_restore_29 : decode cX7_restore 29 = .ok (.getfield 16, 3) := by decide +kernel
theorem dX7_restore_32 : decode cX7_restore 32 = .ok (.iload_n 1, 1) := by decide +kernel
theorem dX7_restore_33 : decode cX7_restore 33 = .ok (.iaload, 1) := by decide +kernel
theorem dX7_restore_34 : decode cX7_restore 34 = .ok (.iastore, 1) := by decide +kernel
theorem dX7_restore_35 : decode cX7_restore 35 = .ok (.iinc 1 1, 3) := by decide +kernel
theorem dX7_restore_38 : decode cX7_restore 38 = .ok (.goto (-22), 3) := by decide +kernel
theorem dX7_restore_41 : decode cX7_restore 41 = .ok (.aload_n 0, 1) := by decide +kernel
theorem dX7_restore_42 : decode cX7_restore 42 = .ok (.getfield 7, 3) := by decide +kernel
theorem dX7_restore_45 : decode cX7_restore 45 = .ok (.iconst 0, 1) := by decide +kernel
theorem dX7_restore_46 : decode cX7_restore 46 = .ok (.iaload, 1) := by decide +kernel
theorem dX7_restore_47 : decode cX7_restore 47 = .ok (.ireturn, 1) := by decide +kernel
theorem dX6_cell_0 : decode cX6_cell 0 = .ok (.iload_n 1, 1) := by decide +kernel
theorem dX6_cell_1 : decode cX6_cell 1 = .ok (.invokestatic 70, 3) := by decide +kernel
theorem dX6_cell_4 : decode cX6_cell 4 = .ok (.ifCond .eq 17, 3) := by decide +kernel
theorem dX6_cell_7 : decode cX6_cell 7 = .ok (.iload_n 2, 1) := by decide +kernel
theorem dX6_cell_8 : decode cX6_cell 8 = .ok (.invokestatic 73, 3) := by decide +kernel
theorem dX6_cell_11 : decode cX6_cell 11 = .ok (.ifCond .eq 10, 3) := by decide +kernel
theorem dX6_cell_14 : decode cX6_cell 14 = .ok (.iload_n 3, 1) := by decide +kernel
theorem dX6_cell_15 : decode cX6_cell 15 = .ok (.invokestatic 73, 3) := by decide +kernel
theorem dX6_cell_18 : decode cX6_cell 18 = .ok (.ifCond .ne 5, 3) := by decide +kernel
theorem dX6_cell_21 : decode cX6_cell 21 = .ok (.iconst (-1), 1) := by decide +kernel
theorem dX6_cell_22 : decode cX6_cell 22 = .ok (.ireturn, 1) := by decide +kernel
theorem dX6_cell_23 : decode cX6_cell 23 = .ok (.aload_n 0, 1) := by decide +kernel
theorem dX6_cell_24 : decode cX6_cell 24 = .ok (.getfield 12, 3) := by decide +kernel
theorem dX6_cell_27 : decode cX6_cell 27 = .ok (.iload_n 1, 1) := by decide +kernel
theorem dX6_cell_28 : decode cX6_cell 28 = .ok (.invokevirtual 76, 3) := by decide +kernel
theorem dX6_cell_31 : decode cX6_cell 31 = .ok (.iload_n 2, 1) := by decide +kernel
theorem dX6_cell_32 : decode cX6_cell 32 = .ok (.iload_n 3, 1) := by decide +kernel
theorem dX6_cell_33 : decode cX6_cell 33 = .ok (.invokevirtual 80, 3) := by decide +kernel
theorem dX6_cell_36 : decode cX6_cell 36 = .ok (.ireturn, 1) := by decide +kernel
theorem dX7_cell_0 : decode cX7_cell 0 = .ok (.iload_n 1, 1) := by decide +kernel
theorem dX7_cell_1 : decode cX7_cell 1 = .ok (.invokestatic 62, 3) := by decide +kernel
theorem dX7_cell_4 : decode cX7_cell 4 = .ok (.ifCond .ne 17, 3) := by decide +kernel
theorem dX7_cell_7 : decode cX7_cell 7 = .ok (.iload_n 2, 1) := by decide +kernel
theorem dX7_cell_8 : decode cX7_cell 8 = .ok (.invokestatic 65, 3) := by decide +kernel
theorem dX7_cell_11 : decode cX7_cell 11 = .ok (.ifCond .ne 10, 3) := by decide +kernel
theorem dX7_cell_14 : decode cX7_cell 14 = .ok (.iload_n 3, 1) := by decide +kernel
theorem dX7_cell_15 : decode cX7_cell 15 = .ok (.invokestatic 65, 3) := by decide +kernel
theorem dX7_cell_18 : decode cX7_cell 18 = .ok (.ifCond .eq 7, 3) := by decide +kernel
theorem dX7_cell_21 : decode cX7_cell 21 = .ok (.iconst (-1), 1) := by decide +kernel
theorem dX7_cell_22 : decode cX7_cell 22 = .ok (.goto 14, 3) := by decide +kernel
theorem dX7_cell_25 : decode cX7_cell 25 = .ok (.aload_n 0, 1) := by decide +kernel
theorem dX7_cell_26 : decode cX7_cell 26 = .ok (.getfield 7, 3) := by decide +kernel
theorem dX7_cell_29 : decode cX7_cell 29 = .ok (.iload_n 1, 1) := by decide +kernel
theorem dX7_cell_30 : decode cX7_cell 30 = .ok (.iload_n 2, 1) := by decide +kernel
theorem dX7_cell_31 : decode cX7_cell 31 = .ok (.iload_n 3, 1) := by decide +kernel
theorem dX7_cell_32 : decode cX7_cell 32 = .ok (.invokestatic 68, 3) := by decide +kernel
theorem dX7_cell_35 : decode cX7_cell 35 = .ok (.iaload, 1) := by decide +kernel
theorem dX7_cell_36 : decode cX7_cell 36 = .ok (.ireturn, 1) := by decide +kernel
theorem dX6_tableDeterminant_0 : decode cX6_tableDeterminant 0 = .ok (.aload_n 0, 1) := by decide +kernel
theorem dX6_tableDeterminant_1 : decode cX6_tableDeterminant 1 = .ok (.getfield 36, 3) := by decide +kernel
theorem dX6_tableDeterminant_4 : decode cX6_tableDeterminant 4 = .ok (.aload_n 1, 1) := by decide +kernel
theorem dX6_tableDeterminant_5 : decode cX6_tableDeterminant 5 = .ok (.iconst 0, 1) := by decide +kernel
theorem dX6_tableDeterminant_6 : decode cX6_tableDeterminant 6 = .ok (.bipush 8, 2) := by decide +kernel
theorem dX6_tableDeterminant_8 : decode cX6_tableDeterminant 8 = .ok (.aload_n 0, 1) := by decide +kernel
theorem dX6_tableDeterminant_9 : decode cX6_tableDeterminant 9 = .ok (.getfield 12, 3) := by decide +kernel
theorem dX6_tableDeterminant_12 : decode cX6_tableDeterminant 12 = .ok (.getfield 58, 3) := by decide +kernel
theorem dX6_tableDeterminant_15 : decode cX6_tableDeterminant 15 = .ok (.invokevirtual 138, 3) := by decide +kernel
theorem dX6_tableDeterminant_18 : decode cX6_tableDeterminant 18 = .ok (.aload_n 0, 1) := by decide +kernel
theorem dX6_tableDeterminant_19 : decode cX6_tableDeterminant 19 = .ok (.getfield 36, 3) := by decide +kernel
theorem dX6_tableDeterminant_22 : decode cX6_tableDeterminant 22 = .ok (.invokevirtual 242, 3) := by decide +kernel
theorem dX6_tableDeterminant_25 : decode cX6_tableDeterminant 25 = .ok (.aload_n 0, 1) := by decide +kernel
theorem dX6_tableDeterminant_26 : decode cX6_tableDeterminant 26 = .ok (.getfield 36, 3) := by decide +kernel
theorem dX6_tableDeterminant_29 : decode cX6_tableDeterminant 29 = .ok (.getfield 150, 3) := by decide +kernel
theorem dX6_tableDeterminant_32 : decode cX6_tableDeterminant 32 = .ok (.ireturn, 1) := by decide +kernel
theorem dX3_diagonalSum_0 : decode cX3_diagonalSum 0 = .ok (.iconst 0, 1) := by decide +kernel
theorem dX3_diagonalSum_1 : decode cX3_diagonalSum 1 = .ok (.istore_n 1, 1) := by decide +kernel
theorem dX3_diagonalSum_2 : decode cX3_diagonalSum 2 = .ok (.iconst 0, 1) := by decide +kernel
theorem dX3_diagonalSum_3 : decode cX3_diagonalSum 3 = .ok (.istore_n 2, 1) := by decide +kernel
theorem dX3_diagonalSum_4 : decode cX3_diagonalSum 4 = .ok (.iload_n 2, 1) := by decide +kernel
theorem dX3_diagonalSum_5 : decode cX3_diagonalSum 5 = .ok (.bipush 8, 2) := by decide +kernel
theorem dX3_diagonalSum_7 : decode cX3_diagonalSum 7 = .ok (.if_icmp .ge 18, 3) := by decide +kernel
theorem dX3_diagonalSum_10 : decode cX3_diagonalSum 10 = .ok (.iload_n 1, 1) := by decide +kernel
theorem dX3_diagonalSum_11 : decode cX3_diagonalSum 11 = .ok (.aload_n 0, 1) := by decide +kernel
theorem dX3_diagonalSum_12 : decode cX3_diagonalSum 12 = .ok (.iload_n 2, 1) := by decide +kernel
theorem dX3_diagonalSum_13 : decode cX3_diagonalSum 13 = .ok (.iload_n 2, 1) := by decide +kernel
theorem dX3_diagonalSum_14 : decode cX3_diagonalSum 14 = .ok (.invokevirtual 30, 3) := by decide +kernel
theorem dX3_diagonalSum_17 : decode cX3_diagonalSum 17 = .ok (.iadd, 1) := by decide +kernel
theorem dX3_diagonalSum_18 : decode cX3_diagonalSum 18 = .ok (.istore_n 1, 1) := by decide +kernel
theorem dX3_diagonalSum_19 : decode cX3_diagonalSum 19 = .ok (.iinc 2 1, 3) := by decide +kernel
theorem dX3_diagonalSum_22 : decode cX3_diagonalSum 22 = .ok (.goto (-18), 3) := by decide +kernel
theorem dX3_diagonalSum_25 : decode cX3_diagonalSum 25 = .ok (.iload_n 1, 1) := by decide +kernel
theorem dX3_diagonalSum_26 : decode cX3_diagonalSum 26 = .ok (.ireturn, 1) := by decide +kernel
theorem dX6_costOfTables_0 : decode cX6_costOfTables 0 = .ok (.iconst 0, 1) := by decide +kernel
theorem dX6_costOfTables_1 : decode cX6_costOfTables 1 = .ok (.istore_n 3, 1) := by decide +kernel
theorem dX6_costOfTables_2 : decode cX6_costOfTables 2 = .ok (.iload_n 1, 1) := by decide +kernel
theorem dX6_costOfTables_3 : decode cX6_costOfTables 3 = .ok (.istore 4, 2) := by decide +kernel
theorem dX6_costOfTables_5 : decode cX6_costOfTables 5 = .ok (.iload 4, 2) := by decide +kernel
theorem dX6_costOfTables_7 : decode cX6_costOfTables 7 = .ok (.iload_n 2, 1) := by decide +kernel
theorem dX6_costOfTables_8 : decode cX6_costOfTables 8 = .ok (.if_icmp .gt 71, 3) := by decide +kernel
theorem dX6_costOfTables_11 : decode cX6_costOfTables 11 = .ok (.aload_n 0, 1) := by decide +kernel
theorem dX6_costOfTables_12 : decode cX6_costOfTables 12 = .ok (.getfield 12, 3) := by decide +kernel
theorem dX6_costOfTables_15 : decode cX6_costOfTables 15 = .ok (.iload 4, 2) := by decide +kernel
theorem dX6_costOfTables_17 : decode cX6_costOfTables 17 = .ok (.invokevirtual 76, 3) := by decide +kernel
theorem dX6_costOfTables_20 : decode cX6_costOfTables 20 = .ok (.astore 5, 2) := by decide +kernel
theorem dX6_costOfTables_22 : decode cX6_costOfTables 22 = .ok (.iconst 0, 1) := by decide +kernel
theorem dX6_costOfTables_23 : decode cX6_costOfTables 23 = .ok (.istore 6, 2) := by decide +kernel
theorem dX6_costOfTables_25 : decode cX6_costOfTables 25 = .ok (.iload 6, 2) := by decide +kernel
theorem dX6_costOfTables_27 : decode cX6_costOfTables 27 = .ok (.bipush 64, 2) := by decide +kernel
theorem dX6_costOfTables_29 : decode cX6_costOfTables 29 = .ok (.if_icmp .ge 44, 3) := by decide +kernel
theorem dX6_costOfTables_32 : decode cX6_costOfTables 32 = .ok (.aload 5, 2) := by decide +kernel
theorem dX6_costOfTables_34 : decode cX6_costOfTables 34 = .ok (.getfield 93, 3) := by decide +kernel
theorem dX6_costOfTables_37 : decode cX6_costOfTables 37 = .ok (.iload 6, 2) := by decide +kernel
theorem dX6_costOfTables_39 : decode cX6_costOfTables 39 = .ok (.invokevirtual 96, 3) := by decide +kernel
theorem dX6_costOfTables_42 : decode cX6_costOfTables 42 = .ok (.istore 7, 2) := by decide +kernel
theorem dX6_costOfTables_44 : decode cX6_costOfTables 44 = .ok (.iload 7, 2) := by decide +kernel
theorem dX6_costOfTables_46 : decode cX6_costOfTables 46 = .ok (.ifCond .le 21, 3) := by decide +kernel
theorem dX6_costOfTables_49 : decode cX6_costOfTables 49 = .ok (.iload_n 3, 1) := by decide +kernel
theorem dX6_costOfTables_50 : decode cX6_costOfTables 50 = .ok (.iload 7, 2) := by decide +kernel
theorem dX6_costOfTables_52 : decode cX6_costOfTables 52 = .ok (.aload_n 0, 1) := by decide +kernel
theorem dX6_costOfTables_53 : decode cX6_costOfTables 53 = .ok (.aload 5, 2) := by decide +kernel
theorem dX6_costOfTables_55 : decode cX6_costOfTables 55 = .ok (.iload 6, 2) := by decide +kernel
theorem dX6_costOfTables_57 : decode cX6_costOfTables 57 = .ok (.iload 7, 2) := by decide +kernel
theorem dX6_costOfTables_59 : decode cX6_costOfTables 59 = .ok (.invokevirtual 111, 3) := by decide +kernel
theorem dX6_costOfTables_62 : decode cX6_costOfTables 62 = .ok (.invokestatic 224, 3) := by decide +kernel
theorem dX6_costOfTables_65 : decode cX6_costOfTables 65 = .ok (.iadd, 1) := by decide +kernel
theorem dX6_costOfTables_66 : decode cX6_costOfTables 66 = .ok (.istore_n 3, 1) := by decide +kernel
theorem dX6_costOfTables_67 : decode cX6_costOfTables 67 = .ok (.iinc 6 1, 3) := by decide +kernel
theorem dX6_costOfTables_70 : decode cX6_costOfTables 70 = .ok (.goto (-45), 3) := by decide +kernel
theorem dX6_costOfTables_73 : decode cX6_costOfTables 73 = .ok (.iinc 4 1, 3) := by decide +kernel
theorem dX6_costOfTables_76 : decode cX6_costOfTables 76 = .ok (.goto (-71), 3) := by decide +kernel
theorem dX6_costOfTables_79 : decode cX6_costOfTables 79 = .ok (.iload_n 3, 1) := by decide +kernel
theorem dX6_costOfTables_80 : decode cX6_costOfTables 80 = .ok (.ireturn, 1) := by decide +kernel
theorem dX6_greatestLeafRank_0 : decode cX6_greatestLeafRank 0 = .ok (.iconst 0, 1) := by decide +kernel
theorem dX6_greatestLeafRank_1 : decode cX6_greatestLeafRank 1 = .ok (.istore_n 2, 1) := by decide +kernel
theorem dX6_greatestLeafRank_2 : decode cX6_greatestLeafRank 2 = .ok (.iconst 0, 1) := by decide +kernel
theorem dX6_greatestLeafRank_3 : decode cX6_greatestLeafRank 3 = .ok (.istore_n 3, 1) := by decide +kernel
theorem dX6_greatestLeafRank_4 : decode cX6_greatestLeafRank 4 = .ok (.iload_n 3, 1) := by decide +kernel
theorem dX6_greatestLeafRank_5 : decode cX6_greatestLeafRank 5 = .ok (.bipush 64, 2) := by decide +kernel
theorem dX6_greatestLeafRank_7 : decode cX6_greatestLeafRank 7 = .ok (.if_icmp .ge 37, 3) := by decide +kernel
theorem dX6_greatestLeafRank_10 : decode cX6_greatestLeafRank 10 = .ok (.aload_n 1, 1) := by decide +kernel
theorem dX6_greatestLeafRank_11 : decode cX6_greatestLeafRank 11 = .ok (.getfield 93, 3) := by decide +kernel
theorem dX6_greatestLeafRank_14 : decode cX6_greatestLeafRank 14 = .ok (.iload_n 3, 1) := by decide +kernel
theorem dX6_greatestLeafRank_15 : decode cX6_greatestLeafRank 15 = .ok (.invokevirtual 96, 3) := by decide +kernel
theorem dX6_greatestLeafRank_18 : decode cX6_greatestLeafRank 18 = .ok (.istore 4, 2) := by decide +kernel
theorem dX6_greatestLeafRank_20 : decode cX6_greatestLeafRank 20 = .ok (.iload 4, 2) := by decide +kernel
theorem dX6_greatestLeafRank_22 : decode cX6_greatestLeafRank 22 = .ok (.ifCond .le 16, 3) := by decide +kernel
theorem dX6_greatestLeafRank_25 : decode cX6_greatestLeafRank 25 = .ok (.iload_n 2, 1) := by decide +kernel
theorem dX6_greatestLeafRank_26 : decode cX6_greatestLeafRank 26 = .ok (.aload_n 0, 1) := by decide +kernel
theorem dX6_greatestLeafRank_27 : decode cX6_greatestLeafRank 27 = .ok (.aload_n 1, 1) := by decide +kernel
theorem dX6_greatestLeafRank_28 : decode cX6_greatestLeafRank 28 = .ok (.iload_n 3, 1) := by decide +kernel
theorem dX6_greatestLeafRank_29 : decode cX6_greatestLeafRank 29 = .ok (.iload 4, 2) := by decide +kernel
theorem dX6_greatestLeafRank_31 : decode cX6_greatestLeafRank 31 = .ok (.invokevirtual 111, 3) := by decide +kernel
theorem dX6_greatestLeafRank_34 : decode cX6_greatestLeafRank 34 = .ok (.invokestatic 274, 3) := by decide +kernel
theorem dX6_greatestLeafRank_37 : decode cX6_greatestLeafRank 37 = .ok (.istore_n 2, 1) := by decide +kernel
theorem dX6_greatestLeafRank_38 : decode cX6_greatestLeafRank 38 = .ok (.iinc 3 1, 3) := by decide +kernel
theorem dX6_greatestLeafRank_41 : decode cX6_greatestLeafRank 41 = .ok (.goto (-37), 3) := by decide +kernel
theorem dX6_greatestLeafRank_44 : decode cX6_greatestLeafRank 44 = .ok (.iload_n 2, 1) := by decide +kernel
theorem dX6_greatestLeafRank_45 : decode cX6_greatestLeafRank 45 = .ok (.ireturn, 1) := by decide +kernel
theorem dX3_cellsNotZero_0 : decode cX3_cellsNotZero 0 = .ok (.iconst 0, 1) := by decide +kernel
theorem dX3_cellsNotZero_1 : decode cX3_cellsNotZero 1 = .ok (.istore_n 1, 1) := by decide +kernel
theorem dX3_cellsNotZero_2 : decode cX3_cellsNotZero 2 = .ok (.iconst 0, 1) := by decide +kernel
theorem dX3_cellsNotZero_3 : decode cX3_cellsNotZero 3 = .ok (.istore_n 2, 1) := by decide +kernel
theorem dX3_cellsNotZero_4 : decode cX3_cellsNotZero 4 = .ok (.iload_n 2, 1) := by decide +kernel
theorem dX3_cellsNotZero_5 : decode cX3_cellsNotZero 5 = .ok (.bipush 64, 2) := by decide +kernel
theorem dX3_cellsNotZero_7 : decode cX3_cellsNotZero 7 = .ok (.if_icmp .ge 21, 3) := by decide +kernel
theorem dX3_cellsNotZero_10 : decode cX3_cellsNotZero 10 = .ok (.aload_n 0, 1) := by decide +kernel
theorem dX3_cellsNotZero_11 : decode cX3_cellsNotZero 11 = .ok (.getfield 9, 3) := by decide +kernel
theorem dX3_cellsNotZero_14 : decode cX3_cellsNotZero 14 = .ok (.iload_n 2, 1) := by decide +kernel
theorem dX3_cellsNotZero_15 : decode cX3_cellsNotZero 15 = .ok (.iaload, 1) := by decide +kernel
theorem dX3_cellsNotZero_16 : decode cX3_cellsNotZero 16 = .ok (.ifCond .eq 6, 3) := by decide +kernel
theorem dX3_cellsNotZero_19 : decode cX3_cellsNotZero 19 = .ok (.iinc 1 1, 3) := by decide +kernel
theorem dX3_cellsNotZero_22 : decode cX3_cellsNotZero 22 = .ok (.iinc 2 1, 3) := by decide +kernel
theorem dX3_cellsNotZero_25 : decode cX3_cellsNotZero 25 = .ok (.goto (-21), 3) := by decide +kernel
theorem dX3_cellsNotZero_28 : decode cX3_cellsNotZero 28 = .ok (.iload_n 1, 1) := by decide +kernel
theorem dX3_cellsNotZero_29 : decode cX3_cellsNotZero 29 = .ok (.ireturn, 1) := by decide +kernel
theorem dX6_table_0 : decode cX6_table 0 = .ok (.iload_n 1, 1) := by decide +kernel
theorem dX6_table_1 : decode cX6_table 1 = .ok (.invokestatic 70, 3) := by decide +kernel
theorem dX6_table_4 : decode cX6_table 4 = .ok (.ifCond .ne 5, 3) := by decide +kernel
theorem dX6_table_7 : decode cX6_table 7 = .ok (.iconst (-1), 1) := by decide +kernel
theorem dX6_table_8 : decode cX6_table 8 = .ok (.ireturn, 1) := by decide +kernel
theorem dX6_table_9 : decode cX6_table 9 = .ok (.aload_n 0, 1) := by decide +kernel
theorem dX6_table_10 : decode cX6_table 10 = .ok (.getfield 12, 3) := by decide +kernel
theorem dX6_table_13 : decode cX6_table 13 = .ok (.iload_n 1, 1) := by decide +kernel
theorem dX6_table_14 : decode cX6_table 14 = .ok (.invokevirtual 76, 3) := by decide +kernel
theorem dX6_table_17 : decode cX6_table 17 = .ok (.astore_n 3, 1) := by decide +kernel
theorem dX6_table_18 : decode cX6_table 18 = .ok (.iload_n 2, 1) := by decide +kernel
theorem dX6_table_19 : decode cX6_table 19 = .ok (.tableswitch 125 0 8 #[49, 58, 64, 79, 87, 94, 100, 114, 120], 49) := by decide +kernel
theorem dX6_table_68 : decode cX6_table 68 = .ok (.aload_n 0, 1) := by decide +kernel
theorem dX6_table_69 : decode cX6_table 69 = .ok (.aload_n 3, 1) := by decide +kernel
theorem dX6_table_70 : decode cX6_table 70 = .ok (.iconst 0, 1) := by decide +kernel
theorem dX6_table_71 : decode cX6_table 71 = .ok (.bipush 8, 2) := by decide +kernel
theorem dX6_table_73 : decode cX6_table 73 = .ok (.invokevirtual 111, 3) := by decide +kernel
theorem dX6_table_76 : decode cX6_table 76 = .ok (.ireturn, 1) := by decide +kernel
theorem dX6_table_77 : decode cX6_table 77 = .ok (.aload_n 0, 1) := by decide +kernel
theorem dX6_table_78 : decode cX6_table 78 = .ok (.aload_n 3, 1) := by decide +kernel
theorem dX6_table_79 : decode cX6_table 79 = .ok (.invokevirtual 203, 3) := by decide +kernel
theorem dX6_table_82 : decode cX6_table 82 = .ok (.ireturn, 1) := by decide +kernel
theorem dX6_table_83 : decode cX6_table 83 = .ok (.aload_n 3, 1) := by decide +kernel
theorem dX6_table_84 : decode cX6_table 84 = .ok (.invokevirtual 206, 3) := by decide +kernel
theorem dX6_table_87 : decode cX6_table 87 = .ok (.aload_n 0, 1) := by decide +kernel
theorem dX6_table_88 : decode cX6_table 88 = .ok (.getfield 12, 3) := by decide +kernel
theorem dX6_table_91 : decode cX6_table 91 = .ok (.getfield 58, 3) := by decide +kernel
theorem dX6_table_94 : decode cX6_table 94 = .ok (.invokestatic 128, 3) := by decide +kernel
theorem dX6_table_97 : decode cX6_table 97 = .ok (.ireturn, 1) := by decide +kernel
theorem dX6_table_98 : decode cX6_table 98 = .ok (.aload_n 3, 1) := by decide +kernel
theorem dX6_table_99 : decode cX6_table 99 = .ok (.getfield 93, 3) := by decide +kernel
theorem dX6_table_102 : decode cX6_table 102 = .ok (.invokevirtual 156, 3) := by decide +kernel

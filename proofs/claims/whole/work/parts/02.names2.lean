/-! decode rows, copied from claim/NAMES.whole.lean.txt -/
theorem dX6_addProduct_55 : decode cX6_addProduct 55 = .ok (.iload 6, 2) := by decide +kernel
theorem dX6_addProduct_57 : decode cX6_addProduct 57 = .ok (.isub, 1) := by decide +kernel
theorem dX6_addProduct_58 : decode cX6_addProduct 58 = .ok (.ireturn, 1) := by decide +kernel
theorem dX6_addProduct_59 : decode cX6_addProduct 59 = .ok (.aload_n 0, 1) := by decide +kernel
theorem dX6_addProduct_60 : decode cX6_addProduct 60 = .ok (.getfield 29, 3) := by decide +kernel
theorem dX6_addProduct_63 : decode cX6_addProduct 63 = .ok (.invokevirtual 103, 3) := by decide +kernel
theorem dX6_addProduct_66 : decode cX6_addProduct 66 = .ok (.aload_n 0, 1) := by decide +kernel
theorem dX6_addProduct_67 : decode cX6_addProduct 67 = .ok (.getfield 12, 3) := by decide +kernel
theorem dX6_addProduct_70 : decode cX6_addProduct 70 = .ok (.getfield 58, 3) := by decide +kernel
theorem dX6_addProduct_73 : decode cX6_addProduct 73 = .ok (.if_icmp .lt 6, 3) := by decide +kernel
theorem dX6_addProduct_76 : decode cX6_addProduct 76 = .ok (.bipush (-2), 2) := by decide +kernel
theorem dX6_addProduct_78 : decode cX6_addProduct 78 = .ok (.ireturn, 1) := by decide +kernel
theorem dX6_addProduct_79 : decode cX6_addProduct 79 = .ok (.aload_n 0, 1) := by decide +kernel
theorem dX6_addProduct_80 : decode cX6_addProduct 80 = .ok (.getfield 22, 3) := by decide +kernel
theorem dX6_addProduct_83 : decode cX6_addProduct 83 = .ok (.aload_n 0, 1) := by decide +kernel
theorem dX6_addProduct_84 : decode cX6_addProduct 84 = .ok (.getfield 12, 3) := by decide +kernel
theorem dX6_addProduct_87 : decode cX6_addProduct 87 = .ok (.invokevirtual 62, 3) := by decide +kernel
theorem dX6_addProduct_90 : decode cX6_addProduct 90 = .ok (.aload_n 0, 1) := by decide +kernel
theorem dX6_addProduct_91 : decode cX6_addProduct 91 = .ok (.aload 4, 2) := by decide +kernel
theorem dX6_addProduct_93 : decode cX6_addProduct 93 = .ok (.iload_n 3, 1) := by decide +kernel
theorem dX6_addProduct_94 : decode cX6_addProduct 94 = .ok (.iload 5, 2) := by decide +kernel
theorem dX6_addProduct_96 : decode cX6_addProduct 96 = .ok (.invokevirtual 107, 3) := by decide +kernel
theorem dX6_addProduct_99 : decode cX6_addProduct 99 = .ok (.aload_n 0, 1) := by decide +kernel
theorem dX6_addProduct_100 : decode cX6_addProduct 100 = .ok (.aload 4, 2) := by decide +kernel
theorem dX6_addProduct_102 : decode cX6_addProduct 102 = .ok (.iload_n 3, 1) := by decide +kernel
theorem dX6_addProduct_103 : decode cX6_addProduct 103 = .ok (.iload 5, 2) := by decide +kernel
theorem dX6_addProduct_105 : decode cX6_addProduct 105 = .ok (.invokevirtual 111, 3) := by decide +kernel
theorem dX6_addProduct_108 : decode cX6_addProduct 108 = .ok (.ireturn, 1) := by decide +kernel
theorem dX7_isSplitAt_0 : decode cX7_isSplitAt 0 = .ok (.aload_n 0, 1) := by decide +kernel
theorem dX7_isSplitAt_1 : decode cX7_isSplitAt 1 = .ok (.getfield 7, 3) := by decide +kernel
theorem dX7_isSplitAt_4 : decode cX7_isSplitAt 4 = .ok (.sipush 257, 3) := by decide +kernel
theorem dX7_isSplitAt_7 : decode cX7_isSplitAt 7 = .ok (.bipush 21, 2) := by decide +kernel
theorem dX7_isSplitAt_9 : decode cX7_isSplitAt 9 = .ok (.iload_n 1, 1) := by decide +kernel
theorem dX7_isSplitAt_10 : decode cX7_isSplitAt 10 = .ok (.imul, 1) := by decide +kernel
theorem dX7_isSplitAt_11 : decode cX7_isSplitAt 11 = .ok (.iadd, 1) := by decide +kernel
theorem dX7_isSplitAt_12 : decode cX7_isSplitAt 12 = .ok (.iload_n 2, 1) := by decide +kernel
theorem dX7_isSplitAt_13 : decode cX7_isSplitAt 13 = .ok (.iadd, 1) := by decide +kernel
theorem dX7_isSplitAt_14 : decode cX7_isSplitAt 14 = .ok (.iaload, 1) := by decide +kernel
theorem dX7_isSplitAt_15 : decode cX7_isSplitAt 15 = .ok (.iconst 1, 1) := by decide +kernel
theorem dX7_isSplitAt_16 : decode cX7_isSplitAt 16 = .ok (.if_icmp .ne 7, 3) := by decide +kernel
theorem dX7_isSplitAt_19 : decode cX7_isSplitAt 19 = .ok (.iconst 1, 1) := by decide +kernel
theorem dX7_isSplitAt_20 : decode cX7_isSplitAt 20 = .ok (.goto 4, 3) := by decide +kernel
theorem dX7_isSplitAt_23 : decode cX7_isSplitAt 23 = .ok (.iconst 0, 1) := by decide +kernel
theorem dX7_isSplitAt_24 : decode cX7_isSplitAt 24 = .ok (.ireturn, 1) := by decide +kernel
theorem dX7_sizeAt_0 : decode cX7_sizeAt 0 = .ok (.aload_n 0, 1) := by decide +kernel
theorem dX7_sizeAt_1 : decode cX7_sizeAt 1 = .ok (.iload_n 1, 1) := by decide +kernel
theorem dX7_sizeAt_2 : decode cX7_sizeAt 2 = .ok (.iconst 0, 1) := by decide +kernel
theorem dX7_sizeAt_3 : decode cX7_sizeAt 3 = .ok (.invokevirtual 72, 3) := by decide +kernel
theorem dX7_sizeAt_6 : decode cX7_sizeAt 6 = .ok (.ifCond .ne 6, 3) := by decide +kernel
theorem dX7_sizeAt_9 : decode cX7_sizeAt 9 = .ok (.bipush 8, 2) := by decide +kernel
theorem dX7_sizeAt_11 : decode cX7_sizeAt 11 = .ok (.ireturn, 1) := by decide +kernel
theorem dX7_sizeAt_12 : decode cX7_sizeAt 12 = .ok (.aload_n 0, 1) := by decide +kernel
theorem dX7_sizeAt_13 : decode cX7_sizeAt 13 = .ok (.iload_n 1, 1) := by decide +kernel
theorem dX7_sizeAt_14 : decode cX7_sizeAt 14 = .ok (.iconst 1, 1) := by decide +kernel
theorem dX7_sizeAt_15 : decode cX7_sizeAt 15 = .ok (.iload_n 2, 1) := by decide +kernel
theorem dX7_sizeAt_16 : decode cX7_sizeAt 16 = .ok (.bipush 16, 2) := by decide +kernel
theorem dX7_sizeAt_18 : decode cX7_sizeAt 18 = .ok (.idiv, 1) := by decide +kernel
theorem dX7_sizeAt_19 : decode cX7_sizeAt 19 = .ok (.iadd, 1) := by decide +kernel
theorem dX7_sizeAt_20 : decode cX7_sizeAt 20 = .ok (.invokevirtual 72, 3) := by decide +kernel
theorem dX7_sizeAt_23 : decode cX7_sizeAt 23 = .ok (.ifCond .ne 5, 3) := by decide +kernel
theorem dX7_sizeAt_26 : decode cX7_sizeAt 26 = .ok (.iconst 4, 1) := by decide +kernel
theorem dX7_sizeAt_27 : decode cX7_sizeAt 27 = .ok (.ireturn, 1) := by decide +kernel
theorem dX7_sizeAt_28 : decode cX7_sizeAt 28 = .ok (.aload_n 0, 1) := by decide +kernel
theorem dX7_sizeAt_29 : decode cX7_sizeAt 29 = .ok (.iload_n 1, 1) := by decide +kernel
theorem dX7_sizeAt_30 : decode cX7_sizeAt 30 = .ok (.iconst 5, 1) := by decide +kernel
theorem dX7_sizeAt_31 : decode cX7_sizeAt 31 = .ok (.iload_n 2, 1) := by decide +kernel
theorem dX7_sizeAt_32 : decode cX7_sizeAt 32 = .ok (.iconst 4, 1) := by decide +kernel
theorem dX7_sizeAt_33 : decode cX7_sizeAt 33 = .ok (.idiv, 1) := by decide +kernel
theorem dX7_sizeAt_34 : decode cX7_sizeAt 34 = .ok (.iadd, 1) := by decide +kernel
theorem dX7_sizeAt_35 : decode cX7_sizeAt 35 = .ok (.invokevirtual 72, 3) := by decide +kernel
theorem dX7_sizeAt_38 : decode cX7_sizeAt 38 = .ok (.ifCond .eq 7, 3) := by decide +kernel
theorem dX7_sizeAt_41 : decode cX7_sizeAt 41 = .ok (.iconst 1, 1) := by decide +kernel
theorem dX7_sizeAt_42 : decode cX7_sizeAt 42 = .ok (.goto 4, 3) := by decide +kernel
theorem dX7_sizeAt_45 : decode cX7_sizeAt 45 = .ok (.iconst 2, 1) := by decide +kernel
theorem dX7_sizeAt_46 : decode cX7_sizeAt 46 = .ok (.ireturn, 1) := by decide +kernel
theorem dX7_beginOf_0 : decode cX7_beginOf 0 = .ok (.iconst 0, 1) := by decide +kernel
theorem dX7_beginOf_1 : decode cX7_beginOf 1 = .ok (.istore_n 3, 1) := by decide +kernel
theorem dX7_beginOf_2 : decode cX7_beginOf 2 = .ok (.iconst 0, 1) := by decide +kernel
theorem dX7_beginOf_3 : decode cX7_beginOf 3 = .ok (.istore 4, 2) := by decide +kernel
theorem dX7_beginOf_5 : decode cX7_beginOf 5 = .ok (.iload_n 3, 1) := by decide +kernel
theorem dX7_beginOf_6 : decode cX7_beginOf 6 = .ok (.bipush 64, 2) := by decide +kernel
theorem dX7_beginOf_8 : decode cX7_beginOf 8 = .ok (.if_icmp .ge 33, 3) := by decide +kernel
theorem dX7_beginOf_11 : decode cX7_beginOf 11 = .ok (.iload 4, 2) := by decide +kernel
theorem dX7_beginOf_13 : decode cX7_beginOf 13 = .ok (.iload_n 2, 1) := by decide +kernel
theorem dX7_beginOf_14 : decode cX7_beginOf 14 = .ok (.if_icmp .ne 5, 3) := by decide +kernel
theorem dX7_beginOf_17 : decode cX7_beginOf 17 = .ok (.iload_n 3, 1) := by decide +kernel
theorem dX7_beginOf_18 : decode cX7_beginOf 18 = .ok (.ireturn, 1) := by decide +kernel
theorem dX7_beginOf_19 : decode cX7_beginOf 19 = .ok (.aload_n 0, 1) := by decide +kernel
theorem dX7_beginOf_20 : decode cX7_beginOf 20 = .ok (.iload_n 1, 1) := by decide +kernel
theorem dX7_beginOf_21 : decode cX7_beginOf 21 = .ok (.iload_n 3, 1) := by decide +kernel
theorem dX7_beginOf_22 : decode cX7_beginOf 22 = .ok (.invokevirtual 76, 3) := by decide +kernel
theorem dX7_beginOf_25 : decode cX7_beginOf 25 = .ok (.istore 5, 2) := by decide +kernel
theorem dX7_beginOf_27 : decode cX7_beginOf 27 = .ok (.iload_n 3, 1) := by decide +kernel
theorem dX7_beginOf_28 : decode cX7_beginOf 28 = .ok (.iload 5, 2) := by decide +kernel
theorem dX7_beginOf_30 : decode cX7_beginOf 30 = .ok (.iload 5, 2) := by decide +kernel
theorem dX7_beginOf_32 : decode cX7_beginOf 32 = .ok (.imul, 1) := by decide +kernel
theorem dX7_beginOf_33 : decode cX7_beginOf 33 = .ok (.iadd, 1) := by decide +kernel
theorem dX7_beginOf_34 : decode cX7_beginOf 34 = .ok (.istore_n 3, 1) := by decide +kernel
theorem dX7_beginOf_35 : decode cX7_beginOf 35 = .ok (.iinc 4 1, 3) := by decide +kernel
theorem dX7_beginOf_38 : decode cX7_beginOf 38 = .ok (.goto (-33), 3) := by decide +kernel
theorem dX7_beginOf_41 : decode cX7_beginOf 41 = .ok (.bipush (-5), 2) := by decide +kernel
theorem dX7_beginOf_43 : decode cX7_beginOf 43 = .ok (.ireturn, 1) := by decide +kernel
theorem dX7_noLeaf_0 : decode cX7_noLeaf 0 = .ok (.iload_n 1, 1) := by decide +kernel
theorem dX7_noLeaf_1 : decode cX7_noLeaf 1 = .ok (.invokestatic 62, 3) := by decide +kernel
theorem dX7_noLeaf_4 : decode cX7_noLeaf 4 = .ok (.ifCond .ne 16, 3) := by decide +kernel
theorem dX7_noLeaf_7 : decode cX7_noLeaf 7 = .ok (.iload_n 2, 1) := by decide +kernel
theorem dX7_noLeaf_8 : decode cX7_noLeaf 8 = .ok (.ifCond .lt 12, 3) := by decide +kernel
theorem dX7_noLeaf_11 : decode cX7_noLeaf 11 = .ok (.aload_n 0, 1) := by decide +kernel
theorem dX7_noLeaf_12 : decode cX7_noLeaf 12 = .ok (.iload_n 1, 1) := by decide +kernel
theorem dX7_noLeaf_13 : decode cX7_noLeaf 13 = .ok (.iload_n 2, 1) := by decide +kernel
theorem dX7_noLeaf_14 : decode cX7_noLeaf 14 = .ok (.invokevirtual 127, 3) := by decide +kernel
theorem dX7_noLeaf_17 : decode cX7_noLeaf 17 = .ok (.ifCond .ge 7, 3) := by decide +kernel
theorem dX7_noLeaf_20 : decode cX7_noLeaf 20 = .ok (.iconst 1, 1) := by decide +kernel
theorem dX7_noLeaf_21 : decode cX7_noLeaf 21 = .ok (.goto 4, 3) := by decide +kernel
theorem dX7_noLeaf_24 : decode cX7_noLeaf 24 = .ok (.iconst 0, 1) := by decide +kernel
theorem dX7_noLeaf_25 : decode cX7_noLeaf 25 = .ok (.ireturn, 1) := by decide +kernel
theorem dX7_sees_0 : decode cX7_sees 0 = .ok (.aload_n 0, 1) := by decide +kernel
theorem dX7_sees_1 : decode cX7_sees 1 = .ok (.getfield 115, 3) := by decide +kernel
theorem dX7_sees_4 : decode cX7_sees 4 = .ok (.aload_n 0, 1) := by decide +kernel
theorem dX7_sees_5 : decode cX7_sees 5 = .ok (.getfield 112, 3) := by decide +kernel
theorem dX7_sees_8 : decode cX7_sees 8 = .ok (.if_icmp .ge 24, 3) := by decide +kernel
theorem dX7_sees_11 : decode cX7_sees 11 = .ok (.aload_n 0, 1) := by decide +kernel
theorem dX7_sees_12 : decode cX7_sees 12 = .ok (.getfield 19, 3) := by decide +kernel
theorem dX7_sees_15 : decode cX7_sees 15 = .ok (.aload_n 0, 1) := by decide +kernel
theorem dX7_sees_16 : decode cX7_sees 16 = .ok (.getfield 115, 3) := by decide +kernel
theorem dX7_sees_19 : decode cX7_sees 19 = .ok (.caload, 1) := by decide +kernel
theorem dX7_sees_20 : decode cX7_sees 20 = .ok (.iload_n 1, 1) := by decide +kernel
theorem dX7_sees_21 : decode cX7_sees 21 = .ok (.iload_n 2, 1) := by decide +kernel
theorem dX7_sees_22 : decode cX7_sees 22 = .ok (.invokestatic 50, 3) := by decide +kernel
theorem dX7_sees_25 : decode cX7_sees 25 = .ok (.ifCond .eq 7, 3) := by decide +kernel
theorem dX7_sees_28 : decode cX7_sees 28 = .ok (.iconst 1, 1) := by decide +kernel
theorem dX7_sees_29 : decode cX7_sees 29 = .ok (.goto 4, 3) := by decide +kernel
theorem dX7_sees_32 : decode cX7_sees 32 = .ok (.iconst 0, 1) := by decide +kernel
theorem dX7_sees_33 : decode cX7_sees 33 = .ok (.ireturn, 1) := by decide +kernel
theorem dX7_takes_0 : decode cX7_takes 0 = .ok (.aload_n 0, 1) := by decide +kernel
theorem dX7_takes_1 : decode cX7_takes 1 = .ok (.iload_n 1, 1) := by decide +kernel
theorem dX7_takes_2 : decode cX7_takes 2 = .ok (.iload_n 1, 1) := by decide +kernel
theorem dX7_takes_3 : decode cX7_takes 3 = .ok (.invokevirtual 118, 3) := by decide +kernel
theorem dX7_takes_6 : decode cX7_takes 6 = .ok (.istore_n 2, 1) := by decide +kernel
theorem dX7_takes_7 : decode cX7_takes 7 = .ok (.aload_n 0, 1) := by decide +kernel
theorem dX7_takes_8 : decode cX7_takes 8 = .ok (.dup, 1) := by decide +kernel
theorem dX7_takes_9 : decode cX7_takes 9 = .ok (.getfield 115, 3) := by decide +kernel
theorem dX7_takes_12 : decode cX7_takes 12 = .ok (.iload_n 2, 1) := by decide +kernel
theorem dX7_takes_13 : decode cX7_takes 13 = .ok (.ifCond .eq 7, 3) := by decide +kernel
theorem dX7_takes_16 : decode cX7_takes 16 = .ok (.iconst 1, 1) := by decide +kernel
theorem dX7_takes_17 : decode cX7_takes 17 = .ok (.goto 4, 3) := by decide +kernel
theorem dX7_takes_20 : decode cX7_takes 20 = .ok (.iconst 0, 1) := by decide +kernel
theorem dX7_takes_21 : decode cX7_takes 21 = .ok (.iadd, 1) := by decide +kernel
theorem dX7_takes_22 : decode cX7_takes 22 = .ok (.putfield 115, 3) := by decide +kernel
theorem dX7_takes_25 : decode cX7_takes 25 = .ok (.iload_n 2, 1) := by decide +kernel
theorem dX7_takes_26 : decode cX7_takes 26 = .ok (.ireturn, 1) := by decide +kernel
theorem dX7_readRow_0 : decode cX7_readRow 0 = .ok (.iconst 0, 1) := by decide +kernel
theorem dX7_readRow_1 : decode cX7_readRow 1 = .ok (.istore_n 3, 1) := by decide +kernel
theorem dX7_readRow_2 : decode cX7_readRow 2 = .ok (.iload_n 3, 1) := by decide +kernel
theorem dX7_readRow_3 : decode cX7_readRow 3 = .ok (.iload_n 2, 1) := by decide +kernel
theorem dX7_readRow_4 : decode cX7_readRow 4 = .ok (.if_icmp .ge 132, 3) := by decide +kernel
theorem dX7_readRow_7 : decode cX7_readRow 7 = .ok (.iload_n 3, 1) := by decide +kernel
theorem dX7_readRow_8 : decode cX7_readRow 8 = .ok (.ifCond .le 14, 3) := by decide +kernel
theorem dX7_readRow_11 : decode cX7_readRow 11 = .ok (.aload_n 0, 1) := by decide +kernel
theorem dX7_readRow_12 : decode cX7_readRow 12 = .ok (.bipush 44, 2) := by decide +kernel
theorem dX7_readRow_14 : decode cX7_readRow 14 = .ok (.invokevirtual 121, 3) := by decide +kernel
theorem dX7_readRow_17 : decode cX7_readRow 17 = .ok (.ifCond .ne 5, 3) := by decide +kernel
theorem dX7_readRow_20 : decode cX7_readRow 20 = .ok (.iconst 0, 1) := by decide +kernel
theorem dX7_readRow_21 : decode cX7_readRow 21 = .ok (.ireturn, 1) := by decide +kernel
theorem dX7_readRow_22 : decode cX7_readRow 22 = .ok (.aload_n 0, 1) := by decide +kernel
theorem dX7_readRow_23 : decode cX7_readRow 23 = .ok (.bipush 48, 2) := by decide +kernel
theorem dX7_readRow_25 : decode cX7_readRow 25 = .ok (.bipush 57, 2) := by decide +kernel
theorem dX7_readRow_27 : decode cX7_readRow 27 = .ok (.invokevirtual 118, 3) := by decide +kernel
theorem dX7_readRow_30 : decode cX7_readRow 30 = .ok (.ifCond .ne 5, 3) := by decide +kernel
theorem dX7_readRow_33 : decode cX7_readRow 33 = .ok (.iconst 0, 1) := by decide +kernel
theorem dX7_readRow_34 : decode cX7_readRow 34 = .ok (.ireturn, 1) := by decide +kernel
theorem dX7_readRow_35 : decode cX7_readRow 35 = .ok (.aload_n 0, 1) := by decide +kernel
theorem dX7_readRow_36 : decode cX7_readRow 36 = .ok (.getfield 19, 3) := by decide +kernel
theorem dX7_readRow_39 : decode cX7_readRow 39 = .ok (.aload_n 0, 1) := by decide +kernel
theorem dX7_readRow_40 : decode cX7_readRow 40 = .ok (.getfield 115, 3) := by decide +kernel
theorem dX7_readRow_43 : decode cX7_readRow 43 = .ok (.caload, 1) := by decide +kernel
theorem dX7_readRow_44 : decode cX7_readRow 44 = .ok (.bipush 48, 2) := by decide +kernel
theorem dX7_readRow_46 : decode cX7_readRow 46 = .ok (.isub, 1) := by decide +kernel
theorem dX7_readRow_47 : decode cX7_readRow 47 = .ok (.istore 4, 2) := by decide +kernel
theorem dX7_readRow_49 : decode cX7_readRow 49 = .ok (.aload_n 0, 1) := by decide +kernel
theorem dX7_readRow_50 : decode cX7_readRow 50 = .ok (.dup, 1) := by decide +kernel
theorem dX7_readRow_51 : decode cX7_readRow 51 = .ok (.getfield 115, 3) := by decide +kernel
theorem dX7_readRow_54 : decode cX7_readRow 54 = .ok (.iconst 1, 1) := by decide +kernel
theorem dX7_readRow_55 : decode cX7_readRow 55 = .ok (.iadd, 1) := by decide +kernel
theorem dX7_readRow_56 : decode cX7_readRow 56 = .ok (.putfield 115, 3) := by decide +kernel
theorem dX7_readRow_59 : decode cX7_readRow 59 = .ok (.iconst 1, 1) := by decide +kernel
theorem dX7_readRow_60 : decode cX7_readRow 60 = .ok (.istore 5, 2) := by decide +kernel
theorem dX7_readRow_62 : decode cX7_readRow 62 = .ok (.iload 5, 2) := by decide +kernel
theorem dX7_readRow_64 : decode cX7_readRow 64 = .ok (.iconst 3, 1) := by decide +kernel
theorem dX7_readRow_65 : decode cX7_readRow 65 = .ok (.if_icmp .ge 55, 3) := by decide +kernel
theorem dX7_readRow_68 : decode cX7_readRow 68 = .ok (.iload 4, 2) := by decide +kernel
theorem dX7_readRow_70 : decode cX7_readRow 70 = .ok (.ifCond .le 50, 3) := by decide +kernel
theorem dX7_readRow_73 : decode cX7_readRow 73 = .ok (.aload_n 0, 1) := by decide +kernel
theorem dX7_readRow_74 : decode cX7_readRow 74 = .ok (.bipush 48, 2) := by decide +kernel
theorem dX7_readRow_76 : decode cX7_readRow 76 = .ok (.bipush 57, 2) := by decide +kernel
theorem dX7_readRow_78 : decode cX7_readRow 78 = .ok (.invokevirtual 118, 3) := by decide +kernel
theorem dX7_readRow_81 : decode cX7_readRow 81 = .ok (.ifCond .eq 39, 3) := by decide +kernel
theorem dX7_readRow_84 : decode cX7_readRow 84 = .ok (.bipush 10, 2) := by decide +kernel
theorem dX7_readRow_86 : decode cX7_readRow 86 = .ok (.iload 4, 2) := by decide +kernel
theorem dX7_readRow_88 : decode cX7_readRow 88 = .ok (.imul, 1) := by decide +kernel
theorem dX7_readRow_89 : decode cX7_readRow 89 = .ok (.aload_n 0, 1) := by decide +kernel
theorem dX7_readRow_90 : decode cX7_readRow 90 = .ok (.getfield 19, 3) := by decide +kernel
theorem dX7_readRow_93 : decode cX7_readRow 93 = .ok (.aload_n 0, 1) := by decide +kernel
theorem dX7_readRow_94 : decode cX7_readRow 94 = .ok (.getfield 115, 3) := by decide +kernel
theorem dX7_readRow_97 : decode cX7_readRow 97 = .ok (.caload, 1) := by decide +kernel
theorem dX7_readRow_98 : decode cX7_readRow 98 = .ok (.iadd, 1) := by decide +kernel
theorem dX7_readRow_99 : decode cX7_readRow 99 = .ok (.bipush 48, 2) := by decide +kernel
theorem dX7_readRow_101 : decode cX7_readRow 101 = .ok (.isub, 1) := by decide +kernel
theorem dX7_readRow_102 : decode cX7_readRow 102 = .ok (.istore 4, 2) := by decide +kernel
theorem dX7_readRow_104 : decode cX7_readRow 104 = .ok (.aload_n 0, 1) := by decide +kernel
theorem dX7_readRow_105 : decode cX7_readRow 105 = .ok (.dup, 1) := by decide +kernel
theorem dX7_readRow_106 : decode cX7_readRow 106 = .ok (.getfield 115, 3) := by decide +kernel
theorem dX7_readRow_109 : decode cX7_readRow 109 = .ok (.iconst 1, 1) := by decide +kernel
theorem dX7_readRow_110 : decode cX7_readRow 110 = .ok (.iadd, 1) := by decide +kernel
theorem dX7_readRow_111 : decode cX7_readRow 111 = .ok (.putfield 115, 3) := by decide +kernel
theorem dX7_readRow_114 : decode cX7_readRow 114 = .ok (.iinc 5 1, 3) := by decide +kernel
theorem dX7_readRow_117 : decode cX7_readRow 117 = .ok (.goto (-55), 3) := by decide +kernel
theorem dX7_readRow_120 : decode cX7_readRow 120 = .ok (.aload_n 0, 1) := by decide +kernel
theorem dX7_readRow_121 : decode cX7_readRow 121 = .ok (.getfield 23, 3) := by decide +kernel
theorem dX7_readRow_124 : decode cX7_readRow 124 = .ok (.iload_n 1, 1) := by decide +kernel
theorem dX7_readRow_125 : decode cX7_readRow 125 = .ok (.iload_n 3, 1) := by decide +kernel
theorem dX7_readRow_126 : decode cX7_readRow 126 = .ok (.iadd, 1) := by decide +kernel
theorem dX7_readRow_127 : decode cX7_readRow 127 = .ok (.iload 4, 2) := by decide +kernel
theorem dX7_readRow_129 : decode cX7_readRow 129 = .ok (.iastore, 1) := by decide +kernel
theorem dX7_readRow_130 : decode cX7_readRow 130 = .ok (.iinc 3 1, 3) := by decide +kernel
theorem dX7_readRow_133 : decode cX7_readRow 133 = .ok (.goto (-131), 3) := by decide +kernel
theorem dX7_readRow_136 : decode cX7_readRow 136 = .ok (.iconst 1, 1) := by decide +kernel
theorem dX7_readRow_137 : decode cX7_readRow 137 = .ok (.ireturn, 1) := by decide +kernel
theorem dX7_readTwo_0 : decode cX7_readTwo 0 = .ok (.aload_n 0, 1) := by decide +kernel
theorem dX7_readTwo_1 : decode cX7_readTwo 1 = .ok (.iconst 0, 1) := by decide +kernel
theorem dX7_readTwo_2 : decode cX7_readTwo 2 = .ok (.putfield 115, 3) := by decide +kernel
theorem dX7_readTwo_5 : decode cX7_readTwo 5 = .ok (.aload_n 0, 1) := by decide +kernel
theorem dX7_readTwo_6 : decode cX7_readTwo 6 = .ok (.iconst 0, 1) := by decide +kernel
theorem dX7_readTwo_7 : decode cX7_readTwo 7 = .ok (.iload_n 1, 1) := by decide +kernel
theorem dX7_readTwo_8 : decode cX7_readTwo 8 = .ok (.invokevirtual 124, 3) := by decide +kernel
theorem dX7_readTwo_11 : decode cX7_readTwo 11 = .ok (.ifCond .eq 36, 3) := by decide +kernel
theorem dX7_readTwo_14 : decode cX7_readTwo 14 = .ok (.aload_n 0, 1) := by decide +kernel
theorem dX7_readTwo_15 : decode cX7_readTwo 15 = .ok (.bipush 59, 2) := by decide +kernel
theorem dX7_readTwo_17 : decode cX7_readTwo 17 = .ok (.invokevirtual 121, 3) := by decide +kernel
theorem dX7_readTwo_20 : decode cX7_readTwo 20 = .ok (.ifCond .eq 27, 3) := by decide +kernel
theorem dX7_readTwo_23 : decode cX7_readTwo 23 = .ok (.aload_n 0, 1) := by decide +kernel
theorem dX7_readTwo_24 : decode cX7_readTwo 24 = .ok (.iload_n 1, 1) := by decide +kernel
theorem dX7_readTwo_25 : decode cX7_readTwo 25 = .ok (.iload_n 1, 1) := by decide +kernel
theorem dX7_readTwo_26 : decode cX7_readTwo 26 = .ok (.invokevirtual 124, 3) := by decide +kernel
theorem dX7_readTwo_29 : decode cX7_readTwo 29 = .ok (.ifCond .eq 18, 3) := by decide +kernel
theorem dX7_readTwo_32 : decode cX7_readTwo 32 = .ok (.aload_n 0, 1) := by decide +kernel
theorem dX7_readTwo_33 : decode cX7_readTwo 33 = .ok (.getfield 115, 3) := by decide +kernel
theorem dX7_readTwo_36 : decode cX7_readTwo 36 = .ok (.aload_n 0, 1) := by decide +kernel
theorem dX7_readTwo_37 : decode cX7_readTwo 37 = .ok (.getfield 112, 3) := by decide +kernel
theorem dX7_readTwo_40 : decode cX7_readTwo 40 = .ok (.if_icmp .ne 7, 3) := by decide +kernel
theorem dX7_readTwo_43 : decode cX7_readTwo 43 = .ok (.iconst 1, 1) := by decide +kernel
theorem dX7_readTwo_44 : decode cX7_readTwo 44 = .ok (.goto 4, 3) := by decide +kernel
theorem dX7_readTwo_47 : decode cX7_readTwo 47 = .ok (.iconst 0, 1) := by decide +kernel
theorem dX7_readTwo_48 : decode cX7_readTwo 48 = .ok (.ireturn, 1) := by decide +kernel
theorem dX7_areLess_0 : decode cX7_areLess 0 = .ok (.iconst 1, 1) := by decide +kernel
theorem dX7_areLess_1 : decode cX7_areLess 1 = .ok (.istore_n 2, 1) := by decide +kernel
theorem dX7_areLess_2 : decode cX7_areLess 2 = .ok (.iconst 0, 1) := by decide +kernel
theorem dX7_areLess_3 : decode cX7_areLess 3 = .ok (.istore_n 3, 1) := by decide +kernel
theorem dX7_areLess_4 : decode cX7_areLess 4 = .ok (.iload_n 3, 1) := by decide +kernel
theorem dX7_areLess_5 : decode cX7_areLess 5 = .ok (.iload_n 1, 1) := by decide +kernel
theorem dX7_areLess_6 : decode cX7_areLess 6 = .ok (.if_icmp .ge 34, 3) := by decide +kernel
theorem dX7_areLess_9 : decode cX7_areLess 9 = .ok (.iload_n 2, 1) := by decide +kernel
theorem dX7_areLess_10 : decode cX7_areLess 10 = .ok (.ifCond .eq 22, 3) := by decide +kernel
theorem dX7_areLess_13 : decode cX7_areLess 13 = .ok (.aload_n 0, 1) := by decide +kernel
theorem dX7_areLess_14 : decode cX7_areLess 14 = .ok (.getfield 23, 3) := by decide +kernel
theorem dX7_areLess_17 : decode cX7_areLess 17 = .ok (.iload_n 3, 1) := by decide +kernel
theorem dX7_areLess_18 : decode cX7_areLess 18 = .ok (.iaload, 1) := by decide +kernel
theorem dX7_areLess_19 : decode cX7_areLess 19 = .ok (.aload_n 0, 1) := by decide +kernel
theorem dX7_areLess_20 : decode cX7_areLess 20 = .ok (.getfield 7, 3) := by decide +kernel
theorem dX7_areLess_23 : decode cX7_areLess 23 = .ok (.iconst 0, 1) := by decide +kernel
theorem dX7_areLess_24 : decode cX7_areLess 24 = .ok (.iaload, 1) := by decide +kernel
theorem dX7_areLess_25 : decode cX7_areLess 25 = .ok (.if_icmp .ge 7, 3) := by decide +kernel
theorem dX7_areLess_28 : decode cX7_areLess 28 = .ok (.iconst 1, 1) := by decide +kernel
theorem dX7_areLess_29 : decode cX7_areLess 29 = .ok (.goto 4, 3) := by decide +kernel
theorem dX7_areLess_32 : decode cX7_areLess 32 = .ok (.iconst 0, 1) := by decide +kernel
theorem dX7_areLess_33 : decode cX7_areLess 33 = .ok (.istore_n 2, 1) := by decide +kernel
theorem dX7_areLess_34 : decode cX7_areLess 34 = .ok (.iinc 3 1, 3) := by decide +kernel
theorem dX7_areLess_37 : decode cX7_areLess 37 = .ok (.goto (-33), 3) := by decide +kernel
theorem dX7_areLess_40 : decode cX7_areLess 40 = .ok (.iload_n 2, 1) := by decide +kernel
theorem dX7_areLess_41 : decode cX7_areLess 41 = .ok (.ireturn, 1) := by decide +kernel
theorem dX7_rowOf_0 : decode cX7_rowOf 0 = .ok (.iconst 4, 1) := by decide +kernel
theorem dX7_rowOf_1 : decode cX7_rowOf 1 = .ok (.iload_n 0, 1) := by decide +kernel
theorem dX7_rowOf_2 : decode cX7_rowOf 2 = .ok (.iconst 5, 1) := by decide +kernel
theorem dX7_rowOf_3 : decode cX7_rowOf 3 = .ok (.ishr, 1) := by decide +kernel
theorem dX7_rowOf_4 : decode cX7_rowOf 4 = .ok (.iconst 1, 1) := by decide +kernel
theorem dX7_rowOf_5 : decode cX7_rowOf 5 = .ok (.iand, 1) := by decide +kernel
theorem dX7_rowOf_6 : decode cX7_rowOf 6 = .ok (.imul, 1) := by decide +kernel
theorem dX7_rowOf_7 : decode cX7_rowOf 7 = .ok (.iconst 2, 1) := by decide +kernel
theorem dX7_rowOf_8 : decode cX7_rowOf 8 = .ok (.iload_n 0, 1) := by decide +kernel
theorem dX7_rowOf_9 : decode cX7_rowOf 9 = .ok (.iconst 3, 1) := by decide +kernel
theorem dX7_rowOf_10 : decode cX7_rowOf 10 = .ok (.ishr, 1) := by decide +kernel
theorem dX7_rowOf_11 : decode cX7_rowOf 11 = .ok (.iconst 1, 1) := by decide +kernel
theorem dX7_rowOf_12 : decode cX7_rowOf 12 = .ok (.iand, 1) := by decide +kernel
theorem dX7_rowOf_13 : decode cX7_rowOf 13 = .ok (.imul, 1) := by decide +kernel
theorem dX7_rowOf_14 : decode cX7_rowOf 14 = .ok (.iadd, 1) := by decide +kernel
theorem dX7_rowOf_15 : decode cX7_rowOf 15 = .ok (.iload_n 0, 1) := by decide +kernel
theorem dX7_rowOf_16 : decode cX7_rowOf 16 = .ok (.iconst 1, 1) := by decide +kernel
theorem dX7_rowOf_17 : decode cX7_rowOf 17 = .ok (.ishr, 1) := by decide +kernel
theorem dX7_rowOf_18 : decode cX7_rowOf 18 = .ok (.iconst 1, 1) := by decide +kernel
theorem dX7_rowOf_19 : decode cX7_rowOf 19 = .ok (.iand, 1) := by decide +kernel
theorem dX7_rowOf_20 : decode cX7_rowOf 20 = .ok (.iadd, 1) := by decide +kernel
theorem dX7_rowOf_21 : decode cX7_rowOf 21 = .ok (.ireturn, 1) := by decide +kernel
theorem dX7_columnOf_0 : decode cX7_columnOf 0 = .ok (.iconst 4, 1) := by decide +kernel
theorem dX7_columnOf_1 : decode cX7_columnOf 1 = .ok (.iload_n 0, 1) := by decide +kernel
theorem dX7_columnOf_2 : decode cX7_columnOf 2 = .ok (.iconst 4, 1) := by decide +kernel
theorem dX7_columnOf_3 : decode cX7_columnOf 3 = .ok (.ishr, 1) := by decide +kernel
theorem dX7_columnOf_4 : decode cX7_columnOf 4 = .ok (.iconst 1, 1) := by decide +kernel
theorem dX7_columnOf_5 : decode cX7_columnOf 5 = .ok (.iand, 1) := by decide +kernel
theorem dX7_columnOf_6 : decode cX7_columnOf 6 = .ok (.imul, 1) := by decide +kernel
theorem dX7_columnOf_7 : decode cX7_columnOf 7 = .ok (.iconst 2, 1) := by decide +kernel
theorem dX7_columnOf_8 : decode cX7_columnOf 8 = .ok (.iload_n 0, 1) := by decide +kernel
theorem dX7_columnOf_9 : decode cX7_columnOf 9 = .ok (.iconst 2, 1) := by decide +kernel
theorem dX7_columnOf_10 : decode cX7_columnOf 10 = .ok (.ishr, 1) := by decide +kernel
theorem dX7_columnOf_11 : decode cX7_columnOf 11 = .ok (.iconst 1, 1) := by decide +kernel
theorem dX7_columnOf_12 : decode cX7_columnOf 12 = .ok (.iand, 1) := by decide +kernel
theorem dX7_columnOf_13 : decode cX7_columnOf 13 = .ok (.imul, 1) := by decide +kernel
theorem dX7_columnOf_14 : decode cX7_columnOf 14 = .ok (.iadd, 1) := by decide +kernel
theorem dX7_columnOf_15 : decode cX7_columnOf 15 = .ok (.iload_n 0, 1) := by decide +kernel
theorem dX7_columnOf_16 : decode cX7_columnOf 16 = .ok (.iconst 1, 1) := by decide +kernel
theorem dX7_columnOf_17 : decode cX7_columnOf 17 = .ok (.iand, 1) := by decide +kernel
theorem dX7_columnOf_18 : decode cX7_columnOf 18 = .ok (.iadd, 1) := by decide +kernel
theorem dX7_columnOf_19 : decode cX7_columnOf 19 = .ok (.ireturn, 1) := by decide +kernel
theorem dX7_mod_0 : decode cX7_mod 0 = .ok (.iload_n 1, 1) := by decide +kernel
theorem dX7_mod_1 : decode cX7_mod 1 = .ok (.aload_n 0, 1) := by decide +kernel
theorem dX7_mod_2 : decode cX7_mod 2 = .ok (.getfield 7, 3) := by decide +kernel
theorem dX7_mod_5 : decode cX7_mod 5 = .ok (.iconst 0, 1) := by decide +kernel
theorem dX7_mod_6 : decode cX7_mod 6 = .ok (.iaload, 1) := by decide +kernel
theorem dX7_mod_7 : decode cX7_mod 7 = .ok (.irem, 1) := by decide +kernel
theorem dX7_mod_8 : decode cX7_mod 8 = .ok (.istore_n 2, 1) := by decide +kernel
theorem dX7_mod_9 : decode cX7_mod 9 = .ok (.iload_n 2, 1) := by decide +kernel
theorem dX7_mod_10 : decode cX7_mod 10 = .ok (.ifCond .ge 14, 3) := by decide +kernel
theorem dX7_mod_13 : decode cX7_mod 13 = .ok (.iload_n 2, 1) := by decide +kernel
theorem dX7_mod_14 : decode cX7_mod 14 = .ok (.aload_n 0, 1) := by decide +kernel
theorem dX7_mod_15 : decode cX7_mod 15 = .ok (.getfield 7, 3) := by decide +kernel
theorem dX7_mod_18 : decode cX7_mod 18 = .ok (.iconst 0, 1) := by decide +kernel
theorem dX7_mod_19 : decode cX7_mod 19 = .ok (.iaload, 1) := by decide +kernel
theorem dX7_mod_20 : decode cX7_mod 20 = .ok (.iadd, 1) := by decide +kernel
theorem dX7_mod_21 : decode cX7_mod 21 = .ok (.goto 4, 3) := by decide +kernel
theorem dX7_mod_24 : decode cX7_mod 24 = .ok (.iload_n 2, 1) := by decide +kernel
theorem dX7_mod_25 : decode cX7_mod 25 = .ok (.ireturn, 1) := by decide +kernel
theorem dX7_layBlock_0 : decode cX7_layBlock 0 = .ok (.iconst 0, 1) := by decide +kernel
theorem dX7_layBlock_1 : decode cX7_layBlock 1 = .ok (.istore 5, 2) := by decide +kernel
theorem dX7_layBlock_3 : decode cX7_layBlock 3 = .ok (.iload 5, 2) := by decide +kernel
theorem dX7_layBlock_5 : decode cX7_layBlock 5 = .ok (.iload 4, 2) := by decide +kernel
theorem dX7_layBlock_7 : decode cX7_layBlock 7 = .ok (.if_icmp .ge 55, 3) := by decide +kernel
theorem dX7_layBlock_10 : decode cX7_layBlock 10 = .ok (.iconst 0, 1) := by decide +kernel
theorem dX7_layBlock_11 : decode cX7_layBlock 11 = .ok (.istore 6, 2) := by decide +kernel
theorem dX7_layBlock_13 : decode cX7_layBlock 13 = .ok (.iload 6, 2) := by decide +kernel
theorem dX7_layBlock_15 : decode cX7_layBlock 15 = .ok (.iload 4, 2) := by decide +kernel
theorem dX7_layBlock_17 : decode cX7_layBlock 17 = .ok (.if_icmp .ge 39, 3) := by decide +kernel
theorem dX7_layBlock_20 : decode cX7_layBlock 20 = .ok (.aload_n 0, 1) := by decide +kernel
theorem dX7_layBlock_21 : decode cX7_layBlock 21 = .ok (.getfield 26, 3) := by decide +kernel
theorem dX7_layBlock_24 : decode cX7_layBlock 24 = .ok (.bipush 9, 2) := by decide +kernel
theorem dX7_layBlock_26 : decode cX7_layBlock 26 = .ok (.iload 5, 2) := by decide +kernel
theorem dX7_layBlock_28 : decode cX7_layBlock 28 = .ok (.imul, 1) := by decide +kernel
theorem dX7_layBlock_29 : decode cX7_layBlock 29 = .ok (.iload 6, 2) := by decide +kernel
theorem dX7_layBlock_31 : decode cX7_layBlock 31 = .ok (.iadd, 1) := by decide +kernel
theorem dX7_layBlock_32 : decode cX7_layBlock 32 = .ok (.aload_n 0, 1) := by decide +kernel
theorem dX7_layBlock_33 : decode cX7_layBlock 33 = .ok (.getfield 7, 3) := by decide +kernel
theorem dX7_layBlock_36 : decode cX7_layBlock 36 = .ok (.iload_n 1, 1) := by decide +kernel
theorem dX7_layBlock_37 : decode cX7_layBlock 37 = .ok (.iload_n 2, 1) := by decide +kernel
theorem dX7_layBlock_38 : decode cX7_layBlock 38 = .ok (.iload 5, 2) := by decide +kernel
theorem dX7_layBlock_40 : decode cX7_layBlock 40 = .ok (.iadd, 1) := by decide +kernel
theorem dX7_layBlock_41 : decode cX7_layBlock 41 = .ok (.iload_n 3, 1) := by decide +kernel
theorem dX7_layBlock_42 : decode cX7_layBlock 42 = .ok (.iload 6, 2) := by decide +kernel
theorem dX7_layBlock_44 : decode cX7_layBlock 44 = .ok (.iadd, 1) := by decide +kernel
theorem dX7_layBlock_45 : decode cX7_layBlock 45 = .ok (.invokestatic 68, 3) := by decide +kernel
theorem dX7_layBlock_48 : decode cX7_layBlock 48 = .ok (.iaload, 1) := by decide +kernel
theorem dX7_layBlock_49 : decode cX7_layBlock 49 = .ok (.iastore, 1) := by decide +kernel
theorem dX7_layBlock_50 : decode cX7_layBlock 50 = .ok (.iinc 6 1, 3) := by decide +kernel
theorem dX7_layBlock_53 : decode cX7_layBlock 53 = .ok (.goto (-40), 3) := by decide +kernel
theorem dX7_layBlock_56 : decode cX7_layBlock 56 = .ok (.iinc 5 1, 3) := by decide +kernel
theorem dX7_layBlock_59 : decode cX7_layBlock 59 = .ok (.goto (-56), 3) := by decide +kernel
theorem dX7_layBlock_62 : decode cX7_layBlock 62 = .ok (.return_, 1) := by decide +kernel
theorem dX7_exchange_0 : decode cX7_exchange 0 = .ok (.iconst 0, 1) := by decide +kernel
theorem dX7_exchange_1 : decode cX7_exchange 1 = .ok (.istore 4, 2) := by decide +kernel
theorem dX7_exchange_3 : decode cX7_exchange 3 = .ok (.iload 4, 2) := by decide +kernel
theorem dX7_exchange_5 : decode cX7_exchange 5 = .ok (.iload_n 3, 1) := by decide +kernel
theorem dX7_exchange_6 : decode cX7_exchange 6 = .ok (.if_icmp .ge 61, 3) := by decide +kernel
theorem dX7_exchange_9 : decode cX7_exchange 9 = .ok (.aload_n 0, 1) := by decide +kernel
theorem dX7_exchange_10 : decode cX7_exchange 10 = .ok (.getfield 26, 3) := by decide +kernel
theorem dX7_exchange_13 : decode cX7_exchange 13 = .ok (.bipush 9, 2) := by decide +kernel
theorem dX7_exchange_15 : decode cX7_exchange 15 = .ok (.iload_n 1, 1) := by decide +kernel
theorem dX7_exchange_16 : decode cX7_exchange 16 = .ok (.imul, 1) := by decide +kernel
theorem dX7_exchange_17 : decode cX7_exchange 17 = .ok (.iload 4, 2) := by decide +kernel
theorem dX7_exchange_19 : decode cX7_exchange 19 = .ok (.iadd, 1) := by decide +kernel
theorem dX7_exchange_20 : decode cX7_exchange 20 = .ok (.iaload, 1) := by decide +kernel
theorem dX7_exchange_21 : decode cX7_exchange 21 = .ok (.istore 5, 2) := by decide +kernel
theorem dX7_exchange_23 : decode cX7_exchange 23 = .ok (.aload_n 0, 1) := by decide +kernel
theorem dX7_exchange_24 : decode cX7_exchange 24 = .ok (.getfield 26, 3) := by decide +kernel
theorem dX7_exchange_27 : decode cX7_exchange 27 = .ok (.bipush 9, 2) := by decide +kernel
theorem dX7_exchange_29 : decode cX7_exchange 29 = .ok (.iload_n 1, 1) := by decide +kernel
theorem dX7_exchange_30 : decode cX7_exchange 30 = .ok (.imul, 1) := by decide +kernel
theorem dX7_exchange_31 : decode cX7_exchange 31 = .ok (.iload 4, 2) := by decide +kernel
theorem dX7_exchange_33 : decode cX7_exchange 33 = .ok (.iadd, 1) := by decide +kernel
theorem dX7_exchange_34 : decode cX7_exchange 34 = .ok (.aload_n 0, 1) := by decide +kernel
theorem dX7_exchange_35 : decode cX7_exchange 35 = .ok (.getfield 26, 3) := by decide +kernel
theorem dX7_exchange_38 : decode cX7_exchange 38 = .ok (.bipush 9, 2) := by decide +kernel
theorem dX7_exchange_40 : decode cX7_exchange 40 = .ok (.iload_n 2, 1) := by decide +kernel
theorem dX7_exchange_41 : decode cX7_exchange 41 = .ok (.imul, 1) := by decide +kernel
theorem dX7_exchange_42 : decode cX7_exchange 42 = .ok (.iload 4, 2) := by decide +kernel
theorem dX7_exchange_44 : decode cX7_exchange 44 = .ok (.iadd, 1) := by decide +kernel
theorem dX7_exchange_45 : decode cX7_exchange 45 = .ok (.iaload, 1) := by decide +kernel
theorem dX7_exchange_46 : decode cX7_exchange 46 = .ok (.iastore, 1) := by decide +kernel
theorem dX7_exchange_47 : decode cX7_exchange 47 = .ok (.aload_n 0, 1) := by decide +kernel
theorem dX7_exchange_48 : decode cX7_exchange 48 = .ok (.getfield 26, 3) := by decide +kernel
theorem dX7_exchange_51 : decode cX7_exchange 51 = .ok (.bipush 9, 2) := by decide +kernel
theorem dX7_exchange_53 : decode cX7_exchange 53 = .ok (.iload_n 2, 1) := by decide +kernel
theorem dX7_exchange_54 : decode cX7_exchange 54 = .ok (.imul, 1) := by decide +kernel
theorem dX7_exchange_55 : decode cX7_exchange 55 = .ok (.iload 4, 2) := by decide +kernel
theorem dX7_exchange_57 : decode cX7_exchange 57 = .ok (.iadd, 1) := by decide +kernel
theorem dX7_exchange_58 : decode cX7_exchange 58 = .ok (.iload 5, 2) := by decide +kernel
theorem dX7_exchange_60 : decode cX7_exchange 60 = .ok (.iastore, 1) := by decide +kernel
theorem dX7_exchange_61 : decode cX7_exchange 61 = .ok (.iinc 4 1, 3) := by decide +kernel
theorem dX7_exchange_64 : decode cX7_exchange 64 = .ok (.goto (-61), 3) := by decide +kernel
theorem dX7_exchange_67 : decode cX7_exchange 67 = .ok (.return_, 1) := by decide +kernel
theorem dX7_quotient_0 : decode cX7_quotient 0 = .ok (.iconst 0, 1) := by decide +kernel
theorem dX7_quotient_1 : decode cX7_quotient 1 = .ok (.istore_n 3, 1) := by decide +kernel
theorem dX7_quotient_2 : decode cX7_quotient 2 = .ok (.aload_n 0, 1) := by decide +kernel
theorem dX7_quotient_3 : decode cX7_quotient 3 = .ok (.iload_n 3, 1) := by decide +kernel
theorem dX7_quotient_4 : decode cX7_quotient 4 = .ok (.iload_n 2, 1) := by decide +kernel
theorem dX7_quotient_5 : decode cX7_quotient 5 = .ok (.imul, 1) := by decide +kernel
theorem dX7_quotient_6 : decode cX7_quotient 6 = .ok (.invokevirtual 54, 3) := by decide +kernel
theorem dX7_quotient_9 : decode cX7_quotient 9 = .ok (.iload_n 1, 1) := by decide +kernel
theorem dX7_quotient_10 : decode cX7_quotient 10 = .ok (.if_icmp .eq 9, 3) := by decide +kernel
theorem dX7_quotient_13 : decode cX7_quotient 13 = .ok (.iinc 3 1, 3) := by decide +kernel
theorem dX7_quotient_16 : decode cX7_quotient 16 = .ok (.goto (-14), 3) := by decide +kernel
theorem dX7_quotient_19 : decode cX7_quotient 19 = .ok (.iload_n 3, 1) := by decide +kernel
theorem dX7_quotient_20 : decode cX7_quotient 20 = .ok (.ireturn, 1) := by decide +kernel
theorem dX7_clear_0 : decode cX7_clear 0 = .ok (.aload_n 0, 1) := by decide +kernel
theorem dX7_clear_1 : decode cX7_clear 1 = .ok (.aload_n 0, 1) := by decide +kernel
theorem dX7_clear_2 : decode cX7_clear 2 = .ok (.iconst 1, 1) := by decide +kernel
theorem dX7_clear_3 : decode cX7_clear 3 = .ok (.invokevirtual 54, 3) := by decide +kernel
theorem dX7_clear_6 : decode cX7_clear 6 = .ok (.aload_n 0, 1) := by decide +kernel
theorem dX7_clear_7 : decode cX7_clear 7 = .ok (.getfield 26, 3) := by decide +kernel
theorem dX7_clear_10 : decode cX7_clear 10 = .ok (.bipush 9, 2) := by decide +kernel
theorem dX7_clear_12 : decode cX7_clear 12 = .ok (.iload_n 1, 1) := by decide +kernel
theorem dX7_clear_13 : decode cX7_clear 13 = .ok (.imul, 1) := by decide +kernel
theorem dX7_clear_14 : decode cX7_clear 14 = .ok (.iload_n 2, 1) := by decide +kernel
theorem dX7_clear_15 : decode cX7_clear 15 = .ok (.iadd, 1) := by decide +kernel
theorem dX7_clear_16 : decode cX7_clear 16 = .ok (.iaload, 1) := by decide +kernel
theorem dX7_clear_17 : decode cX7_clear 17 = .ok (.invokevirtual 91, 3) := by decide +kernel
theorem dX7_clear_20 : decode cX7_clear 20 = .ok (.istore 5, 2) := by decide +kernel
theorem dX7_clear_22 : decode cX7_clear 22 = .ok (.iconst 0, 1) := by decide +kernel
theorem dX7_clear_23 : decode cX7_clear 23 = .ok (.istore 6, 2) := by decide +kernel
theorem dX7_clear_25 : decode cX7_clear 25 = .ok (.iload 6, 2) := by decide +kernel
theorem dX7_clear_27 : decode cX7_clear 27 = .ok (.iload 4, 2) := by decide +kernel
theorem dX7_clear_29 : decode cX7_clear 29 = .ok (.if_icmp .ge 40, 3) := by decide +kernel
theorem dX7_clear_32 : decode cX7_clear 32 = .ok (.aload_n 0, 1) := by decide +kernel
theorem dX7_clear_33 : decode cX7_clear 33 = .ok (.getfield 26, 3) := by decide +kernel
theorem dX7_clear_36 : decode cX7_clear 36 = .ok (.bipush 9, 2) := by decide +kernel
theorem dX7_clear_38 : decode cX7_clear 38 = .ok (.iload_n 1, 1) := by decide +kernel
theorem dX7_clear_39 : decode cX7_clear 39 = .ok (.imul, 1) := by decide +kernel
theorem dX7_clear_40 : decode cX7_clear 40 = .ok (.iload 6, 2) := by decide +kernel
theorem dX7_clear_42 : decode cX7_clear 42 = .ok (.iadd, 1) := by decide +kernel
theorem dX7_clear_43 : decode cX7_clear 43 = .ok (.aload_n 0, 1) := by decide +kernel
theorem dX7_clear_44 : decode cX7_clear 44 = .ok (.aload_n 0, 1) := by decide +kernel
theorem dX7_clear_45 : decode cX7_clear 45 = .ok (.getfield 26, 3) := by decide +kernel
theorem dX7_clear_48 : decode cX7_clear 48 = .ok (.bipush 9, 2) := by decide +kernel
theorem dX7_clear_50 : decode cX7_clear 50 = .ok (.iload_n 1, 1) := by decide +kernel
theorem dX7_clear_51 : decode cX7_clear 51 = .ok (.imul, 1) := by decide +kernel
theorem dX7_clear_52 : decode cX7_clear 52 = .ok (.iload 6, 2) := by decide +kernel
theorem dX7_clear_54 : decode cX7_clear 54 = .ok (.iadd, 1) := by decide +kernel
theorem dX7_clear_55 : decode cX7_clear 55 = .ok (.iaload, 1) := by decide +kernel
theorem dX7_clear_56 : decode cX7_clear 56 = .ok (.iload 5, 2) := by decide +kernel
theorem dX7_clear_58 : decode cX7_clear 58 = .ok (.imul, 1) := by decide +kernel
theorem dX7_clear_59 : decode cX7_clear 59 = .ok (.invokevirtual 54, 3) := by decide +kernel
theorem dX7_clear_62 : decode cX7_clear 62 = .ok (.iastore, 1) := by decide +kernel
theorem dX7_clear_63 : decode cX7_clear 63 = .ok (.iinc 6 1, 3) := by decide +kernel
theorem dX7_clear_66 : decode cX7_clear 66 = .ok (.goto (-41), 3) := by decide +kernel
theorem dX7_clear_69 : decode cX7_clear 69 = .ok (.iconst 0, 1) := by decide +kernel
theorem dX7_clear_70 : decode cX7_clear 70 = .ok (.istore 6, 2) := by decide +kernel
theorem dX7_clear_72 : decode cX7_clear 72 = .ok (.iload 6, 2) := by decide +kernel
theorem dX7_clear_74 : decode cX7_clear 74 = .ok (.iload_n 3, 1) := by decide +kernel
theorem dX7_clear_75 : decode cX7_clear 75 = .ok (.if_icmp .ge 100, 3) := by decide +kernel
theorem dX7_clear_78 : decode cX7_clear 78 = .ok (.iload 6, 2) := by decide +kernel
theorem dX7_clear_80 : decode cX7_clear 80 = .ok (.iload_n 1, 1) := by decide +kernel
theorem dX7_clear_81 : decode cX7_clear 81 = .ok (.if_icmp .ne 7, 3) := by decide +kernel
theorem dX7_clear_84 : decode cX7_clear 84 = .ok (.iconst 0, 1) := by decide +kernel
theorem dX7_clear_85 : decode cX7_clear 85 = .ok (.goto 15, 3) := by decide +kernel
theorem dX7_clear_88 : decode cX7_clear 88 = .ok (.aload_n 0, 1) := by decide +kernel
theorem dX7_clear_89 : decode cX7_clear 89 = .ok (.getfield 26, 3) := by decide +kernel
theorem dX7_clear_92 : decode cX7_clear 92 = .ok (.bipush 9, 2) := by decide +kernel
theorem dX7_clear_94 : decode cX7_clear 94 = .ok (.iload 6, 2) := by decide +kernel
theorem dX7_clear_96 : decode cX7_clear 96 = .ok (.imul, 1) := by decide +kernel
theorem dX7_clear_97 : decode cX7_clear 97 = .ok (.iload_n 2, 1) := by decide +kernel
theorem dX7_clear_98 : decode cX7_clear 98 = .ok (.iadd, 1) := by decide +kernel
theorem dX7_clear_99 : decode cX7_clear 99 = .ok (.iaload, 1) := by decide +kernel
theorem dX7_clear_100 : decode cX7_clear 100 = .ok (.istore 7, 2) := by decide +kernel
theorem dX7_clear_102 : decode cX7_clear 102 = .ok (.iconst 0, 1) := by decide +kernel
theorem dX7_clear_103 : decode cX7_clear 103 = .ok (.istore 8, 2) := by decide +kernel
theorem dX7_clear_105 : decode cX7_clear 105 = .ok (.iload 8, 2) := by decide +kernel
theorem dX7_clear_107 : decode cX7_clear 107 = .ok (.iload 4, 2) := by decide +kernel
theorem dX7_clear_109 : decode cX7_clear 109 = .ok (.if_icmp .ge 60, 3) := by decide +kernel
theorem dX7_clear_112 : decode cX7_clear 112 = .ok (.iload 7, 2) := by decide +kernel
theorem dX7_clear_114 : decode cX7_clear 114 = .ok (.ifCond .eq 55, 3) := by decide +kernel
theorem dX7_clear_117 : decode cX7_clear 117 = .ok (.aload_n 0, 1) := by decide +kernel
theorem dX7_clear_118 : decode cX7_clear 118 = .ok (.getfield 26, 3) := by decide +kernel
theorem dX7_clear_121 : decode cX7_clear 121 = .ok (.bipush 9, 2) := by decide +kernel
theorem dX7_clear_123 : decode cX7_clear 123 = .ok (.iload 6, 2) := by decide +kernel
theorem dX7_clear_125 : decode cX7_clear 125 = .ok (.imul, 1) := by decide +kernel
theorem dX7_clear_126 : decode cX7_clear 126 = .ok (.iload 8, 2) := by decide +kernel
theorem dX7_clear_128 : decode cX7_clear 128 = .ok (.iadd, 1) := by decide +kernel
theorem dX7_clear_129 : decode cX7_clear 129 = .ok (.aload_n 0, 1) := by decide +kernel
theorem dX7_clear_130 : decode cX7_clear 130 = .ok (.aload_n 0, 1) := by decide +kernel
theorem dX7_clear_131 : decode cX7_clear 131 = .ok (.getfield 26, 3) := by decide +kernel
theorem dX7_clear_134 : decode cX7_clear 134 = .ok (.bipush 9, 2) := by decide +kernel
theorem dX7_clear_136 : decode cX7_clear 136 = .ok (.iload 6, 2) := by decide +kernel
theorem dX7_clear_138 : decode cX7_clear 138 = .ok (.imul, 1) := by decide +kernel
theorem dX7_clear_139 : decode cX7_clear 139 = .ok (.iload 8, 2) := by decide +kernel
theorem dX7_clear_141 : decode cX7_clear 141 = .ok (.iadd, 1) := by decide +kernel
theorem dX7_clear_142 : decode cX7_clear 142 = .ok (.iaload, 1) := by decide +kernel
theorem dX7_clear_143 : decode cX7_clear 143 = .ok (.iload 7, 2) := by decide +kernel
theorem dX7_clear_145 : decode cX7_clear 145 = .ok (.aload_n 0, 1) := by decide +kernel
theorem dX7_clear_146 : decode cX7_clear 146 = .ok (.getfield 26, 3) := by decide +kernel
theorem dX7_clear_149 : decode cX7_clear 149 = .ok (.bipush 9, 2) := by decide +kernel
theorem dX7_clear_151 : decode cX7_clear 151 = .ok (.iload_n 1, 1) := by decide +kernel
theorem dX7_clear_152 : decode cX7_clear 152 = .ok (.imul, 1) := by decide +kernel
theorem dX7_clear_153 : decode cX7_clear 153 = .ok (.iload 8, 2) := by decide +kernel
theorem dX7_clear_155 : decode cX7_clear 155 = .ok (.iadd, 1) := by decide +kernel
theorem dX7_clear_156 : decode cX7_clear 156 = .ok (.iaload, 1) := by decide +kernel
theorem dX7_clear_157 : decode cX7_clear 157 = .ok (.imul, 1) := by decide +kernel
theorem dX7_clear_158 : decode cX7_clear 158 = .ok (.isub, 1) := by decide +kernel
theorem dX7_clear_159 : decode cX7_clear 159 = .ok (.invokevirtual 54, 3) := by decide +kernel
theorem dX7_clear_162 : decode cX7_clear 162 = .ok (.iastore, 1) := by decide +kernel
theorem dX7_clear_163 : decode cX7_clear 163 = .ok (.iinc 8 1, 3) := by decide +kernel
theorem dX7_clear_166 : decode cX7_clear 166 = .ok (.goto (-61), 3) := by decide +kernel
theorem dX7_clear_169 : decode cX7_clear 169 = .ok (.iinc 6 1, 3) := by decide +kernel
theorem dX7_clear_172 : decode cX7_clear 172 = .ok (.goto (-100), 3) := by decide +kernel
theorem dX7_clear_175 : decode cX7_clear 175 = .ok (.return_, 1) := by decide +kernel
theorem dX7_reduce_0 : decode cX7_reduce 0 = .ok (.iconst 0, 1) := by decide +kernel
theorem dX7_reduce_1 : decode cX7_reduce 1 = .ok (.istore_n 3, 1) := by decide +kernel
theorem dX7_reduce_2 : decode cX7_reduce 2 = .ok (.aload_n 0, 1) := by decide +kernel
theorem dX7_reduce_3 : decode cX7_reduce 3 = .ok (.iconst 1, 1) := by decide +kernel
theorem dX7_reduce_4 : decode cX7_reduce 4 = .ok (.putfield 80, 3) := by decide +kernel
theorem dX7_reduce_7 : decode cX7_reduce 7 = .ok (.iconst 0, 1) := by decide +kernel
theorem dX7_reduce_8 : decode cX7_reduce 8 = .ok (.istore 4, 2) := by decide +kernel
theorem dX7_reduce_10 : decode cX7_reduce 10 = .ok (.iload 4, 2) := by decide +kernel
theorem dX7_reduce_12 : decode cX7_reduce 12 = .ok (.iload_n 1, 1) := by decide +kernel
theorem dX7_reduce_13 : decode cX7_reduce 13 = .ok (.if_icmp .ge 119, 3) := by decide +kernel
theorem dX7_reduce_16 : decode cX7_reduce 16 = .ok (.iload_n 3, 1) := by decide +kernel
theorem dX7_reduce_17 : decode cX7_reduce 17 = .ok (.istore 5, 2) := by decide +kernel
theorem dX7_reduce_19 : decode cX7_reduce 19 = .ok (.iload 5, 2) := by decide +kernel
theorem dX7_reduce_21 : decode cX7_reduce 21 = .ok (.iload_n 1, 1) := by decide +kernel
theorem dX7_reduce_22 : decode cX7_reduce 22 = .ok (.if_icmp .ge 25, 3) := by decide +kernel
theorem dX7_reduce_25 : decode cX7_reduce 25 = .ok (.aload_n 0, 1) := by decide +kernel
theorem dX7_reduce_26 : decode cX7_reduce 26 = .ok (.getfield 26, 3) := by decide +kernel
theorem dX7_reduce_29 : decode cX7_reduce 29 = .ok (.bipush 9, 2) := by decide +kernel
theorem dX7_reduce_31 : decode cX7_reduce 31 = .ok (.iload 5, 2) := by decide +kernel
theorem dX7_reduce_33 : decode cX7_reduce 33 = .ok (.imul, 1) := by decide +kernel
theorem dX7_reduce_34 : decode cX7_reduce 34 = .ok (.iload 4, 2) := by decide +kernel
theorem dX7_reduce_36 : decode cX7_reduce 36 = .ok (.iadd, 1) := by decide +kernel
theorem dX7_reduce_37 : decode cX7_reduce 37 = .ok (.iaload, 1) := by decide +kernel
theorem dX7_reduce_38 : decode cX7_reduce 38 = .ok (.ifCond .ne 9, 3) := by decide +kernel
theorem dX7_reduce_41 : decode cX7_reduce 41 = .ok (.iinc 5 1, 3) := by decide +kernel
theorem dX7_reduce_44 : decode cX7_reduce 44 = .ok (.goto (-25), 3) := by decide +kernel
theorem dX7_reduce_47 : decode cX7_reduce 47 = .ok (.iload 5, 2) := by decide +kernel
theorem dX7_reduce_49 : decode cX7_reduce 49 = .ok (.iload_n 1, 1) := by decide +kernel
theorem dX7_reduce_50 : decode cX7_reduce 50 = .ok (.if_icmp .ne 11, 3) := by decide +kernel
theorem dX7_reduce_53 : decode cX7_reduce 53 = .ok (.aload_n 0, 1) := by decide +kernel
theorem dX7_reduce_54 : decode cX7_reduce 54 = .ok (.iconst 0, 1) := by decide +kernel
theorem dX7_reduce_55 : decode cX7_reduce 55 = .ok (.putfield 80, 3) := by decide +kernel
theorem dX7_reduce_58 : decode cX7_reduce 58 = .ok (.goto 68, 3) := by decide +kernel
theorem dX7_reduce_61 : decode cX7_reduce 61 = .ok (.aload_n 0, 1) := by decide +kernel
theorem dX7_reduce_62 : decode cX7_reduce 62 = .ok (.aload_n 0, 1) := by decide +kernel
theorem dX7_reduce_63 : decode cX7_reduce 63 = .ok (.aload_n 0, 1) := by decide +kernel
theorem dX7_reduce_64 : decode cX7_reduce 64 = .ok (.getfield 80, 3) := by decide +kernel
theorem dX7_reduce_67 : decode cX7_reduce 67 = .ok (.aload_n 0, 1) := by decide +kernel
theorem dX7_reduce_68 : decode cX7_reduce 68 = .ok (.getfield 26, 3) := by decide +kernel
theorem dX7_reduce_71 : decode cX7_reduce 71 = .ok (.bipush 9, 2) := by decide +kernel
theorem dX7_reduce_73 : decode cX7_reduce 73 = .ok (.iload 5, 2) := by decide +kernel
theorem dX7_reduce_75 : decode cX7_reduce 75 = .ok (.imul, 1) := by decide +kernel
theorem dX7_reduce_76 : decode cX7_reduce 76 = .ok (.iload 4, 2) := by decide +kernel
theorem dX7_reduce_78 : decode cX7_reduce 78 = .ok (.iadd, 1) := by decide +kernel
theorem dX7_reduce_79 : decode cX7_reduce 79 = .ok (.iaload, 1) := by decide +kernel
theorem dX7_reduce_80 : decode cX7_reduce 80 = .ok (.imul, 1) := by decide +kernel
theorem dX7_reduce_81 : decode cX7_reduce 81 = .ok (.invokevirtual 54, 3) := by decide +kernel
theorem dX7_reduce_84 : decode cX7_reduce 84 = .ok (.putfield 80, 3) := by decide +kernel
theorem dX7_reduce_87 : decode cX7_reduce 87 = .ok (.iload 5, 2) := by decide +kernel
theorem dX7_reduce_89 : decode cX7_reduce 89 = .ok (.iload_n 3, 1) := by decide +kernel
theorem dX7_reduce_90 : decode cX7_reduce 90 = .ok (.if_icmp .eq 24, 3) := by decide +kernel
theorem dX7_reduce_93 : decode cX7_reduce 93 = .ok (.aload_n 0, 1) := by decide +kernel
theorem dX7_reduce_94 : decode cX7_reduce 94 = .ok (.aload_n 0, 1) := by decide +kernel
theorem dX7_reduce_95 : decode cX7_reduce 95 = .ok (.aload_n 0, 1) := by decide +kernel
theorem dX7_reduce_96 : decode cX7_reduce 96 = .ok (.getfield 80, 3) := by decide +kernel
theorem dX7_reduce_99 : decode cX7_reduce 99 = .ok (.ineg, 1) := by decide +kernel
theorem dX7_reduce_100 : decode cX7_reduce 100 = .ok (.invokevirtual 54, 3) := by decide +kernel
theorem dX7_reduce_103 : decode cX7_reduce 103 = .ok (.putfield 80, 3) := by decide +kernel
theorem dX7_reduce_106 : decode cX7_reduce 106 = .ok (.aload_n 0, 1) := by decide +kernel
theorem dX7_reduce_107 : decode cX7_reduce 107 = .ok (.iload 5, 2) := by decide +kernel
theorem dX7_reduce_109 : decode cX7_reduce 109 = .ok (.iload_n 3, 1) := by decide +kernel
theorem dX7_reduce_110 : decode cX7_reduce 110 = .ok (.iload_n 2, 1) := by decide +kernel
theorem dX7_reduce_111 : decode cX7_reduce 111 = .ok (.invokevirtual 83, 3) := by decide +kernel
theorem dX7_reduce_114 : decode cX7_reduce 114 = .ok (.aload_n 0, 1) := by decide +kernel
theorem dX7_reduce_115 : decode cX7_reduce 115 = .ok (.iload_n 3, 1) := by decide +kernel
theorem dX7_reduce_116 : decode cX7_reduce 116 = .ok (.iload 4, 2) := by decide +kernel
theorem dX7_reduce_118 : decode cX7_reduce 118 = .ok (.iload_n 1, 1) := by decide +kernel
theorem dX7_reduce_119 : decode cX7_reduce 119 = .ok (.iload_n 2, 1) := by decide +kernel
theorem dX7_reduce_120 : decode cX7_reduce 120 = .ok (.invokevirtual 87, 3) := by decide +kernel
theorem dX7_reduce_123 : decode cX7_reduce 123 = .ok (.iinc 3 1, 3) := by decide +kernel
theorem dX7_reduce_126 : decode cX7_reduce 126 = .ok (.iinc 4 1, 3) := by decide +kernel
theorem dX7_reduce_129 : decode cX7_reduce 129 = .ok (.goto (-119), 3) := by decide +kernel
theorem dX7_reduce_132 : decode cX7_reduce 132 = .ok (.iload_n 3, 1) := by decide +kernel
theorem dX7_reduce_133 : decode cX7_reduce 133 = .ok (.ireturn, 1) := by decide +kernel
theorem dX7_rank_0 : decode cX7_rank 0 = .ok (.aload_n 0, 1) := by decide +kernel
theorem dX7_rank_1 : decode cX7_rank 1 = .ok (.iload_n 1, 1) := by decide +kernel
theorem dX7_rank_2 : decode cX7_rank 2 = .ok (.iload_n 2, 1) := by decide +kernel
theorem dX7_rank_3 : decode cX7_rank 3 = .ok (.invokestatic 94, 3) := by decide +kernel
theorem dX7_rank_6 : decode cX7_rank 6 = .ok (.iload_n 2, 1) := by decide +kernel
theorem dX7_rank_7 : decode cX7_rank 7 = .ok (.invokestatic 97, 3) := by decide +kernel
theorem dX7_rank_10 : decode cX7_rank 10 = .ok (.iload_n 3, 1) := by decide +kernel
theorem dX7_rank_11 : decode cX7_rank 11 = .ok (.invokevirtual 100, 3) := by decide +kernel
theorem dX7_rank_14 : decode cX7_rank 14 = .ok (.aload_n 0, 1) := by decide +kernel
theorem dX7_rank_15 : decode cX7_rank 15 = .ok (.iload_n 3, 1) := by decide +kernel
theorem dX7_rank_16 : decode cX7_rank 16 = .ok (.iload_n 3, 1) := by decide +kernel
theorem dX7_rank_17 : decode cX7_rank 17 = .ok (.invokevirtual 103, 3) := by decide +kernel
theorem dX7_rank_20 : decode cX7_rank 20 = .ok (.ireturn, 1) := by decide +kernel
theorem dX7_addProduct_0 : decode cX7_addProduct 0 = .ok (.aload_n 0, 1) := by decide +kernel
theorem dX7_addProduct_1 : decode cX7_addProduct 1 = .ok (.iload_n 1, 1) := by decide +kernel
theorem dX7_addProduct_2 : decode cX7_addProduct 2 = .ok (.iload_n 2, 1) := by decide +kernel
theorem dX7_addProduct_3 : decode cX7_addProduct 3 = .ok (.invokevirtual 130, 3) := by decide +kernel
theorem dX7_addProduct_6 : decode cX7_addProduct 6 = .ok (.ifCond .eq 5, 3) := by decide +kernel
theorem dX7_addProduct_9 : decode cX7_addProduct 9 = .ok (.iconst (-1), 1) := by decide +kernel
theorem dX7_addProduct_10 : decode cX7_addProduct 10 = .ok (.ireturn, 1) := by decide +kernel
theorem dX7_addProduct_11 : decode cX7_addProduct 11 = .ok (.aload_n 0, 1) := by decide +kernel
theorem dX7_addProduct_12 : decode cX7_addProduct 12 = .ok (.iload_n 1, 1) := by decide +kernel
theorem dX7_addProduct_13 : decode cX7_addProduct 13 = .ok (.iload_n 2, 1) := by decide +kernel
theorem dX7_addProduct_14 : decode cX7_addProduct 14 = .ok (.invokevirtual 127, 3) := by decide +kernel
theorem dX7_addProduct_17 : decode cX7_addProduct 17 = .ok (.istore_n 3, 1) := by decide +kernel
theorem dX7_addProduct_18 : decode cX7_addProduct 18 = .ok (.aload_n 0, 1) := by decide +kernel
theorem dX7_addProduct_19 : decode cX7_addProduct 19 = .ok (.iload_n 1, 1) := by decide +kernel
theorem dX7_addProduct_20 : decode cX7_addProduct 20 = .ok (.iload_n 3, 1) := by decide +kernel
theorem dX7_addProduct_21 : decode cX7_addProduct 21 = .ok (.invokevirtual 76, 3) := by decide +kernel
theorem dX7_addProduct_24 : decode cX7_addProduct 24 = .ok (.istore 4, 2) := by decide +kernel
theorem dX7_addProduct_26 : decode cX7_addProduct 26 = .ok (.aload_n 0, 1) := by decide +kernel
theorem dX7_addProduct_27 : decode cX7_addProduct 27 = .ok (.iload 4, 2) := by decide +kernel
theorem dX7_addProduct_29 : decode cX7_addProduct 29 = .ok (.invokevirtual 133, 3) := by decide +kernel
theorem dX7_addProduct_32 : decode cX7_addProduct 32 = .ok (.ifCond .ne 11, 3) := by decide +kernel
theorem dX7_addProduct_35 : decode cX7_addProduct 35 = .ok (.bipush (-100), 2) := by decide +kernel
theorem dX7_addProduct_37 : decode cX7_addProduct 37 = .ok (.aload_n 0, 1) := by decide +kernel
theorem dX7_addProduct_38 : decode cX7_addProduct 38 = .ok (.getfield 115, 3) := by decide +kernel
theorem dX7_addProduct_41 : decode cX7_addProduct 41 = .ok (.isub, 1) := by decide +kernel
theorem dX7_addProduct_42 : decode cX7_addProduct 42 = .ok (.ireturn, 1) := by decide +kernel
theorem dX7_addProduct_43 : decode cX7_addProduct 43 = .ok (.aload_n 0, 1) := by decide +kernel
theorem dX7_addProduct_44 : decode cX7_addProduct 44 = .ok (.iconst 2, 1) := by decide +kernel
theorem dX7_addProduct_45 : decode cX7_addProduct 45 = .ok (.iload 4, 2) := by decide +kernel
theorem dX7_addProduct_47 : decode cX7_addProduct 47 = .ok (.imul, 1) := by decide +kernel
theorem dX7_addProduct_48 : decode cX7_addProduct 48 = .ok (.invokevirtual 136, 3) := by decide +kernel
theorem dX7_addProduct_51 : decode cX7_addProduct 51 = .ok (.ifCond .ne 6, 3) := by decide +kernel
theorem dX7_addProduct_54 : decode cX7_addProduct 54 = .ok (.bipush (-2), 2) := by decide +kernel
theorem dX7_addProduct_56 : decode cX7_addProduct 56 = .ok (.ireturn, 1) := by decide +kernel
theorem dX7_addProduct_57 : decode cX7_addProduct 57 = .ok (.aload_n 0, 1) := by decide +kernel
theorem dX7_addProduct_58 : decode cX7_addProduct 58 = .ok (.invokevirtual 47, 3) := by decide +kernel
theorem dX7_addProduct_61 : decode cX7_addProduct 61 = .ok (.iconst 0, 1) := by decide +kernel
theorem dX7_addProduct_62 : decode cX7_addProduct 62 = .ok (.istore 5, 2) := by decide +kernel
theorem dX7_addProduct_64 : decode cX7_addProduct 64 = .ok (.iload 5, 2) := by decide +kernel
theorem dX7_addProduct_66 : decode cX7_addProduct 66 = .ok (.iload 4, 2) := by decide +kernel
theorem dX7_addProduct_68 : decode cX7_addProduct 68 = .ok (.if_icmp .ge 82, 3) := by decide +kernel
theorem dX7_addProduct_71 : decode cX7_addProduct 71 = .ok (.iconst 0, 1) := by decide +kernel
theorem dX7_addProduct_72 : decode cX7_addProduct 72 = .ok (.istore 6, 2) := by decide +kernel
theorem dX7_addProduct_74 : decode cX7_addProduct 74 = .ok (.iload 6, 2) := by decide +kernel
theorem dX7_addProduct_76 : decode cX7_addProduct 76 = .ok (.iload 4, 2) := by decide +kernel
theorem dX7_addProduct_78 : decode cX7_addProduct 78 = .ok (.if_icmp .ge 66, 3) := by decide +kernel
theorem dX7_addProduct_81 : decode cX7_addProduct 81 = .ok (.iload_n 1, 1) := by decide +kernel
theorem dX7_addProduct_82 : decode cX7_addProduct 82 = .ok (.iload_n 3, 1) := by decide +kernel
theorem dX7_addProduct_83 : decode cX7_addProduct 83 = .ok (.invokestatic 94, 3) := by decide +kernel
theorem dX7_addProduct_86 : decode cX7_addProduct 86 = .ok (.iload 5, 2) := by decide +kernel
theorem dX7_addProduct_88 : decode cX7_addProduct 88 = .ok (.iadd, 1) := by decide +kernel
theorem dX7_addProduct_89 : decode cX7_addProduct 89 = .ok (.iload_n 3, 1) := by decide +kernel
theorem dX7_addProduct_90 : decode cX7_addProduct 90 = .ok (.invokestatic 97, 3) := by decide +kernel
theorem dX7_addProduct_93 : decode cX7_addProduct 93 = .ok (.iload 6, 2) := by decide +kernel
theorem dX7_addProduct_95 : decode cX7_addProduct 95 = .ok (.iadd, 1) := by decide +kernel
theorem dX7_addProduct_96 : decode cX7_addProduct 96 = .ok (.invokestatic 68, 3) := by decide +kernel
theorem dX7_addProduct_99 : decode cX7_addProduct 99 = .ok (.istore 7, 2) := by decide +kernel
theorem dX7_addProduct_101 : decode cX7_addProduct 101 = .ok (.aload_n 0, 1) := by decide +kernel
theorem dX7_addProduct_102 : decode cX7_addProduct 102 = .ok (.getfield 7, 3) := by decide +kernel
theorem dX7_addProduct_105 : decode cX7_addProduct 105 = .ok (.iload 7, 2) := by decide +kernel
theorem dX7_addProduct_107 : decode cX7_addProduct 107 = .ok (.aload_n 0, 1) := by decide +kernel
theorem dX7_addProduct_108 : decode cX7_addProduct 108 = .ok (.aload_n 0, 1) := by decide +kernel
theorem dX7_addProduct_109 : decode cX7_addProduct 109 = .ok (.getfield 7, 3) := by decide +kernel
theorem dX7_addProduct_112 : decode cX7_addProduct 112 = .ok (.iload 7, 2) := by decide +kernel
theorem dX7_addProduct_114 : decode cX7_addProduct 114 = .ok (.iaload, 1) := by decide +kernel
theorem dX7_addProduct_115 : decode cX7_addProduct 115 = .ok (.aload_n 0, 1) := by decide +kernel
theorem dX7_addProduct_116 : decode cX7_addProduct 116 = .ok (.getfield 23, 3) := by decide +kernel
theorem dX7_addProduct_119 : decode cX7_addProduct 119 = .ok (.iload 5, 2) := by decide +kernel
theorem dX7_addProduct_121 : decode cX7_addProduct 121 = .ok (.iaload, 1) := by decide +kernel
theorem dX7_addProduct_122 : decode cX7_addProduct 122 = .ok (.aload_n 0, 1) := by decide +kernel
theorem dX7_addProduct_123 : decode cX7_addProduct 123 = .ok (.getfield 23, 3) := by decide +kernel
theorem dX7_addProduct_126 : decode cX7_addProduct 126 = .ok (.iload 4, 2) := by decide +kernel
theorem dX7_addProduct_128 : decode cX7_addProduct 128 = .ok (.iload 6, 2) := by decide +kernel
theorem dX7_addProduct_130 : decode cX7_addProduct 130 = .ok (.iadd, 1) := by decide +kernel
theorem dX7_addProduct_131 : decode cX7_addProduct 131 = .ok (.iaload, 1) := by decide +kernel
theorem dX7_addProduct_132 : decode cX7_addProduct 132 = .ok (.imul, 1) := by decide +kernel
theorem dX7_addProduct_133 : decode cX7_addProduct 133 = .ok (.iadd, 1) := by decide +kernel
theorem dX7_addProduct_134 : decode cX7_addProduct 134 = .ok (.invokevirtual 54, 3) := by decide +kernel
theorem dX7_addProduct_137 : decode cX7_addProduct 137 = .ok (.iastore, 1) := by decide +kernel
theorem dX7_addProduct_138 : decode cX7_addProduct 138 = .ok (.iinc 6 1, 3) := by decide +kernel
theorem dX7_addProduct_141 : decode cX7_addProduct 141 = .ok (.goto (-67), 3) := by decide +kernel
theorem dX7_addProduct_144 : decode cX7_addProduct 144 = .ok (.iinc 5 1, 3) := by decide +kernel
theorem dX7_addProduct_147 : decode cX7_addProduct 147 = .ok (.goto (-83), 3) := by decide +kernel
theorem dX7_addProduct_150 : decode cX7_addProduct 150 = .ok (.aload_n 0, 1) := by decide +kernel
theorem dX7_addProduct_151 : decode cX7_addProduct 151 = .ok (.iload_n 1, 1) := by decide +kernel
theorem dX7_addProduct_152 : decode cX7_addProduct 152 = .ok (.iload_n 3, 1) := by decide +kernel
theorem dX7_addProduct_153 : decode cX7_addProduct 153 = .ok (.iload 4, 2) := by decide +kernel
theorem dX7_addProduct_155 : decode cX7_addProduct 155 = .ok (.invokevirtual 106, 3) := by decide +kernel
theorem dX7_addProduct_158 : decode cX7_addProduct 158 = .ok (.ireturn, 1) := by decide +kernel
theorem dX4_takeLetter_0 : decode cX4_takeLetter 0 = .ok (.aload_n 0, 1) := by decide +kernel
theorem dX4_takeLetter_1 : decode cX4_takeLetter 1 = .ok (.invokevirtual 71, 3) := by decide +kernel
theorem dX4_takeLetter_4 : decode cX4_takeLetter 4 = .ok (.istore_n 1, 1) := by decide +kernel
theorem dX4_takeLetter_5 : decode cX4_takeLetter 5 = .ok (.iload_n 1, 1) := by decide +kernel
theorem dX4_takeLetter_6 : decode cX4_takeLetter 6 = .ok (.bipush 65, 2) := by decide +kernel
theorem dX4_takeLetter_8 : decode cX4_takeLetter 8 = .ok (.if_icmp .lt 9, 3) := by decide +kernel
theorem dX4_takeLetter_11 : decode cX4_takeLetter 11 = .ok (.iload_n 1, 1) := by decide +kernel
theorem dX4_takeLetter_12 : decode cX4_takeLetter 12 = .ok (.bipush 68, 2) := by decide +kernel
theorem dX4_takeLetter_14 : decode cX4_takeLetter 14 = .ok (.if_icmp .le 5, 3) := by decide +kernel
theorem dX4_takeLetter_17 : decode cX4_takeLetter 17 = .ok (.iconst (-1), 1) := by decide +kernel
theorem dX4_takeLetter_18 : decode cX4_takeLetter 18 = .ok (.ireturn, 1) := by decide +kernel
theorem dX4_takeLetter_19 : decode cX4_takeLetter 19 = .ok (.aload_n 0, 1) := by decide +kernel
theorem dX4_takeLetter_20 : decode cX4_takeLetter 20 = .ok (.dup, 1) := by decide +kernel
theorem dX4_takeLetter_21 : decode cX4_takeLetter 21 = .ok (.getfield 38, 3) := by decide +kernel
theorem dX4_takeLetter_24 : decode cX4_takeLetter 24 = .ok (.iconst 1, 1) := by decide +kernel
theorem dX4_takeLetter_25 : decode cX4_takeLetter 25 = .ok (.iadd, 1) := by decide +kernel
theorem dX4_takeLetter_26 : decode cX4_takeLetter 26 = .ok (.putfield 38, 3) := by decide +kernel
theorem dX4_takeLetter_29 : decode cX4_takeLetter 29 = .ok (.iload_n 1, 1) := by decide +kernel
theorem dX4_takeLetter_30 : decode cX4_takeLetter 30 = .ok (.bipush 65, 2) := by decide +kernel
theorem dX4_takeLetter_32 : decode cX4_takeLetter 32 = .ok (.isub, 1) := by decide +kernel
theorem dX4_takeLetter_33 : decode cX4_takeLetter 33 = .ok (.ireturn, 1) := by decide +kernel
theorem dX4_takeOperation_0 : decode cX4_takeOperation 0 = .ok (.aload_n 0, 1) := by decide +kernel
theorem dX4_takeOperation_1 : decode cX4_takeOperation 1 = .ok (.invokevirtual 71, 3) := by decide +kernel
theorem dX4_takeOperation_4 : decode cX4_takeOperation 4 = .ok (.istore_n 1, 1) := by decide +kernel
theorem dX4_takeOperation_5 : decode cX4_takeOperation 5 = .ok (.iload_n 1, 1) := by decide +kernel
theorem dX4_takeOperation_6 : decode cX4_takeOperation 6 = .ok (.bipush 43, 2) := by decide +kernel
theorem dX4_takeOperation_8 : decode cX4_takeOperation 8 = .ok (.if_icmp .eq 23, 3) := by decide +kernel
theorem dX4_takeOperation_11 : decode cX4_takeOperation 11 = .ok (.iload_n 1, 1) := by decide +kernel
theorem dX4_takeOperation_12 : decode cX4_takeOperation 12 = .ok (.bipush 45, 2) := by decide +kernel
theorem dX4_takeOperation_14 : decode cX4_takeOperation 14 = .ok (.if_icmp .eq 17, 3) := by decide +kernel
theorem dX4_takeOperation_17 : decode cX4_takeOperation 17 = .ok (.iload_n 1, 1) := by decide +kernel
theorem dX4_takeOperation_18 : decode cX4_takeOperation 18 = .ok (.bipush 42, 2) := by decide +kernel
theorem dX4_takeOperation_20 : decode cX4_takeOperation 20 = .ok (.if_icmp .eq 11, 3) := by decide +kernel
theorem dX4_takeOperation_23 : decode cX4_takeOperation 23 = .ok (.iload_n 1, 1) := by decide +kernel
theorem dX4_takeOperation_24 : decode cX4_takeOperation 24 = .ok (.bipush 39, 2) := by decide +kernel
theorem dX4_takeOperation_26 : decode cX4_takeOperation 26 = .ok (.if_icmp .eq 5, 3) := by decide +kernel
theorem dX4_takeOperation_29 : decode cX4_takeOperation 29 = .ok (.iconst (-1), 1) := by decide +kernel
theorem dX4_takeOperation_30 : decode cX4_takeOperation 30 = .ok (.ireturn, 1) := by decide +kernel
theorem dX4_takeOperation_31 : decode cX4_takeOperation 31 = .ok (.aload_n 0, 1) := by decide +kernel
theorem dX4_takeOperation_32 : decode cX4_takeOperation 32 = .ok (.dup, 1) := by decide +kernel
theorem dX4_takeOperation_33 : decode cX4_takeOperation 33 = .ok (.getfield 38, 3) := by decide +kernel
theorem dX4_takeOperation_36 : decode cX4_takeOperation 36 = .ok (.iconst 1, 1) := by decide +kernel
theorem dX4_takeOperation_37 : decode cX4_takeOperation 37 = .ok (.iadd, 1) := by decide +kernel
theorem dX4_takeOperation_38 : decode cX4_takeOperation 38 = .ok (.putfield 38, 3) := by decide +kernel
theorem dX4_takeOperation_41 : decode cX4_takeOperation 41 = .ok (.iload_n 1, 1) := by decide +kernel
theorem dX4_takeOperation_42 : decode cX4_takeOperation 42 = .ok (.ireturn, 1) := by decide +kernel
theorem dX4_readFormula_0 : decode cX4_readFormula 0 = .ok (.aload_n 0, 1) := by decide +kernel
theorem dX4_readFormula_1 : decode cX4_readFormula 1 = .ok (.iconst 0, 1) := by decide +kernel
theorem dX4_readFormula_2 : decode cX4_readFormula 2 = .ok (.putfield 38, 3) := by decide +kernel
theorem dX4_readFormula_5 : decode cX4_readFormula 5 = .ok (.aload_n 0, 1) := by decide +kernel
theorem dX4_readFormula_6 : decode cX4_readFormula 6 = .ok (.aload_n 0, 1) := by decide +kernel
theorem dX4_readFormula_7 : decode cX4_readFormula 7 = .ok (.invokevirtual 56, 3) := by decide +kernel
theorem dX4_readFormula_10 : decode cX4_readFormula 10 = .ok (.putfield 59, 3) := by decide +kernel
theorem dX4_readFormula_13 : decode cX4_readFormula 13 = .ok (.aload_n 0, 1) := by decide +kernel
theorem dX4_readFormula_14 : decode cX4_readFormula 14 = .ok (.getfield 59, 3) := by decide +kernel
theorem dX4_readFormula_17 : decode cX4_readFormula 17 = .ok (.iconst (-1), 1) := by decide +kernel
theorem dX4_readFormula_18 : decode cX4_readFormula 18 = .ok (.if_icmp .eq 12, 3) := by decide +kernel
theorem dX4_readFormula_21 : decode cX4_readFormula 21 = .ok (.aload_n 0, 1) := by decide +kernel
theorem dX4_readFormula_22 : decode cX4_readFormula 22 = .ok (.bipush 61, 2) := by decide +kernel
theorem dX4_readFormula_24 : decode cX4_readFormula 24 = .ok (.invokevirtual 44, 3) := by decide +kernel
theorem dX4_readFormula_27 : decode cX4_readFormula 27 = .ok (.ifCond .ne 8, 3) := by decide +kernel
theorem dX4_readFormula_30 : decode cX4_readFormula 30 = .ok (.aload_n 0, 1) := by decide +kernel
theorem dX4_readFormula_31 : decode cX4_readFormula 31 = .ok (.getfield 38, 3) := by decide +kernel
theorem dX4_readFormula_34 : decode cX4_readFormula 34 = .ok (.ireturn, 1) := by decide +kernel
theorem dX4_readFormula_35 : decode cX4_readFormula 35 = .ok (.aload_n 0, 1) := by decide +kernel
theorem dX4_readFormula_36 : decode cX4_readFormula 36 = .ok (.aload_n 0, 1) := by decide +kernel
theorem dX4_readFormula_37 : decode cX4_readFormula 37 = .ok (.invokevirtual 56, 3) := by decide +kernel
theorem dX4_readFormula_40 : decode cX4_readFormula 40 = .ok (.putfield 62, 3) := by decide +kernel
theorem dX4_readFormula_43 : decode cX4_readFormula 43 = .ok (.aload_n 0, 1) := by decide +kernel
theorem dX4_readFormula_44 : decode cX4_readFormula 44 = .ok (.getfield 62, 3) := by decide +kernel
theorem dX4_readFormula_47 : decode cX4_readFormula 47 = .ok (.iconst (-1), 1) := by decide +kernel
theorem dX4_readFormula_48 : decode cX4_readFormula 48 = .ok (.if_icmp .ne 8, 3) := by decide +kernel
theorem dX4_readFormula_51 : decode cX4_readFormula 51 = .ok (.aload_n 0, 1) := by decide +kernel
theorem dX4_readFormula_52 : decode cX4_readFormula 52 = .ok (.getfield 38, 3) := by decide +kernel
theorem dX4_readFormula_55 : decode cX4_readFormula 55 = .ok (.ireturn, 1) := by decide +kernel
theorem dX4_readFormula_56 : decode cX4_readFormula 56 = .ok (.aload_n 0, 1) := by decide +kernel
theorem dX4_readFormula_57 : decode cX4_readFormula 57 = .ok (.aload_n 0, 1) := by decide +kernel
theorem dX4_readFormula_58 : decode cX4_readFormula 58 = .ok (.getfield 62, 3) := by decide +kernel
theorem dX4_readFormula_61 : decode cX4_readFormula 61 = .ok (.putfield 65, 3) := by decide +kernel
theorem dX4_readFormula_64 : decode cX4_readFormula 64 = .ok (.aload_n 0, 1) := by decide +kernel
theorem dX4_readFormula_65 : decode cX4_readFormula 65 = .ok (.aload_n 0, 1) := by decide +kernel
theorem dX4_readFormula_66 : decode cX4_readFormula 66 = .ok (.invokevirtual 68, 3) := by decide +kernel
theorem dX4_readFormula_69 : decode cX4_readFormula 69 = .ok (.putfield 18, 3) := by decide +kernel
theorem dX4_readFormula_72 : decode cX4_readFormula 72 = .ok (.aload_n 0, 1) := by decide +kernel
theorem dX4_readFormula_73 : decode cX4_readFormula 73 = .ok (.getfield 18, 3) := by decide +kernel
theorem dX4_readFormula_76 : decode cX4_readFormula 76 = .ok (.iconst (-1), 1) := by decide +kernel
theorem dX4_readFormula_77 : decode cX4_readFormula 77 = .ok (.if_icmp .eq 33, 3) := by decide +kernel
theorem dX4_readFormula_80 : decode cX4_readFormula 80 = .ok (.aload_n 0, 1) := by decide +kernel
theorem dX4_readFormula_81 : decode cX4_readFormula 81 = .ok (.getfield 18, 3) := by decide +kernel
theorem dX4_readFormula_84 : decode cX4_readFormula 84 = .ok (.bipush 39, 2) := by decide +kernel
theorem dX4_readFormula_86 : decode cX4_readFormula 86 = .ok (.if_icmp .eq 24, 3) := by decide +kernel
theorem dX4_readFormula_89 : decode cX4_readFormula 89 = .ok (.aload_n 0, 1) := by decide +kernel
theorem dX4_readFormula_90 : decode cX4_readFormula 90 = .ok (.aload_n 0, 1) := by decide +kernel
theorem dX4_readFormula_91 : decode cX4_readFormula 91 = .ok (.invokevirtual 56, 3) := by decide +kernel
theorem dX4_readFormula_94 : decode cX4_readFormula 94 = .ok (.putfield 65, 3) := by decide +kernel
theorem dX4_readFormula_97 : decode cX4_readFormula 97 = .ok (.aload_n 0, 1) := by decide +kernel
theorem dX4_readFormula_98 : decode cX4_readFormula 98 = .ok (.getfield 65, 3) := by decide +kernel
theorem dX4_readFormula_101 : decode cX4_readFormula 101 = .ok (.iconst (-1), 1) := by decide +kernel
theorem dX4_readFormula_102 : decode cX4_readFormula 102 = .ok (.if_icmp .ne 8, 3) := by decide +kernel
theorem dX4_readFormula_105 : decode cX4_readFormula 105 = .ok (.aload_n 0, 1) := by decide +kernel
theorem dX4_readFormula_106 : decode cX4_readFormula 106 = .ok (.getfield 38, 3) := by decide +kernel
theorem dX4_readFormula_109 : decode cX4_readFormula 109 = .ok (.ireturn, 1) := by decide +kernel
theorem dX4_readFormula_110 : decode cX4_readFormula 110 = .ok (.aload_n 0, 1) := by decide +kernel
theorem dX4_readFormula_111 : decode cX4_readFormula 111 = .ok (.invokevirtual 52, 3) := by decide +kernel
theorem dX4_readFormula_114 : decode cX4_readFormula 114 = .ok (.ireturn, 1) := by decide +kernel
theorem dX6_productCell_0 : decode cX6_productCell 0 = .ok (.iconst 0, 1) := by decide +kernel
theorem dX6_productCell_1 : decode cX6_productCell 1 = .ok (.istore 4, 2) := by decide +kernel
theorem dX6_productCell_3 : decode cX6_productCell 3 = .ok (.iconst 0, 1) := by decide +kernel
theorem dX6_productCell_4 : decode cX6_productCell 4 = .ok (.istore 5, 2) := by decide +kernel
theorem dX6_productCell_6 : decode cX6_productCell 6 = .ok (.iload 5, 2) := by decide +kernel
theorem dX6_productCell_8 : decode cX6_productCell 8 = .ok (.bipush 8, 2) := by decide +kernel
theorem dX6_productCell_10 : decode cX6_productCell 10 = .ok (.if_icmp .ge 29, 3) := by decide +kernel
theorem dX6_productCell_13 : decode cX6_productCell 13 = .ok (.iload 4, 2) := by decide +kernel
theorem dX6_productCell_15 : decode cX6_productCell 15 = .ok (.aload_n 0, 1) := by decide +kernel
theorem dX6_productCell_16 : decode cX6_productCell 16 = .ok (.iload_n 2, 1) := by decide +kernel
theorem dX6_productCell_17 : decode cX6_productCell 17 = .ok (.iload 5, 2) := by decide +kernel
theorem dX6_productCell_19 : decode cX6_productCell 19 = .ok (.invokevirtual 80, 3) := by decide +kernel
theorem dX6_productCell_22 : decode cX6_productCell 22 = .ok (.aload_n 1, 1) := by decide +kernel
theorem dX6_productCell_23 : decode cX6_productCell 23 = .ok (.iload 5, 2) := by decide +kernel
theorem dX6_productCell_25 : decode cX6_productCell 25 = .ok (.iload_n 3, 1) := by decide +kernel
theorem dX6_productCell_26 : decode cX6_productCell 26 = .ok (.invokevirtual 80, 3) := by decide +kernel
theorem dX6_productCell_29 : decode cX6_productCell 29 = .ok (.imul, 1) := by decide +kernel
theorem dX6_productCell_30 : decode cX6_productCell 30 = .ok (.iadd, 1) := by decide +kernel
theorem dX6_productCell_31 : decode cX6_productCell 31 = .ok (.istore 4, 2) := by decide +kernel
theorem dX6_productCell_33 : decode cX6_productCell 33 = .ok (.iinc 5 1, 3) := by decide +kernel
theorem dX6_productCell_36 : decode cX6_productCell 36 = .ok (.goto (-30), 3) := by decide +kernel
theorem dX6_productCell_39 : decode cX6_productCell 39 = .ok (.iload 4, 2) := by decide +kernel
theorem dX6_productCell_41 : decode cX6_productCell 41 = .ok (.ireturn, 1) := by decide +kernel
theorem dX6_formulaCell_0 : decode cX6_formulaCell 0 = .ok (.aload_n 0, 1) := by decide +kernel
theorem dX6_formulaCell_1 : decode cX6_formulaCell 1 = .ok (.getfield 29, 3) := by decide +kernel
theorem dX6_formulaCell_4 : decode cX6_formulaCell 4 = .ok (.getfield 257, 3) := by decide +kernel
theorem dX6_formulaCell_7 : decode cX6_formulaCell 7 = .ok (.tableswitch 90 39 45 #[82, 90, 90, 73, 41, 90, 57], 41) := by decide +kernel
theorem dX6_formulaCell_48 : decode cX6_formulaCell 48 = .ok (.aload_n 1, 1) := by decide +kernel
theorem dX6_formulaCell_49 : decode cX6_formulaCell 49 = .ok (.iload_n 3, 1) := by decide +kernel
theorem dX6_formulaCell_50 : decode cX6_formulaCell 50 = .ok (.iload 4, 2) := by decide +kernel
theorem dX6_formulaCell_52 : decode cX6_formulaCell 52 = .ok (.invokevirtual 80, 3) := by decide +kernel
theorem dX6_formulaCell_55 : decode cX6_formulaCell 55 = .ok (.aload_n 2, 1) := by decide +kernel
theorem dX6_formulaCell_56 : decode cX6_formulaCell 56 = .ok (.iload_n 3, 1) := by decide +kernel
theorem dX6_formulaCell_57 : decode cX6_formulaCell 57 = .ok (.iload 4, 2) := by decide +kernel
theorem dX6_formulaCell_59 : decode cX6_formulaCell 59 = .ok (.invokevirtual 80, 3) := by decide +kernel
theorem dX6_formulaCell_62 : decode cX6_formulaCell 62 = .ok (.iadd, 1) := by decide +kernel
theorem dX6_formulaCell_63 : decode cX6_formulaCell 63 = .ok (.ireturn, 1) := by decide +kernel
theorem dX6_formulaCell_64 : decode cX6_formulaCell 64 = .ok (.aload_n 1, 1) := by decide +kernel
theorem dX6_formulaCell_65 : decode cX6_formulaCell 65 = .ok (.iload_n 3, 1) := by decide +kernel
theorem dX6_formulaCell_66 : decode cX6_formulaCell 66 = .ok (.iload 4, 2) := by decide +kernel
theorem dX6_formulaCell_68 : decode cX6_formulaCell 68 = .ok (.invokevirtual 80, 3) := by decide +kernel
theorem dX6_formulaCell_71 : decode cX6_formulaCell 71 = .ok (.aload_n 2, 1) := by decide +kernel
theorem dX6_formulaCell_72 : decode cX6_formulaCell 72 = .ok (.iload_n 3, 1) := by decide +kernel
theorem dX6_formulaCell_73 : decode cX6_formulaCell 73 = .ok (.iload 4, 2) := by decide +kernel
theorem dX6_formulaCell_75 : decode cX6_formulaCell 75 = .ok (.invokevirtual 80, 3) := by decide +kernel
theorem dX6_formulaCell_78 : decode cX6_formulaCell 78 = .ok (.isub, 1) := by decide +kernel
theorem dX6_formulaCell_79 : decode cX6_formulaCell 79 = .ok (.ireturn, 1) := by decide +kernel
theorem dX6_formulaCell_80 : decode cX6_formulaCell 80 = .ok (.aload_n 1, 1) := by decide +kernel
theorem dX6_formulaCell_81 : decode cX6_formulaCell 81 = .ok (.aload_n 2, 1) := by decide +kernel
theorem dX6_formulaCell_82 : decode cX6_formulaCell 82 = .ok (.iload_n 3, 1) := by decide +kernel
theorem dX6_formulaCell_83 : decode cX6_formulaCell 83 = .ok (.iload 4, 2) := by decide +kernel
theorem dX6_formulaCell_85 : decode cX6_formulaCell 85 = .ok (.invokestatic 260, 3) := by decide +kernel
theorem dX6_formulaCell_88 : decode cX6_formulaCell 88 = .ok (.ireturn, 1) := by decide +kernel
theorem dX6_formulaCell_89 : decode cX6_formulaCell 89 = .ok (.aload_n 1, 1) := by decide +kernel
theorem dX6_formulaCell_90 : decode cX6_formulaCell 90 = .ok (.iload 4, 2) := by decide +kernel
theorem dX6_formulaCell_92 : decode cX6_formulaCell 92 = .ok (.iload_n 3, 1) := by decide +kernel
theorem dX6_formulaCell_93 : decode cX6_formulaCell 93 = .ok (.invokevirtual 80, 3) := by decide +kernel
theorem dX6_formulaCell_96 : decode cX6_formulaCell 96 = .ok (.ireturn, 1) := by decide +kernel
theorem dX6_formulaCell_97 : decode cX6_formulaCell 97 = .ok (.aload_n 1, 1) := by decide +kernel
theorem dX6_formulaCell_98 : decode cX6_formulaCell 98 = .ok (.iload_n 3, 1) := by decide +kernel
theorem dX6_formulaCell_99 : decode cX6_formulaCell 99 = .ok (.iload 4, 2) := by decide +kernel
theorem dX6_formulaCell_101 : decode cX6_formulaCell 101 = .ok (.invokevirtual 80, 3) := by decide +kernel
theorem dX6_formulaCell_104 : decode cX6_formulaCell 104 = .ok (.ireturn, 1) := by decide +kernel
theorem dX3_putAll_0 : decode cX3_putAll 0 = .ok (.iconst 0, 1) := by decide +kernel
theorem dX3_putAll_1 : decode cX3_putAll 1 = .ok (.istore_n 2, 1) := by decide +kernel
theorem dX3_putAll_2 : decode cX3_putAll 2 = .ok (.iload_n 2, 1) := by decide +kernel
theorem dX3_putAll_3 : decode cX3_putAll 3 = .ok (.bipush 64, 2) := by decide +kernel
theorem dX3_putAll_5 : decode cX3_putAll 5 = .ok (.if_icmp .ge 24, 3) := by decide +kernel
theorem dX3_putAll_8 : decode cX3_putAll 8 = .ok (.iload_n 2, 1) := by decide +kernel
theorem dX3_putAll_9 : decode cX3_putAll 9 = .ok (.aload_n 1, 1) := by decide +kernel
theorem dX3_putAll_10 : decode cX3_putAll 10 = .ok (.arraylength, 1) := by decide +kernel
theorem dX3_putAll_11 : decode cX3_putAll 11 = .ok (.if_icmp .ge 18, 3) := by decide +kernel
theorem dX3_putAll_14 : decode cX3_putAll 14 = .ok (.aload_n 0, 1) := by decide +kernel
theorem dX3_putAll_15 : decode cX3_putAll 15 = .ok (.getfield 9, 3) := by decide +kernel
theorem dX3_putAll_18 : decode cX3_putAll 18 = .ok (.iload_n 2, 1) := by decide +kernel
theorem dX3_putAll_19 : decode cX3_putAll 19 = .ok (.aload_n 1, 1) := by decide +kernel
theorem dX3_putAll_20 : decode cX3_putAll 20 = .ok (.iload_n 2, 1) := by decide +kernel
theorem dX3_putAll_21 : decode cX3_putAll 21 = .ok (.iaload, 1) := by decide +kernel
theorem dX3_putAll_22 : decode cX3_putAll 22 = .ok (.iastore, 1) := by decide +kernel
theorem dX3_putAll_23 : decode cX3_putAll 23 = .ok (.iinc 2 1, 3) := by decide +kernel
theorem dX3_putAll_26 : decode cX3_putAll 26 = .ok (.goto (-24), 3) := by decide +kernel
theorem dX3_putAll_29 : decode cX3_putAll 29 = .ok (.return_, 1) := by decide +kernel
theorem dX6_work_0 : decode cX6_work 0 = .ok (.aload_n 0, 1) := by decide +kernel
theorem dX6_work_1 : decode cX6_work 1 = .ok (.getfield 29, 3) := by decide +kernel
theorem dX6_work_4 : decode cX6_work 4 = .ok (.invokevirtual 115, 3) := by decide +kernel
theorem dX6_work_7 : decode cX6_work 7 = .ok (.istore_n 1, 1) := by decide +kernel
theorem dX6_work_8 : decode cX6_work 8 = .ok (.iload_n 1, 1) := by decide +kernel
theorem dX6_work_9 : decode cX6_work 9 = .ok (.iconst (-1), 1) := by decide +kernel
theorem dX6_work_10 : decode cX6_work 10 = .ok (.if_icmp .eq 8, 3) := by decide +kernel
theorem dX6_work_13 : decode cX6_work 13 = .ok (.bipush (-100), 2) := by decide +kernel
theorem dX6_work_15 : decode cX6_work 15 = .ok (.iload_n 1, 1) := by decide +kernel
theorem dX6_work_16 : decode cX6_work 16 = .ok (.isub, 1) := by decide +kernel
theorem dX6_work_17 : decode cX6_work 17 = .ok (.ireturn, 1) := by decide +kernel
theorem dX6_work_18 : decode cX6_work 18 = .ok (.aload_n 0, 1) := by decide +kernel
theorem dX6_work_19 : decode cX6_work 19 = .ok (.getfield 12, 3) := by decide +kernel
theorem dX6_work_22 : decode cX6_work 22 = .ok (.aload_n 0, 1) := by decide +kernel
theorem dX6_work_23 : decode cX6_work 23 = .ok (.getfield 29, 3) := by decide +kernel
theorem dX6_work_26 : decode cX6_work 26 = .ok (.getfield 118, 3) := by decide +kernel
theorem dX6_work_29 : decode cX6_work 29 = .ok (.invokevirtual 76, 3) := by decide +kernel
theorem dX6_work_32 : decode cX6_work 32 = .ok (.astore_n 2, 1) := by decide +kernel
theorem dX6_work_33 : decode cX6_work 33 = .ok (.aload_n 0, 1) := by decide +kernel
theorem dX6_work_34 : decode cX6_work 34 = .ok (.getfield 12, 3) := by decide +kernel
theorem dX6_work_37 : decode cX6_work 37 = .ok (.aload_n 0, 1) := by decide +kernel
theorem dX6_work_38 : decode cX6_work 38 = .ok (.getfield 29, 3) := by decide +kernel
theorem dX6_work_41 : decode cX6_work 41 = .ok (.getfield 121, 3) := by decide +kernel
theorem dX6_work_44 : decode cX6_work 44 = .ok (.invokevirtual 76, 3) := by decide +kernel
theorem dX6_work_47 : decode cX6_work 47 = .ok (.astore_n 3, 1) := by decide +kernel
theorem dX6_work_48 : decode cX6_work 48 = .ok (.iconst 0, 1) := by decide +kernel
theorem dX6_work_49 : decode cX6_work 49 = .ok (.istore 4, 2) := by decide +kernel
theorem dX6_work_51 : decode cX6_work 51 = .ok (.iload 4, 2) := by decide +kernel
theorem dX6_work_53 : decode cX6_work 53 = .ok (.bipush 8, 2) := by decide +kernel
theorem dX6_work_55 : decode cX6_work 55 = .ok (.if_icmp .ge 62, 3) := by decide +kernel
theorem dX6_work_58 : decode cX6_work 58 = .ok (.iconst 0, 1) := by decide +kernel
theorem dX6_work_59 : decode cX6_work 59 = .ok (.istore 5, 2) := by decide +kernel
theorem dX6_work_61 : decode cX6_work 61 = .ok (.iload 5, 2) := by decide +kernel
theorem dX6_work_63 : decode cX6_work 63 = .ok (.bipush 8, 2) := by decide +kernel
theorem dX6_work_65 : decode cX6_work 65 = .ok (.if_icmp .ge 46, 3) := by decide +kernel
theorem dX6_work_68 : decode cX6_work 68 = .ok (.aload_n 0, 1) := by decide +kernel
theorem dX6_work_69 : decode cX6_work 69 = .ok (.aload_n 2, 1) := by decide +kernel
theorem dX6_work_70 : decode cX6_work 70 = .ok (.aload_n 3, 1) := by decide +kernel
theorem dX6_work_71 : decode cX6_work 71 = .ok (.iload 4, 2) := by decide +kernel
theorem dX6_work_73 : decode cX6_work 73 = .ok (.iload 5, 2) := by decide +kernel
theorem dX6_work_75 : decode cX6_work 75 = .ok (.invokevirtual 124, 3) := by decide +kernel
theorem dX6_work_78 : decode cX6_work 78 = .ok (.istore 6, 2) := by decide +kernel
theorem dX6_work_80 : decode cX6_work 80 = .ok (.aload_n 0, 1) := by decide +kernel
theorem dX6_work_81 : decode cX6_work 81 = .ok (.getfield 51, 3) := by decide +kernel
theorem dX6_work_84 : decode cX6_work 84 = .ok (.iload 4, 2) := by decide +kernel
theorem dX6_work_86 : decode cX6_work 86 = .ok (.bipush 8, 2) := by decide +kernel
theorem dX6_work_88 : decode cX6_work 88 = .ok (.imul, 1) := by decide +kernel
theorem dX6_work_89 : decode cX6_work 89 = .ok (.iload 5, 2) := by decide +kernel
theorem dX6_work_91 : decode cX6_work 91 = .ok (.iadd, 1) := by decide +kernel
theorem dX6_work_92 : decode cX6_work 92 = .ok (.iload 6, 2) := by decide +kernel
theorem dX6_work_94 : decode cX6_work 94 = .ok (.aload_n 0, 1) := by decide +kernel
theorem dX6_work_95 : decode cX6_work 95 = .ok (.getfield 12, 3) := by decide +kernel
theorem dX6_work_98 : decode cX6_work 98 = .ok (.getfield 58, 3) := by decide +kernel
theorem dX6_work_101 : decode cX6_work 101 = .ok (.invokestatic 128, 3) := by decide +kernel
theorem dX6_work_104 : decode cX6_work 104 = .ok (.iastore, 1) := by decide +kernel
theorem dX6_work_105 : decode cX6_work 105 = .ok (.iinc 5 1, 3) := by decide +kernel
theorem dX6_work_108 : decode cX6_work 108 = .ok (.goto (-47), 3) := by decide +kernel
theorem dX6_work_111 : decode cX6_work 111 = .ok (.iinc 4 1, 3) := by decide +kernel
theorem dX6_work_114 : decode cX6_work 114 = .ok (.goto (-63), 3) := by decide +kernel
theorem dX6_work_117 : decode cX6_work 117 = .ok (.aload_n 0, 1) := by decide +kernel
theorem dX6_work_118 : decode cX6_work 118 = .ok (.getfield 22, 3) := by decide +kernel
theorem dX6_work_121 : decode cX6_work 121 = .ok (.aload_n 0, 1) := by decide +kernel
theorem dX6_work_122 : decode cX6_work 122 = .ok (.getfield 12, 3) := by decide +kernel
theorem dX6_work_125 : decode cX6_work 125 = .ok (.invokevirtual 62, 3) := by decide +kernel
theorem dX6_work_128 : decode cX6_work 128 = .ok (.aload_n 0, 1) := by decide +kernel
theorem dX6_work_129 : decode cX6_work 129 = .ok (.getfield 12, 3) := by decide +kernel
theorem dX6_work_132 : decode cX6_work 132 = .ok (.aload_n 0, 1) := by decide +kernel
theorem dX6_work_133 : decode cX6_work 133 = .ok (.getfield 29, 3) := by decide +kernel
theorem dX6_work_136 : decode cX6_work 136 = .ok (.getfield 131, 3) := by decide +kernel
theorem dX6_work_139 : decode cX6_work 139 = .ok (.invokevirtual 76, 3) := by decide +kernel
theorem dX6_work_142 : decode cX6_work 142 = .ok (.aload_n 0, 1) := by decide +kernel
theorem dX6_work_143 : decode cX6_work 143 = .ok (.getfield 51, 3) := by decide +kernel
theorem dX6_work_146 : decode cX6_work 146 = .ok (.invokevirtual 134, 3) := by decide +kernel
theorem dX6_work_149 : decode cX6_work 149 = .ok (.aload_n 0, 1) := by decide +kernel
theorem dX6_work_150 : decode cX6_work 150 = .ok (.getfield 29, 3) := by decide +kernel
theorem dX6_work_153 : decode cX6_work 153 = .ok (.getfield 131, 3) := by decide +kernel
theorem dX6_work_156 : decode cX6_work 156 = .ok (.ireturn, 1) := by decide +kernel
theorem dX7_cellOf_0 : decode cX7_cellOf 0 = .ok (.aload_n 0, 1) := by decide +kernel
theorem dX7_cellOf_1 : decode cX7_cellOf 1 = .ok (.getfield 7, 3) := by decide +kernel
theorem dX7_cellOf_4 : decode cX7_cellOf 4 = .ok (.iload_n 1, 1) := by decide +kernel
theorem dX7_cellOf_5 : decode cX7_cellOf 5 = .ok (.iload_n 2, 1) := by decide +kernel
theorem dX7_cellOf_6 : decode cX7_cellOf 6 = .ok (.iload_n 3, 1) := by decide +kernel
theorem dX7_cellOf_7 : decode cX7_cellOf 7 = .ok (.invokestatic 68, 3) := by decide +kernel
theorem dX7_cellOf_10 : decode cX7_cellOf 10 = .ok (.iaload, 1) := by decide +kernel
theorem dX7_cellOf_11 : decode cX7_cellOf 11 = .ok (.ireturn, 1) := by decide +kernel
theorem dX7_worked_0 : decode cX7_worked 0 = .ok (.iload_n 2, 1) := by decide +kernel
theorem dX7_worked_1 : decode cX7_worked 1 = .ok (.bipush 43, 2) := by decide +kernel
theorem dX7_worked_3 : decode cX7_worked 3 = .ok (.if_icmp .ne 27, 3) := by decide +kernel
theorem dX7_worked_6 : decode cX7_worked 6 = .ok (.aload_n 0, 1) := by decide +kernel
theorem dX7_worked_7 : decode cX7_worked 7 = .ok (.aload_n 0, 1) := by decide +kernel
theorem dX7_worked_8 : decode cX7_worked 8 = .ok (.iload_n 1, 1) := by decide +kernel
theorem dX7_worked_9 : decode cX7_worked 9 = .ok (.iload 4, 2) := by decide +kernel
theorem dX7_worked_11 : decode cX7_worked 11 = .ok (.iload 5, 2) := by decide +kernel
theorem dX7_worked_13 : decode cX7_worked 13 = .ok (.invokevirtual 139, 3) := by decide +kernel
theorem dX7_worked_16 : decode cX7_worked 16 = .ok (.aload_n 0, 1) := by decide +kernel
theorem dX7_worked_17 : decode cX7_worked 17 = .ok (.iload_n 3, 1) := by decide +kernel
theorem dX7_worked_18 : decode cX7_worked 18 = .ok (.iload 4, 2) := by decide +kernel
theorem dX7_worked_20 : decode cX7_worked 20 = .ok (.iload 5, 2) := by decide +kernel
theorem dX7_worked_22 : decode cX7_worked 22 = .ok (.invokevirtual 139, 3) := by decide +kernel
theorem dX7_worked_25 : decode cX7_worked 25 = .ok (.iadd, 1) := by decide +kernel
theorem dX7_worked_26 : decode cX7_worked 26 = .ok (.invokevirtual 54, 3) := by decide +kernel
theorem dX7_worked_29 : decode cX7_worked 29 = .ok (.ireturn, 1) := by decide +kernel
theorem dX7_worked_30 : decode cX7_worked 30 = .ok (.iload_n 2, 1) := by decide +kernel
theorem dX7_worked_31 : decode cX7_worked 31 = .ok (.bipush 45, 2) := by decide +kernel
theorem dX7_worked_33 : decode cX7_worked 33 = .ok (.if_icmp .ne 27, 3) := by decide +kernel
theorem dX7_worked_36 : decode cX7_worked 36 = .ok (.aload_n 0, 1) := by decide +kernel
theorem dX7_worked_37 : decode cX7_worked 37 = .ok (.aload_n 0, 1) := by decide +kernel
theorem dX7_worked_38 : decode cX7_worked 38 = .ok (.iload_n 1, 1) := by decide +kernel
theorem dX7_worked_39 : decode cX7_worked 39 = .ok (.iload 4, 2) := by decide +kernel
theorem dX7_worked_41 : decode cX7_worked 41 = .ok (.iload 5, 2) := by decide +kernel
theorem dX7_worked_43 : decode cX7_worked 43 = .ok (.invokevirtual 139, 3) := by decide +kernel
theorem dX7_worked_46 : decode cX7_worked 46 = .ok (.aload_n 0, 1) := by decide +kernel
theorem dX7_worked_47 : decode cX7_worked 47 = .ok (.iload_n 3, 1) := by decide +kernel
theorem dX7_worked_48 : decode cX7_worked 48 = .ok (.iload 4, 2) := by decide +kernel
theorem dX7_worked_50 : decode cX7_worked 50 = .ok (.iload 5, 2) := by decide +kernel
theorem dX7_worked_52 : decode cX7_worked 52 = .ok (.invokevirtual 139, 3) := by decide +kernel
theorem dX7_worked_55 : decode cX7_worked 55 = .ok (.isub, 1) := by decide +kernel
theorem dX7_worked_56 : decode cX7_worked 56 = .ok (.invokevirtual 54, 3) := by decide +kernel
theorem dX7_worked_59 : decode cX7_worked 59 = .ok (.ireturn, 1) := by decide +kernel
theorem dX7_worked_60 : decode cX7_worked 60 = .ok (.iload_n 2, 1) := by decide +kernel
theorem dX7_worked_61 : decode cX7_worked 61 = .ok (.bipush 42, 2) := by decide +kernel
theorem dX7_worked_63 : decode cX7_worked 63 = .ok (.if_icmp .ne 53, 3) := by decide +kernel
theorem dX7_worked_66 : decode cX7_worked 66 = .ok (.iconst 0, 1) := by decide +kernel
theorem dX7_worked_67 : decode cX7_worked 67 = .ok (.istore 6, 2) := by decide +kernel
theorem dX7_worked_69 : decode cX7_worked 69 = .ok (.iconst 0, 1) := by decide +kernel
theorem dX7_worked_70 : decode cX7_worked 70 = .ok (.istore 7, 2) := by decide +kernel
theorem dX7_worked_72 : decode cX7_worked 72 = .ok (.iload 7, 2) := by decide +kernel
theorem dX7_worked_74 : decode cX7_worked 74 = .ok (.bipush 8, 2) := by decide +kernel
theorem dX7_worked_76 : decode cX7_worked 76 = .ok (.if_icmp .ge 33, 3) := by decide +kernel
theorem dX7_worked_79 : decode cX7_worked 79 = .ok (.iload 6, 2) := by decide +kernel
theorem dX7_worked_81 : decode cX7_worked 81 = .ok (.aload_n 0, 1) := by decide +kernel
theorem dX7_worked_82 : decode cX7_worked 82 = .ok (.iload_n 1, 1) := by decide +kernel
theorem dX7_worked_83 : decode cX7_worked 83 = .ok (.iload 4, 2) := by decide +kernel
theorem dX7_worked_85 : decode cX7_worked 85 = .ok (.iload 7, 2) := by decide +kernel
theorem dX7_worked_87 : decode cX7_worked 87 = .ok (.invokevirtual 139, 3) := by decide +kernel
theorem dX7_worked_90 : decode cX7_worked 90 = .ok (.aload_n 0, 1) := by decide +kernel
theorem dX7_worked_91 : decode cX7_worked 91 = .ok (.iload_n 3, 1) := by decide +kernel
theorem dX7_worked_92 : decode cX7_worked 92 = .ok (.iload 7, 2) := by decide +kernel
theorem dX7_worked_94 : decode cX7_worked 94 = .ok (.iload 5, 2) := by decide +kernel
theorem dX7_worked_96 : decode cX7_worked 96 = .ok (.invokevirtual 139, 3) := by decide +kernel
theorem dX7_worked_99 : decode cX7_worked 99 = .ok (.imul, 1) := by decide +kernel
theorem dX7_worked_100 : decode cX7_worked 100 = .ok (.iadd, 1) := by decide +kernel
theorem dX7_worked_101 : decode cX7_worked 101 = .ok (.istore 6, 2) := by decide +kernel
theorem dX7_worked_103 : decode cX7_worked 103 = .ok (.iinc 7 1, 3) := by decide +kernel
theorem dX7_worked_106 : decode cX7_worked 106 = .ok (.goto (-34), 3) := by decide +kernel
theorem dX7_worked_109 : decode cX7_worked 109 = .ok (.aload_n 0, 1) := by decide +kernel
theorem dX7_worked_110 : decode cX7_worked 110 = .ok (.iload 6, 2) := by decide +kernel
theorem dX7_worked_112 : decode cX7_worked 112 = .ok (.invokevirtual 54, 3) := by decide +kernel
theorem dX7_worked_115 : decode cX7_worked 115 = .ok (.ireturn, 1) := by decide +kernel
theorem dX7_worked_116 : decode cX7_worked 116 = .ok (.iload_n 2, 1) := by decide +kernel
theorem dX7_worked_117 : decode cX7_worked 117 = .ok (.ifCond .ne 15, 3) := by decide +kernel
theorem dX7_worked_120 : decode cX7_worked 120 = .ok (.aload_n 0, 1) := by decide +kernel
theorem dX7_worked_121 : decode cX7_worked 121 = .ok (.iload_n 1, 1) := by decide +kernel
theorem dX7_worked_122 : decode cX7_worked 122 = .ok (.iload 4, 2) := by decide +kernel
theorem dX7_worked_124 : decode cX7_worked 124 = .ok (.iload 5, 2) := by decide +kernel
theorem dX7_worked_126 : decode cX7_worked 126 = .ok (.invokevirtual 139, 3) := by decide +kernel
theorem dX7_worked_129 : decode cX7_worked 129 = .ok (.goto 12, 3) := by decide +kernel
theorem dX7_worked_132 : decode cX7_worked 132 = .ok (.aload_n 0, 1) := by decide +kernel
theorem dX7_worked_133 : decode cX7_worked 133 = .ok (.iload_n 1, 1) := by decide +kernel
theorem dX7_worked_134 : decode cX7_worked 134 = .ok (.iload 5, 2) := by decide +kernel
theorem dX7_worked_136 : decode cX7_worked 136 = .ok (.iload 4, 2) := by decide +kernel
theorem dX7_worked_138 : decode cX7_worked 138 = .ok (.invokevirtual 139, 3) := by decide +kernel
theorem dX7_worked_141 : decode cX7_worked 141 = .ok (.ireturn, 1) := by decide +kernel
theorem dX7_lay_0 : decode cX7_lay 0 = .ok (.iconst 0, 1) := by decide +kernel
theorem dX7_lay_1 : decode cX7_lay 1 = .ok (.istore_n 2, 1) := by decide +kernel
theorem dX7_lay_2 : decode cX7_lay 2 = .ok (.iload_n 2, 1) := by decide +kernel
theorem dX7_lay_3 : decode cX7_lay 3 = .ok (.bipush 64, 2) := by decide +kernel
theorem dX7_lay_5 : decode cX7_lay 5 = .ok (.if_icmp .ge 28, 3) := by decide +kernel
theorem dX7_lay_8 : decode cX7_lay 8 = .ok (.aload_n 0, 1) := by decide +kernel
theorem dX7_lay_9 : decode cX7_lay 9 = .ok (.getfield 7, 3) := by decide +kernel
theorem dX7_lay_12 : decode cX7_lay 12 = .ok (.iconst 1, 1) := by decide +kernel
theorem dX7_lay_13 : decode cX7_lay 13 = .ok (.bipush 64, 2) := by decide +kernel
theorem dX7_lay_15 : decode cX7_lay 15 = .ok (.iload_n 1, 1) := by decide +kernel
theorem dX7_lay_16 : decode cX7_lay 16 = .ok (.imul, 1) := by decide +kernel
theorem dX7_lay_17 : decode cX7_lay 17 = .ok (.iadd, 1) := by decide +kernel
theorem dX7_lay_18 : decode cX7_lay 18 = .ok (.iload_n 2, 1) := by decide +kernel
theorem dX7_lay_19 : decode cX7_lay 19 = .ok (.iadd, 1) := by decide +kernel
theorem dX7_lay_20 : decode cX7_lay 20 = .ok (.aload_n 0, 1) := by decide +kernel
theorem dX7_lay_21 : decode cX7_lay 21 = .ok (.getfield 29, 3) := by decide +kernel
theorem dX7_lay_24 : decode cX7_lay 24 = .ok (.iload_n 2, 1) := by decide +kernel
theorem dX7_lay_25 : decode cX7_lay 25 = .ok (.iaload, 1) := by decide +kernel
theorem dX7_lay_26 : decode cX7_lay 26 = .ok (.iastore, 1) := by decide +kernel
theorem dX7_lay_27 : decode cX7_lay 27 = .ok (.iinc 2 1, 3) := by decide +kernel
theorem dX7_lay_30 : decode cX7_lay 30 = .ok (.goto (-28), 3) := by decide +kernel
theorem dX7_lay_33 : decode cX7_lay 33 = .ok (.return_, 1) := by decide +kernel
theorem dX7_work_0 : decode cX7_work 0 = .ok (.aload_n 0, 1) := by decide +kernel
theorem dX7_work_1 : decode cX7_work 1 = .ok (.iconst 0, 1) := by decide +kernel
theorem dX7_work_2 : decode cX7_work 2 = .ok (.putfield 115, 3) := by decide +kernel
theorem dX7_work_5 : decode cX7_work 5 = .ok (.aload_n 0, 1) := by decide +kernel
theorem dX7_work_6 : decode cX7_work 6 = .ok (.bipush 65, 2) := by decide +kernel
theorem dX7_work_8 : decode cX7_work 8 = .ok (.bipush 68, 2) := by decide +kernel
theorem dX7_work_10 : decode cX7_work 10 = .ok (.invokevirtual 118, 3) := by decide +kernel
theorem dX7_work_13 : decode cX7_work 13 = .ok (.ifCond .eq 18, 3) := by decide +kernel
theorem dX7_work_16 : decode cX7_work 16 = .ok (.aload_n 0, 1) := by decide +kernel
theorem dX7_work_17 : decode cX7_work 17 = .ok (.getfield 19, 3) := by decide +kernel
theorem dX7_work_20 : decode cX7_work 20 = .ok (.aload_n 0, 1) := by decide +kernel
theorem dX7_work_21 : decode cX7_work 21 = .ok (.getfield 115, 3) := by decide +kernel
theorem dX7_work_24 : decode cX7_work 24 = .ok (.caload, 1) := by decide +kernel
theorem dX7_work_25 : decode cX7_work 25 = .ok (.bipush 65, 2) := by decide +kernel
theorem dX7_work_27 : decode cX7_work 27 = .ok (.isub, 1) := by decide +kernel
theorem dX7_work_28 : decode cX7_work 28 = .ok (.goto 5, 3) := by decide +kernel
theorem dX7_work_31 : decode cX7_work 31 = .ok (.bipush (-5), 2) := by decide +kernel
theorem dX7_work_33 : decode cX7_work 33 = .ok (.istore_n 1, 1) := by decide +kernel
theorem dX7_work_34 : decode cX7_work 34 = .ok (.aload_n 0, 1) := by decide +kernel
theorem dX7_work_35 : decode cX7_work 35 = .ok (.dup, 1) := by decide +kernel
theorem dX7_work_36 : decode cX7_work 36 = .ok (.getfield 115, 3) := by decide +kernel
theorem dX7_work_39 : decode cX7_work 39 = .ok (.iload_n 1, 1) := by decide +kernel
theorem dX7_work_40 : decode cX7_work 40 = .ok (.ifCond .ge 7, 3) := by decide +kernel
theorem dX7_work_43 : decode cX7_work 43 = .ok (.iconst 0, 1) := by decide +kernel
theorem dX7_work_44 : decode cX7_work 44 = .ok (.goto 4, 3) := by decide +kernel
theorem dX7_work_47 : decode cX7_work 47 = .ok (.iconst 1, 1) := by decide +kernel
theorem dX7_work_48 : decode cX7_work 48 = .ok (.iadd, 1) := by decide +kernel
theorem dX7_work_49 : decode cX7_work 49 = .ok (.putfield 115, 3) := by decide +kernel
theorem dX7_work_52 : decode cX7_work 52 = .ok (.iload_n 1, 1) := by decide +kernel
theorem dX7_work_53 : decode cX7_work 53 = .ok (.ifCond .lt 23, 3) := by decide +kernel
theorem dX7_work_56 : decode cX7_work 56 = .ok (.aload_n 0, 1) := by decide +kernel
theorem dX7_work_57 : decode cX7_work 57 = .ok (.bipush 61, 2) := by decide +kernel
theorem dX7_work_59 : decode cX7_work 59 = .ok (.invokevirtual 121, 3) := by decide +kernel
theorem dX7_work_62 : decode cX7_work 62 = .ok (.ifCond .eq 14, 3) := by decide +kernel
theorem dX7_work_65 : decode cX7_work 65 = .ok (.aload_n 0, 1) := by decide +kernel
theorem dX7_work_66 : decode cX7_work 66 = .ok (.bipush 65, 2) := by decide +kernel
theorem dX7_work_68 : decode cX7_work 68 = .ok (.bipush 68, 2) := by decide +kernel
theorem dX7_work_70 : decode cX7_work 70 = .ok (.invokevirtual 118, 3) := by decide +kernel
theorem dX7_work_73 : decode cX7_work 73 = .ok (.ifCond .ne 11, 3) := by decide +kernel
theorem dX7_work_76 : decode cX7_work 76 = .ok (.bipush (-100), 2) := by decide +kernel
theorem dX7_work_78 : decode cX7_work 78 = .ok (.aload_n 0, 1) := by decide +kernel
theorem dX7_work_79 : decode cX7_work 79 = .ok (.getfield 115, 3) := by decide +kernel
theorem dX7_work_82 : decode cX7_work 82 = .ok (.isub, 1) := by decide +kernel
theorem dX7_work_83 : decode cX7_work 83 = .ok (.ireturn, 1) := by decide +kernel
theorem dX7_work_84 : decode cX7_work 84 = .ok (.aload_n 0, 1) := by decide +kernel
theorem dX7_work_85 : decode cX7_work 85 = .ok (.getfield 19, 3) := by decide +kernel
theorem dX7_work_88 : decode cX7_work 88 = .ok (.aload_n 0, 1) := by decide +kernel
theorem dX7_work_89 : decode cX7_work 89 = .ok (.getfield 115, 3) := by decide +kernel
theorem dX7_work_92 : decode cX7_work 92 = .ok (.caload, 1) := by decide +kernel
theorem dX7_work_93 : decode cX7_work 93 = .ok (.bipush 65, 2) := by decide +kernel
theorem dX7_work_95 : decode cX7_work 95 = .ok (.isub, 1) := by decide +kernel
theorem dX7_work_96 : decode cX7_work 96 = .ok (.istore_n 2, 1) := by decide +kernel
theorem dX7_work_97 : decode cX7_work 97 = .ok (.aload_n 0, 1) := by decide +kernel
theorem dX7_work_98 : decode cX7_work 98 = .ok (.dup, 1) := by decide +kernel
theorem dX7_work_99 : decode cX7_work 99 = .ok (.getfield 115, 3) := by decide +kernel
theorem dX7_work_102 : decode cX7_work 102 = .ok (.iconst 1, 1) := by decide +kernel
theorem dX7_work_103 : decode cX7_work 103 = .ok (.iadd, 1) := by decide +kernel
theorem dX7_work_104 : decode cX7_work 104 = .ok (.putfield 115, 3) := by decide +kernel
theorem dX7_work_107 : decode cX7_work 107 = .ok (.iconst 0, 1) := by decide +kernel
theorem dX7_work_108 : decode cX7_work 108 = .ok (.istore_n 3, 1) := by decide +kernel
theorem dX7_work_109 : decode cX7_work 109 = .ok (.iconst 0, 1) := by decide +kernel
theorem dX7_work_110 : decode cX7_work 110 = .ok (.istore 4, 2) := by decide +kernel
theorem dX7_work_112 : decode cX7_work 112 = .ok (.aload_n 0, 1) := by decide +kernel
theorem dX7_work_113 : decode cX7_work 113 = .ok (.bipush 43, 2) := by decide +kernel
theorem dX7_work_115 : decode cX7_work 115 = .ok (.bipush 43, 2) := by decide +kernel
theorem dX7_work_117 : decode cX7_work 117 = .ok (.invokevirtual 118, 3) := by decide +kernel
theorem dX7_work_120 : decode cX7_work 120 = .ok (.ifCond .ne 25, 3) := by decide +kernel
theorem dX7_work_123 : decode cX7_work 123 = .ok (.aload_n 0, 1) := by decide +kernel
theorem dX7_work_124 : decode cX7_work 124 = .ok (.bipush 45, 2) := by decide +kernel
theorem dX7_work_126 : decode cX7_work 126 = .ok (.bipush 45, 2) := by decide +kernel
theorem dX7_work_128 : decode cX7_work 128 = .ok (.invokevirtual 118, 3) := by decide +kernel
theorem dX7_work_131 : decode cX7_work 131 = .ok (.ifCond .ne 14, 3) := by decide +kernel
theorem dX7_work_134 : decode cX7_work 134 = .ok (.aload_n 0, 1) := by decide +kernel
theorem dX7_work_135 : decode cX7_work 135 = .ok (.bipush 42, 2) := by decide +kernel
theorem dX7_work_137 : decode cX7_work 137 = .ok (.bipush 42, 2) := by decide +kernel
theorem dX7_work_139 : decode cX7_work 139 = .ok (.invokevirtual 118, 3) := by decide +kernel
theorem dX7_work_142 : decode cX7_work 142 = .ok (.ifCond .eq 69, 3) := by decide +kernel
theorem dX7_work_145 : decode cX7_work 145 = .ok (.aload_n 0, 1) := by decide +kernel
theorem dX7_work_146 : decode cX7_work 146 = .ok (.getfield 19, 3) := by decide +kernel
theorem dX7_work_149 : decode cX7_work 149 = .ok (.aload_n 0, 1) := by decide +kernel
theorem dX7_work_150 : decode cX7_work 150 = .ok (.getfield 115, 3) := by decide +kernel
theorem dX7_work_153 : decode cX7_work 153 = .ok (.caload, 1) := by decide +kernel
theorem dX7_work_154 : decode cX7_work 154 = .ok (.istore_n 3, 1) := by decide +kernel
theorem dX7_work_155 : decode cX7_work 155 = .ok (.aload_n 0, 1) := by decide +kernel
theorem dX7_work_156 : decode cX7_work 156 = .ok (.dup, 1) := by decide +kernel
theorem dX7_work_157 : decode cX7_work 157 = .ok (.getfield 115, 3) := by decide +kernel
theorem dX7_work_160 : decode cX7_work 160 = .ok (.iconst 1, 1) := by decide +kernel
theorem dX7_work_161 : decode cX7_work 161 = .ok (.iadd, 1) := by decide +kernel
theorem dX7_work_162 : decode cX7_work 162 = .ok (.putfield 115, 3) := by decide +kernel
theorem dX7_work_165 : decode cX7_work 165 = .ok (.aload_n 0, 1) := by decide +kernel
theorem dX7_work_166 : decode cX7_work 166 = .ok (.bipush 65, 2) := by decide +kernel
theorem dX7_work_168 : decode cX7_work 168 = .ok (.bipush 68, 2) := by decide +kernel
theorem dX7_work_170 : decode cX7_work 170 = .ok (.invokevirtual 118, 3) := by decide +kernel
theorem dX7_work_173 : decode cX7_work 173 = .ok (.ifCond .ne 11, 3) := by decide +kernel
theorem dX7_work_176 : decode cX7_work 176 = .ok (.bipush (-100), 2) := by decide +kernel
theorem dX7_work_178 : decode cX7_work 178 = .ok (.aload_n 0, 1) := by decide +kernel
theorem dX7_work_179 : decode cX7_work 179 = .ok (.getfield 115, 3) := by decide +kernel
theorem dX7_work_182 : decode cX7_work 182 = .ok (.isub, 1) := by decide +kernel
theorem dX7_work_183 : decode cX7_work 183 = .ok (.ireturn, 1) := by decide +kernel
theorem dX7_work_184 : decode cX7_work 184 = .ok (.aload_n 0, 1) := by decide +kernel
theorem dX7_work_185 : decode cX7_work 185 = .ok (.getfield 19, 3) := by decide +kernel
theorem dX7_work_188 : decode cX7_work 188 = .ok (.aload_n 0, 1) := by decide +kernel
theorem dX7_work_189 : decode cX7_work 189 = .ok (.getfield 115, 3) := by decide +kernel
theorem dX7_work_192 : decode cX7_work 192 = .ok (.caload, 1) := by decide +kernel
theorem dX7_work_193 : decode cX7_work 193 = .ok (.bipush 65, 2) := by decide +kernel
theorem dX7_work_195 : decode cX7_work 195 = .ok (.isub, 1) := by decide +kernel
theorem dX7_work_196 : decode cX7_work 196 = .ok (.istore 4, 2) := by decide +kernel
theorem dX7_work_198 : decode cX7_work 198 = .ok (.aload_n 0, 1) := by decide +kernel
theorem dX7_work_199 : decode cX7_work 199 = .ok (.dup, 1) := by decide +kernel
theorem dX7_work_200 : decode cX7_work 200 = .ok (.getfield 115, 3) := by decide +kernel
theorem dX7_work_203 : decode cX7_work 203 = .ok (.iconst 1, 1) := by decide +kernel
theorem dX7_work_204 : decode cX7_work 204 = .ok (.iadd, 1) := by decide +kernel
theorem dX7_work_205 : decode cX7_work 205 = .ok (.putfield 115, 3) := by decide +kernel
theorem dX7_work_208 : decode cX7_work 208 = .ok (.goto 15, 3) := by decide +kernel
theorem dX7_work_211 : decode cX7_work 211 = .ok (.aload_n 0, 1) := by decide +kernel
theorem dX7_work_212 : decode cX7_work 212 = .ok (.bipush 39, 2) := by decide +kernel
theorem dX7_work_214 : decode cX7_work 214 = .ok (.invokevirtual 121, 3) := by decide +kernel
theorem dX7_work_217 : decode cX7_work 217 = .ok (.ifCond .eq 6, 3) := by decide +kernel
theorem dX7_work_220 : decode cX7_work 220 = .ok (.bipush 39, 2) := by decide +kernel
theorem dX7_work_222 : decode cX7_work 222 = .ok (.istore_n 3, 1) := by decide +kernel
theorem dX7_work_223 : decode cX7_work 223 = .ok (.aload_n 0, 1) := by decide +kernel
theorem dX7_work_224 : decode cX7_work 224 = .ok (.getfield 115, 3) := by decide +kernel
theorem dX7_work_227 : decode cX7_work 227 = .ok (.aload_n 0, 1) := by decide +kernel
theorem dX7_work_228 : decode cX7_work 228 = .ok (.getfield 112, 3) := by decide +kernel
theorem dX7_work_231 : decode cX7_work 231 = .ok (.if_icmp .ge 11, 3) := by decide +kernel
theorem dX7_work_234 : decode cX7_work 234 = .ok (.bipush (-100), 2) := by decide +kernel
theorem dX7_work_236 : decode cX7_work 236 = .ok (.aload_n 0, 1) := by decide +kernel
theorem dX7_work_237 : decode cX7_work 237 = .ok (.getfield 115, 3) := by decide +kernel
theorem dX7_work_240 : decode cX7_work 240 = .ok (.isub, 1) := by decide +kernel
theorem dX7_work_241 : decode cX7_work 241 = .ok (.ireturn, 1) := by decide +kernel
theorem dX7_work_242 : decode cX7_work 242 = .ok (.aload_n 0, 1) := by decide +kernel
theorem dX7_work_243 : decode cX7_work 243 = .ok (.invokevirtual 47, 3) := by decide +kernel
theorem dX7_work_246 : decode cX7_work 246 = .ok (.iconst 0, 1) := by decide +kernel
theorem dX7_work_247 : decode cX7_work 247 = .ok (.istore 5, 2) := by decide +kernel
theorem dX7_work_249 : decode cX7_work 249 = .ok (.iload 5, 2) := by decide +kernel
theorem dX7_work_251 : decode cX7_work 251 = .ok (.bipush 64, 2) := by decide +kernel
theorem dX7_work_253 : decode cX7_work 253 = .ok (.if_icmp .ge 34, 3) := by decide +kernel
theorem dX7_work_256 : decode cX7_work 256 = .ok (.aload_n 0, 1) := by decide +kernel
theorem dX7_work_257 : decode cX7_work 257 = .ok (.getfield 29, 3) := by decide +kernel
theorem dX7_work_260 : decode cX7_work 260 = .ok (.iload 5, 2) := by decide +kernel
theorem dX7_work_262 : decode cX7_work 262 = .ok (.aload_n 0, 1) := by decide +kernel
theorem dX7_work_263 : decode cX7_work 263 = .ok (.iload_n 2, 1) := by decide +kernel
theorem dX7_work_264 : decode cX7_work 264 = .ok (.iload_n 3, 1) := by decide +kernel
theorem dX7_work_265 : decode cX7_work 265 = .ok (.iload 4, 2) := by decide +kernel
theorem dX7_work_267 : decode cX7_work 267 = .ok (.iload 5, 2) := by decide +kernel
theorem dX7_work_269 : decode cX7_work 269 = .ok (.bipush 8, 2) := by decide +kernel
theorem dX7_work_271 : decode cX7_work 271 = .ok (.idiv, 1) := by decide +kernel
theorem dX7_work_272 : decode cX7_work 272 = .ok (.iload 5, 2) := by decide +kernel
theorem dX7_work_274 : decode cX7_work 274 = .ok (.bipush 8, 2) := by decide +kernel
theorem dX7_work_276 : decode cX7_work 276 = .ok (.irem, 1) := by decide +kernel
theorem dX7_work_277 : decode cX7_work 277 = .ok (.invokevirtual 142, 3) := by decide +kernel
theorem dX7_work_280 : decode cX7_work 280 = .ok (.iastore, 1) := by decide +kernel
theorem dX7_work_281 : decode cX7_work 281 = .ok (.iinc 5 1, 3) := by decide +kernel
theorem dX7_work_284 : decode cX7_work 284 = .ok (.goto (-35), 3) := by decide +kernel
theorem dX7_work_287 : decode cX7_work 287 = .ok (.aload_n 0, 1) := by decide +kernel
theorem dX7_work_288 : decode cX7_work 288 = .ok (.iload_n 1, 1) := by decide +kernel
theorem dX7_work_289 : decode cX7_work 289 = .ok (.invokevirtual 146, 3) := by decide +kernel
theorem dX7_work_292 : decode cX7_work 292 = .ok (.iload_n 1, 1) := by decide +kernel
theorem dX7_work_293 : decode cX7_work 293 = .ok (.ireturn, 1) := by decide +kernel
theorem dX0_decompose_0 : decode cX0_decompose 0 = .ok (.aload_n 0, 1) := by decide +kernel
theorem dX0_decompose_1 : decode cX0_decompose 1 = .ok (.iconst 1, 1) := by decide +kernel
theorem dX0_decompose_2 : decode cX0_decompose 2 = .ok (.putfield 49, 3) := by decide +kernel
theorem dX0_decompose_5 : decode cX0_decompose 5 = .ok (.iconst 0, 1) := by decide +kernel
theorem dX0_decompose_6 : decode cX0_decompose 6 = .ok (.istore_n 1, 1) := by decide +kernel
theorem dX0_decompose_7 : decode cX0_decompose 7 = .ok (.iload_n 1, 1) := by decide +kernel
theorem dX0_decompose_8 : decode cX0_decompose 8 = .ok (.aload_n 0, 1) := by decide +kernel
theorem dX0_decompose_9 : decode cX0_decompose 9 = .ok (.getfield 29, 3) := by decide +kernel
theorem dX0_decompose_12 : decode cX0_decompose 12 = .ok (.if_icmp .ge 131, 3) := by decide +kernel
theorem dX0_decompose_15 : decode cX0_decompose 15 = .ok (.aload_n 0, 1) := by decide +kernel
theorem dX0_decompose_16 : decode cX0_decompose 16 = .ok (.getfield 11, 3) := by decide +kernel
theorem dX0_decompose_19 : decode cX0_decompose 19 = .ok (.iload_n 1, 1) := by decide +kernel
theorem dX0_decompose_20 : decode cX0_decompose 20 = .ok (.aaload, 1) := by decide +kernel
theorem dX0_decompose_21 : decode cX0_decompose 21 = .ok (.iload_n 1, 1) := by decide +kernel
theorem dX0_decompose_22 : decode cX0_decompose 22 = .ok (.iaload, 1) := by decide +kernel
theorem dX0_decompose_23 : decode cX0_decompose 23 = .ok (.istore_n 2, 1) := by decide +kernel
theorem dX0_decompose_24 : decode cX0_decompose 24 = .ok (.aload_n 0, 1) := by decide +kernel
theorem dX0_decompose_25 : decode cX0_decompose 25 = .ok (.aload_n 0, 1) := by decide +kernel
theorem dX0_decompose_26 : decode cX0_decompose 26 = .ok (.getfield 49, 3) := by decide +kernel
theorem dX0_decompose_29 : decode cX0_decompose 29 = .ok (.iload_n 2, 1) := by decide +kernel
theorem dX0_decompose_30 : decode cX0_decompose 30 = .ok (.imul, 1) := by decide +kernel
theorem dX0_decompose_31 : decode cX0_decompose 31 = .ok (.aload_n 0, 1) := by decide +kernel
theorem dX0_decompose_32 : decode cX0_decompose 32 = .ok (.getfield 16, 3) := by decide +kernel
theorem dX0_decompose_35 : decode cX0_decompose 35 = .ok (.invokestatic 67, 3) := by decide +kernel
theorem dX0_decompose_38 : decode cX0_decompose 38 = .ok (.putfield 49, 3) := by decide +kernel
theorem dX0_decompose_41 : decode cX0_decompose 41 = .ok (.iload_n 2, 1) := by decide +kernel
theorem dX0_decompose_42 : decode cX0_decompose 42 = .ok (.ifCond .ne 15, 3) := by decide +kernel
theorem dX0_decompose_45 : decode cX0_decompose 45 = .ok (.iload_n 1, 1) := by decide +kernel
theorem dX0_decompose_46 : decode cX0_decompose 46 = .ok (.aload_n 0, 1) := by decide +kernel
theorem dX0_decompose_47 : decode cX0_decompose 47 = .ok (.getfield 29, 3) := by decide +kernel
theorem dX0_decompose_50 : decode cX0_decompose 50 = .ok (.iconst 1, 1) := by decide +kernel
theorem dX0_decompose_51 : decode cX0_decompose 51 = .ok (.isub, 1) := by decide +kernel
theorem dX0_decompose_52 : decode cX0_decompose 52 = .ok (.if_icmp .ge 5, 3) := by decide +kernel
theorem dX0_decompose_55 : decode cX0_decompose 55 = .ok (.iconst 0, 1) := by decide +kernel
theorem dX0_decompose_56 : decode cX0_decompose 56 = .ok (.ireturn, 1) := by decide +kernel
theorem dX0_decompose_57 : decode cX0_decompose 57 = .ok (.iload_n 2, 1) := by decide +kernel
theorem dX0_decompose_58 : decode cX0_decompose 58 = .ok (.aload_n 0, 1) := by decide +kernel
theorem dX0_decompose_59 : decode cX0_decompose 59 = .ok (.getfield 16, 3) := by decide +kernel
theorem dX0_decompose_62 : decode cX0_decompose 62 = .ok (.invokestatic 70, 3) := by decide +kernel
theorem dX0_decompose_65 : decode cX0_decompose 65 = .ok (.istore_n 3, 1) := by decide +kernel
theorem dX0_decompose_66 : decode cX0_decompose 66 = .ok (.iload_n 1, 1) := by decide +kernel
theorem dX0_decompose_67 : decode cX0_decompose 67 = .ok (.iconst 1, 1) := by decide +kernel
theorem dX0_decompose_68 : decode cX0_decompose 68 = .ok (.iadd, 1) := by decide +kernel
theorem dX0_decompose_69 : decode cX0_decompose 69 = .ok (.istore 4, 2) := by decide +kernel
theorem dX0_decompose_71 : decode cX0_decompose 71 = .ok (.iload 4, 2) := by decide +kernel
theorem dX0_decompose_73 : decode cX0_decompose 73 = .ok (.aload_n 0, 1) := by decide +kernel
theorem dX0_decompose_74 : decode cX0_decompose 74 = .ok (.getfield 29, 3) := by decide +kernel
theorem dX0_decompose_77 : decode cX0_decompose 77 = .ok (.if_icmp .ge 60, 3) := by decide +kernel
theorem dX0_decompose_80 : decode cX0_decompose 80 = .ok (.aload_n 0, 1) := by decide +kernel
theorem dX0_decompose_81 : decode cX0_decompose 81 = .ok (.getfield 11, 3) := by decide +kernel
theorem dX0_decompose_84 : decode cX0_decompose 84 = .ok (.iload 4, 2) := by decide +kernel
theorem dX0_decompose_86 : decode cX0_decompose 86 = .ok (.aaload, 1) := by decide +kernel
theorem dX0_decompose_87 : decode cX0_decompose 87 = .ok (.iload_n 1, 1) := by decide +kernel
theorem dX0_decompose_88 : decode cX0_decompose 88 = .ok (.iaload, 1) := by decide +kernel
theorem dX0_decompose_89 : decode cX0_decompose 89 = .ok (.iload_n 3, 1) := by decide +kernel
theorem dX0_decompose_90 : decode cX0_decompose 90 = .ok (.imul, 1) := by decide +kernel
theorem dX0_decompose_91 : decode cX0_decompose 91 = .ok (.aload_n 0, 1) := by decide +kernel
theorem dX0_decompose_92 : decode cX0_decompose 92 = .ok (.getfield 16, 3) := by decide +kernel
theorem dX0_decompose_95 : decode cX0_decompose 95 = .ok (.invokestatic 67, 3) := by decide +kernel
theorem dX0_decompose_98 : decode cX0_decompose 98 = .ok (.istore 5, 2) := by decide +kernel
theorem dX0_decompose_100 : decode cX0_decompose 100 = .ok (.aload_n 0, 1) := by decide +kernel
theorem dX0_decompose_101 : decode cX0_decompose 101 = .ok (.aload_n 0, 1) := by decide +kernel
theorem dX0_decompose_102 : decode cX0_decompose 102 = .ok (.getfield 11, 3) := by decide +kernel
theorem dX0_decompose_105 : decode cX0_decompose 105 = .ok (.iload 4, 2) := by decide +kernel
theorem dX0_decompose_107 : decode cX0_decompose 107 = .ok (.aaload, 1) := by decide +kernel
theorem dX0_decompose_108 : decode cX0_decompose 108 = .ok (.aload_n 0, 1) := by decide +kernel
theorem dX0_decompose_109 : decode cX0_decompose 109 = .ok (.getfield 11, 3) := by decide +kernel
theorem dX0_decompose_112 : decode cX0_decompose 112 = .ok (.iload_n 1, 1) := by decide +kernel
theorem dX0_decompose_113 : decode cX0_decompose 113 = .ok (.aaload, 1) := by decide +kernel
theorem dX0_decompose_114 : decode cX0_decompose 114 = .ok (.iload 5, 2) := by decide +kernel
theorem dX0_decompose_116 : decode cX0_decompose 116 = .ok (.iload_n 1, 1) := by decide +kernel
theorem dX0_decompose_117 : decode cX0_decompose 117 = .ok (.invokevirtual 73, 3) := by decide +kernel
theorem dX0_decompose_120 : decode cX0_decompose 120 = .ok (.aload_n 0, 1) := by decide +kernel
theorem dX0_decompose_121 : decode cX0_decompose 121 = .ok (.getfield 11, 3) := by decide +kernel
theorem dX0_decompose_124 : decode cX0_decompose 124 = .ok (.iload 4, 2) := by decide +kernel
theorem dX0_decompose_126 : decode cX0_decompose 126 = .ok (.aaload, 1) := by decide +kernel
theorem dX0_decompose_127 : decode cX0_decompose 127 = .ok (.iload_n 1, 1) := by decide +kernel
theorem dX0_decompose_128 : decode cX0_decompose 128 = .ok (.iload 5, 2) := by decide +kernel
theorem dX0_decompose_130 : decode cX0_decompose 130 = .ok (.iastore, 1) := by decide +kernel
theorem dX0_decompose_131 : decode cX0_decompose 131 = .ok (.iinc 4 1, 3) := by decide +kernel
theorem dX0_decompose_134 : decode cX0_decompose 134 = .ok (.goto (-63), 3) := by decide +kernel
theorem dX0_decompose_137 : decode cX0_decompose 137 = .ok (.iinc 1 1, 3) := by decide +kernel
theorem dX0_decompose_140 : decode cX0_decompose 140 = .ok (.goto (-133), 3) := by decide +kernel
theorem dX0_decompose_143 : decode cX0_decompose 143 = .ok (.iconst 1, 1) := by decide +kernel
theorem dX0_decompose_144 : decode cX0_decompose 144 = .ok (.ireturn, 1) := by decide +kernel
theorem dX0_lowerFactorAt_0 : decode cX0_lowerFactorAt 0 = .ok (.iload_n 1, 1) := by decide +kernel
theorem dX0_lowerFactorAt_1 : decode cX0_lowerFactorAt 1 = .ok (.iload_n 2, 1) := by decide +kernel
theorem dX0_lowerFactorAt_2 : decode cX0_lowerFactorAt 2 = .ok (.if_icmp .ne 5, 3) := by decide +kernel
theorem dX0_lowerFactorAt_5 : decode cX0_lowerFactorAt 5 = .ok (.iconst 1, 1) := by decide +kernel
theorem dX0_lowerFactorAt_6 : decode cX0_lowerFactorAt 6 = .ok (.ireturn, 1) := by decide +kernel
theorem dX0_lowerFactorAt_7 : decode cX0_lowerFactorAt 7 = .ok (.iload_n 1, 1) := by decide +kernel
theorem dX0_lowerFactorAt_8 : decode cX0_lowerFactorAt 8 = .ok (.invokestatic 63, 3) := by decide +kernel
theorem dX0_lowerFactorAt_11 : decode cX0_lowerFactorAt 11 = .ok (.ifCond .eq 23, 3) := by decide +kernel
theorem dX0_lowerFactorAt_14 : decode cX0_lowerFactorAt 14 = .ok (.iload_n 2, 1) := by decide +kernel
theorem dX0_lowerFactorAt_15 : decode cX0_lowerFactorAt 15 = .ok (.ifCond .lt 19, 3) := by decide +kernel
theorem dX0_lowerFactorAt_18 : decode cX0_lowerFactorAt 18 = .ok (.iload_n 2, 1) := by decide +kernel
theorem dX0_lowerFactorAt_19 : decode cX0_lowerFactorAt 19 = .ok (.iload_n 1, 1) := by decide +kernel
theorem dX0_lowerFactorAt_20 : decode cX0_lowerFactorAt 20 = .ok (.if_icmp .ge 14, 3) := by decide +kernel
theorem dX0_lowerFactorAt_23 : decode cX0_lowerFactorAt 23 = .ok (.aload_n 0, 1) := by decide +kernel
theorem dX0_lowerFactorAt_24 : decode cX0_lowerFactorAt 24 = .ok (.getfield 11, 3) := by decide +kernel
theorem dX0_lowerFactorAt_27 : decode cX0_lowerFactorAt 27 = .ok (.iload_n 1, 1) := by decide +kernel
theorem dX0_lowerFactorAt_28 : decode cX0_lowerFactorAt 28 = .ok (.aaload, 1) := by decide +kernel
theorem dX0_lowerFactorAt_29 : decode cX0_lowerFactorAt 29 = .ok (.iload_n 2, 1) := by decide +kernel
theorem dX0_lowerFactorAt_30 : decode cX0_lowerFactorAt 30 = .ok (.iaload, 1) := by decide +kernel
theorem dX0_lowerFactorAt_31 : decode cX0_lowerFactorAt 31 = .ok (.goto 4, 3) := by decide +kernel
theorem dX0_lowerFactorAt_34 : decode cX0_lowerFactorAt 34 = .ok (.iconst 0, 1) := by decide +kernel
theorem dX0_lowerFactorAt_35 : decode cX0_lowerFactorAt 35 = .ok (.ireturn, 1) := by decide +kernel
theorem dX0_upperFactorAt_0 : decode cX0_upperFactorAt 0 = .ok (.iload_n 2, 1) := by decide +kernel
theorem dX0_upperFactorAt_1 : decode cX0_upperFactorAt 1 = .ok (.invokestatic 63, 3) := by decide +kernel
theorem dX0_upperFactorAt_4 : decode cX0_upperFactorAt 4 = .ok (.ifCond .eq 23, 3) := by decide +kernel
theorem dX0_upperFactorAt_7 : decode cX0_upperFactorAt 7 = .ok (.iload_n 1, 1) := by decide +kernel
theorem dX0_upperFactorAt_8 : decode cX0_upperFactorAt 8 = .ok (.ifCond .lt 19, 3) := by decide +kernel
theorem dX0_upperFactorAt_11 : decode cX0_upperFactorAt 11 = .ok (.iload_n 1, 1) := by decide +kernel
theorem dX0_upperFactorAt_12 : decode cX0_upperFactorAt 12 = .ok (.iload_n 2, 1) := by decide +kernel
theorem dX0_upperFactorAt_13 : decode cX0_upperFactorAt 13 = .ok (.if_icmp .gt 14, 3) := by decide +kernel
theorem dX0_upperFactorAt_16 : decode cX0_upperFactorAt 16 = .ok (.aload_n 0, 1) := by decide +kernel
theorem dX0_upperFactorAt_17 : decode cX0_upperFactorAt 17 = .ok (.getfield 11, 3) := by decide +kernel
theorem dX0_upperFactorAt_20 : decode cX0_upperFactorAt 20 = .ok (.iload_n 1, 1) := by decide +kernel
theorem dX0_upperFactorAt_21 : decode cX0_upperFactorAt 21 = .ok (.aaload, 1) := by decide +kernel
theorem dX0_upperFactorAt_22 : decode cX0_upperFactorAt 22 = .ok (.iload_n 2, 1) := by decide +kernel
theorem dX0_upperFactorAt_23 : decode cX0_upperFactorAt 23 = .ok (.iaload, 1) := by decide +kernel
theorem dX0_upperFactorAt_24 : decode cX0_upperFactorAt 24 = .ok (.goto 4, 3) := by decide +kernel
theorem dX0_upperFactorAt_27 : decode cX0_upperFactorAt 27 = .ok (.iconst 0, 1) := by decide +kernel
theorem dX0_upperFactorAt_28 : decode cX0_upperFactorAt 28 = .ok (.ireturn, 1) := by decide +kernel
theorem dX6_putFactors_0 : decode cX6_putFactors 0 = .ok (.iconst 0, 1) := by decide +kernel
theorem dX6_putFactors_1 : decode cX6_putFactors 1 = .ok (.istore_n 3, 1) := by decide +kernel
theorem dX6_putFactors_2 : decode cX6_putFactors 2 = .ok (.iload_n 3, 1) := by decide +kernel
theorem dX6_putFactors_3 : decode cX6_putFactors 3 = .ok (.bipush 8, 2) := by decide +kernel
theorem dX6_putFactors_5 : decode cX6_putFactors 5 = .ok (.if_icmp .ge 59, 3) := by decide +kernel
theorem dX6_putFactors_8 : decode cX6_putFactors 8 = .ok (.iconst 0, 1) := by decide +kernel
theorem dX6_putFactors_9 : decode cX6_putFactors 9 = .ok (.istore 4, 2) := by decide +kernel
theorem dX6_putFactors_11 : decode cX6_putFactors 11 = .ok (.iload 4, 2) := by decide +kernel
theorem dX6_putFactors_13 : decode cX6_putFactors 13 = .ok (.bipush 8, 2) := by decide +kernel
theorem dX6_putFactors_15 : decode cX6_putFactors 15 = .ok (.if_icmp .ge 43, 3) := by decide +kernel
theorem dX6_putFactors_18 : decode cX6_putFactors 18 = .ok (.aload_n 1, 1) := by decide +kernel
theorem dX6_putFactors_19 : decode cX6_putFactors 19 = .ok (.iload_n 3, 1) := by decide +kernel
theorem dX6_putFactors_20 : decode cX6_putFactors 20 = .ok (.iload 4, 2) := by decide +kernel
theorem dX6_putFactors_22 : decode cX6_putFactors 22 = .ok (.aload_n 0, 1) := by decide +kernel
theorem dX6_putFactors_23 : decode cX6_putFactors 23 = .ok (.getfield 36, 3) := by decide +kernel
theorem dX6_putFactors_26 : decode cX6_putFactors 26 = .ok (.iload_n 3, 1) := by decide +kernel
theorem dX6_putFactors_27 : decode cX6_putFactors 27 = .ok (.iload 4, 2) := by decide +kernel
theorem dX6_putFactors_29 : decode cX6_putFactors 29 = .ok (.invokevirtual 263, 3) := by decide +kernel
theorem dX6_putFactors_32 : decode cX6_putFactors 32 = .ok (.invokevirtual 86, 3) := by decide +kernel
theorem dX6_putFactors_35 : decode cX6_putFactors 35 = .ok (.aload_n 2, 1) := by decide +kernel
theorem dX6_putFactors_36 : decode cX6_putFactors 36 = .ok (.iload_n 3, 1) := by decide +kernel
theorem dX6_putFactors_37 : decode cX6_putFactors 37 = .ok (.iload 4, 2) := by decide +kernel
theorem dX6_putFactors_39 : decode cX6_putFactors 39 = .ok (.aload_n 0, 1) := by decide +kernel
theorem dX6_putFactors_40 : decode cX6_putFactors 40 = .ok (.getfield 36, 3) := by decide +kernel
theorem dX6_putFactors_43 : decode cX6_putFactors 43 = .ok (.iload_n 3, 1) := by decide +kernel
theorem dX6_putFactors_44 : decode cX6_putFactors 44 = .ok (.iload 4, 2) := by decide +kernel
theorem dX6_putFactors_46 : decode cX6_putFactors 46 = .ok (.invokevirtual 266, 3) := by decide +kernel
theorem dX6_putFactors_49 : decode cX6_putFactors 49 = .ok (.invokevirtual 86, 3) := by decide +kernel
theorem dX6_putFactors_52 : decode cX6_putFactors 52 = .ok (.iinc 4 1, 3) := by decide +kernel
theorem dX6_putFactors_55 : decode cX6_putFactors 55 = .ok (.goto (-44), 3) := by decide +kernel
theorem dX6_putFactors_58 : decode cX6_putFactors 58 = .ok (.iinc 3 1, 3) := by decide +kernel
theorem dX6_putFactors_61 : decode cX6_putFactors 61 = .ok (.goto (-59), 3) := by decide +kernel

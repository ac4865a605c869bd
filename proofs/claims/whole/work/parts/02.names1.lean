/-! decode rows, copied from claim/NAMES.whole.lean.txt -/
theorem dX5_init_0 : decode cX5_init 0 = .ok (.aload_n 0, 1) := by decide +kernel
theorem dX5_init_1 : decode cX5_init 1 = .ok (.invokespecial 3, 3) := by decide +kernel
theorem dX5_init_4 : decode cX5_init 4 = .ok (.aload_n 0, 1) := by decide +kernel
theorem dX5_init_5 : decode cX5_init 5 = .ok (.bipush 64, 2) := by decide +kernel
theorem dX5_init_7 : decode cX5_init 7 = .ok (.newarray .int, 2) := by decide +kernel
theorem dX5_init_9 : decode cX5_init 9 = .ok (.putfield 9, 3) := by decide +kernel
theorem dX5_init_12 : decode cX5_init 12 = .ok (.aload_n 0, 1) := by decide +kernel
theorem dX5_init_13 : decode cX5_init 13 = .ok (.getfield 9, 3) := by decide +kernel
theorem dX5_init_16 : decode cX5_init 16 = .ok (.iconst 0, 1) := by decide +kernel
theorem dX5_init_17 : decode cX5_init 17 = .ok (.bipush 8, 2) := by decide +kernel
theorem dX5_init_19 : decode cX5_init 19 = .ok (.iastore, 1) := by decide +kernel
theorem dX5_init_20 : decode cX5_init 20 = .ok (.return_, 1) := by decide +kernel
theorem dX3_init_0 : decode cX3_init 0 = .ok (.aload_n 0, 1) := by decide +kernel
theorem dX3_init_1 : decode cX3_init 1 = .ok (.invokespecial 3, 3) := by decide +kernel
theorem dX3_init_4 : decode cX3_init 4 = .ok (.aload_n 0, 1) := by decide +kernel
theorem dX3_init_5 : decode cX3_init 5 = .ok (.bipush 64, 2) := by decide +kernel
theorem dX3_init_7 : decode cX3_init 7 = .ok (.newarray .int, 2) := by decide +kernel
theorem dX3_init_9 : decode cX3_init 9 = .ok (.putfield 9, 3) := by decide +kernel
theorem dX3_init_12 : decode cX3_init 12 = .ok (.aload_n 0, 1) := by decide +kernel
theorem dX3_init_13 : decode cX3_init 13 = .ok (.new 15, 3) := by decide +kernel
theorem dX3_init_16 : decode cX3_init 16 = .ok (.dup, 1) := by decide +kernel
theorem dX3_init_17 : decode cX3_init 17 = .ok (.invokespecial 17, 3) := by decide +kernel
theorem dX3_init_20 : decode cX3_init 20 = .ok (.putfield 18, 3) := by decide +kernel
theorem dX3_init_23 : decode cX3_init 23 = .ok (.return_, 1) := by decide +kernel
theorem dX2_init_0 : decode cX2_init 0 = .ok (.aload_n 0, 1) := by decide +kernel
theorem dX2_init_1 : decode cX2_init 1 = .ok (.invokespecial 3, 3) := by decide +kernel
theorem dX2_init_4 : decode cX2_init 4 = .ok (.aload_n 0, 1) := by decide +kernel
theorem dX2_init_5 : decode cX2_init 5 = .ok (.bipush 101, 2) := by decide +kernel
theorem dX2_init_7 : decode cX2_init 7 = .ok (.putfield 9, 3) := by decide +kernel
theorem dX2_init_10 : decode cX2_init 10 = .ok (.aload_n 0, 1) := by decide +kernel
theorem dX2_init_11 : decode cX2_init 11 = .ok (.iconst 4, 1) := by decide +kernel
theorem dX2_init_12 : decode cX2_init 12 = .ok (.anewarray 15, 3) := by decide +kernel
theorem dX2_init_15 : decode cX2_init 15 = .ok (.dup, 1) := by decide +kernel
theorem dX2_init_16 : decode cX2_init 16 = .ok (.iconst 0, 1) := by decide +kernel
theorem dX2_init_17 : decode cX2_init 17 = .ok (.new 15, 3) := by decide +kernel
theorem dX2_init_20 : decode cX2_init 20 = .ok (.dup, 1) := by decide +kernel
theorem dX2_init_21 : decode cX2_init 21 = .ok (.invokespecial 17, 3) := by decide +kernel
theorem dX2_init_24 : decode cX2_init 24 = .ok (.aastore, 1) := by decide +kernel
theorem dX2_init_25 : decode cX2_init 25 = .ok (.dup, 1) := by decide +kernel
theorem dX2_init_26 : decode cX2_init 26 = .ok (.iconst 1, 1) := by decide +kernel
theorem dX2_init_27 : decode cX2_init 27 = .ok (.new 15, 3) := by decide +kernel
theorem dX2_init_30 : decode cX2_init 30 = .ok (.dup, 1) := by decide +kernel
theorem dX2_init_31 : decode cX2_init 31 = .ok (.invokespecial 17, 3) := by decide +kernel
theorem dX2_init_34 : decode cX2_init 34 = .ok (.aastore, 1) := by decide +kernel
theorem dX2_init_35 : decode cX2_init 35 = .ok (.dup, 1) := by decide +kernel
theorem dX2_init_36 : decode cX2_init 36 = .ok (.iconst 2, 1) := by decide +kernel
theorem dX2_init_37 : decode cX2_init 37 = .ok (.new 15, 3) := by decide +kernel
theorem dX2_init_40 : decode cX2_init 40 = .ok (.dup, 1) := by decide +kernel
theorem dX2_init_41 : decode cX2_init 41 = .ok (.invokespecial 17, 3) := by decide +kernel
theorem dX2_init_44 : decode cX2_init 44 = .ok (.aastore, 1) := by decide +kernel
theorem dX2_init_45 : decode cX2_init 45 = .ok (.dup, 1) := by decide +kernel
theorem dX2_init_46 : decode cX2_init 46 = .ok (.iconst 3, 1) := by decide +kernel
theorem dX2_init_47 : decode cX2_init 47 = .ok (.new 15, 3) := by decide +kernel
theorem dX2_init_50 : decode cX2_init 50 = .ok (.dup, 1) := by decide +kernel
theorem dX2_init_51 : decode cX2_init 51 = .ok (.invokespecial 17, 3) := by decide +kernel
theorem dX2_init_54 : decode cX2_init 54 = .ok (.aastore, 1) := by decide +kernel
theorem dX2_init_55 : decode cX2_init 55 = .ok (.putfield 18, 3) := by decide +kernel
theorem dX2_init_58 : decode cX2_init 58 = .ok (.return_, 1) := by decide +kernel
theorem dX1_init_0 : decode cX1_init 0 = .ok (.aload_n 0, 1) := by decide +kernel
theorem dX1_init_1 : decode cX1_init 1 = .ok (.invokespecial 3, 3) := by decide +kernel
theorem dX1_init_4 : decode cX1_init 4 = .ok (.aload_n 0, 1) := by decide +kernel
theorem dX1_init_5 : decode cX1_init 5 = .ok (.iconst 4, 1) := by decide +kernel
theorem dX1_init_6 : decode cX1_init 6 = .ok (.anewarray 9, 3) := by decide +kernel
theorem dX1_init_9 : decode cX1_init 9 = .ok (.dup, 1) := by decide +kernel
theorem dX1_init_10 : decode cX1_init 10 = .ok (.iconst 0, 1) := by decide +kernel
theorem dX1_init_11 : decode cX1_init 11 = .ok (.new 9, 3) := by decide +kernel
theorem dX1_init_14 : decode cX1_init 14 = .ok (.dup, 1) := by decide +kernel
theorem dX1_init_15 : decode cX1_init 15 = .ok (.invokespecial 11, 3) := by decide +kernel
theorem dX1_init_18 : decode cX1_init 18 = .ok (.aastore, 1) := by decide +kernel
theorem dX1_init_19 : decode cX1_init 19 = .ok (.dup, 1) := by decide +kernel
theorem dX1_init_20 : decode cX1_init 20 = .ok (.iconst 1, 1) := by decide +kernel
theorem dX1_init_21 : decode cX1_init 21 = .ok (.new 9, 3) := by decide +kernel
theorem dX1_init_24 : decode cX1_init 24 = .ok (.dup, 1) := by decide +kernel
theorem dX1_init_25 : decode cX1_init 25 = .ok (.invokespecial 11, 3) := by decide +kernel
theorem dX1_init_28 : decode cX1_init 28 = .ok (.aastore, 1) := by decide +kernel
theorem dX1_init_29 : decode cX1_init 29 = .ok (.dup, 1) := by decide +kernel
theorem dX1_init_30 : decode cX1_init 30 = .ok (.iconst 2, 1) := by decide +kernel
theorem dX1_init_31 : decode cX1_init 31 = .ok (.new 9, 3) := by decide +kernel
theorem dX1_init_34 : decode cX1_init 34 = .ok (.dup, 1) := by decide +kernel
theorem dX1_init_35 : decode cX1_init 35 = .ok (.invokespecial 11, 3) := by decide +kernel
theorem dX1_init_38 : decode cX1_init 38 = .ok (.aastore, 1) := by decide +kernel
theorem dX1_init_39 : decode cX1_init 39 = .ok (.dup, 1) := by decide +kernel
theorem dX1_init_40 : decode cX1_init 40 = .ok (.iconst 3, 1) := by decide +kernel
theorem dX1_init_41 : decode cX1_init 41 = .ok (.new 9, 3) := by decide +kernel
theorem dX1_init_44 : decode cX1_init 44 = .ok (.dup, 1) := by decide +kernel
theorem dX1_init_45 : decode cX1_init 45 = .ok (.invokespecial 11, 3) := by decide +kernel
theorem dX1_init_48 : decode cX1_init 48 = .ok (.aastore, 1) := by decide +kernel
theorem dX1_init_49 : decode cX1_init 49 = .ok (.putfield 12, 3) := by decide +kernel
theorem dX1_init_52 : decode cX1_init 52 = .ok (.return_, 1) := by decide +kernel
theorem dX4_init_0 : decode cX4_init 0 = .ok (.aload_n 0, 1) := by decide +kernel
theorem dX4_init_1 : decode cX4_init 1 = .ok (.invokespecial 3, 3) := by decide +kernel
theorem dX4_init_4 : decode cX4_init 4 = .ok (.aload_n 0, 1) := by decide +kernel
theorem dX4_init_5 : decode cX4_init 5 = .ok (.bipush 60, 2) := by decide +kernel
theorem dX4_init_7 : decode cX4_init 7 = .ok (.newarray .int, 2) := by decide +kernel
theorem dX4_init_9 : decode cX4_init 9 = .ok (.putfield 9, 3) := by decide +kernel
theorem dX4_init_12 : decode cX4_init 12 = .ok (.aload_n 0, 1) := by decide +kernel
theorem dX4_init_13 : decode cX4_init 13 = .ok (.bipush 16, 2) := by decide +kernel
theorem dX4_init_15 : decode cX4_init 15 = .ok (.newarray .int, 2) := by decide +kernel
theorem dX4_init_17 : decode cX4_init 17 = .ok (.putfield 15, 3) := by decide +kernel
theorem dX4_init_20 : decode cX4_init 20 = .ok (.aload_n 0, 1) := by decide +kernel
theorem dX4_init_21 : decode cX4_init 21 = .ok (.iconst (-1), 1) := by decide +kernel
theorem dX4_init_22 : decode cX4_init 22 = .ok (.putfield 18, 3) := by decide +kernel
theorem dX4_init_25 : decode cX4_init 25 = .ok (.return_, 1) := by decide +kernel
theorem dX0_init_0 : decode cX0_init 0 = .ok (.aload_n 0, 1) := by decide +kernel
theorem dX0_init_1 : decode cX0_init 1 = .ok (.invokespecial 3, 3) := by decide +kernel
theorem dX0_init_4 : decode cX0_init 4 = .ok (.aload_n 0, 1) := by decide +kernel
theorem dX0_init_5 : decode cX0_init 5 = .ok (.bipush 8, 2) := by decide +kernel
theorem dX0_init_7 : decode cX0_init 7 = .ok (.bipush 9, 2) := by decide +kernel
theorem dX0_init_9 : decode cX0_init 9 = .ok (.multianewarray 9 2, 4) := by decide +kernel
theorem dX0_init_13 : decode cX0_init 13 = .ok (.putfield 11, 3) := by decide +kernel
theorem dX0_init_16 : decode cX0_init 16 = .ok (.aload_n 0, 1) := by decide +kernel
theorem dX0_init_17 : decode cX0_init 17 = .ok (.bipush 101, 2) := by decide +kernel
theorem dX0_init_19 : decode cX0_init 19 = .ok (.putfield 16, 3) := by decide +kernel
theorem dX0_init_22 : decode cX0_init 22 = .ok (.return_, 1) := by decide +kernel
theorem dX6_init_0 : decode cX6_init 0 = .ok (.aload_n 0, 1) := by decide +kernel
theorem dX6_init_1 : decode cX6_init 1 = .ok (.invokespecial 3, 3) := by decide +kernel
theorem dX6_init_4 : decode cX6_init 4 = .ok (.aload_n 0, 1) := by decide +kernel
theorem dX6_init_5 : decode cX6_init 5 = .ok (.new 9, 3) := by decide +kernel
theorem dX6_init_8 : decode cX6_init 8 = .ok (.dup, 1) := by decide +kernel
theorem dX6_init_9 : decode cX6_init 9 = .ok (.invokespecial 11, 3) := by decide +kernel
theorem dX6_init_12 : decode cX6_init 12 = .ok (.putfield 12, 3) := by decide +kernel
theorem dX6_init_15 : decode cX6_init 15 = .ok (.aload_n 0, 1) := by decide +kernel
theorem dX6_init_16 : decode cX6_init 16 = .ok (.new 9, 3) := by decide +kernel
theorem dX6_init_19 : decode cX6_init 19 = .ok (.dup, 1) := by decide +kernel
theorem dX6_init_20 : decode cX6_init 20 = .ok (.invokespecial 11, 3) := by decide +kernel
theorem dX6_init_23 : decode cX6_init 23 = .ok (.putfield 16, 3) := by decide +kernel
theorem dX6_init_26 : decode cX6_init 26 = .ok (.aload_n 0, 1) := by decide +kernel
theorem dX6_init_27 : decode cX6_init 27 = .ok (.new 19, 3) := by decide +kernel
theorem dX6_init_30 : decode cX6_init 30 = .ok (.dup, 1) := by decide +kernel
theorem dX6_init_31 : decode cX6_init 31 = .ok (.invokespecial 21, 3) := by decide +kernel
theorem dX6_init_34 : decode cX6_init 34 = .ok (.putfield 22, 3) := by decide +kernel
theorem dX6_init_37 : decode cX6_init 37 = .ok (.aload_n 0, 1) := by decide +kernel
theorem dX6_init_38 : decode cX6_init 38 = .ok (.new 26, 3) := by decide +kernel
theorem dX6_init_41 : decode cX6_init 41 = .ok (.dup, 1) := by decide +kernel
theorem dX6_init_42 : decode cX6_init 42 = .ok (.invokespecial 28, 3) := by decide +kernel
theorem dX6_init_45 : decode cX6_init 45 = .ok (.putfield 29, 3) := by decide +kernel
theorem dX6_init_48 : decode cX6_init 48 = .ok (.aload_n 0, 1) := by decide +kernel
theorem dX6_init_49 : decode cX6_init 49 = .ok (.new 33, 3) := by decide +kernel
theorem dX6_init_52 : decode cX6_init 52 = .ok (.dup, 1) := by decide +kernel
theorem dX6_init_53 : decode cX6_init 53 = .ok (.invokespecial 35, 3) := by decide +kernel
theorem dX6_init_56 : decode cX6_init 56 = .ok (.putfield 36, 3) := by decide +kernel
theorem dX6_init_59 : decode cX6_init 59 = .ok (.aload_n 0, 1) := by decide +kernel
theorem dX6_init_60 : decode cX6_init 60 = .ok (.new 40, 3) := by decide +kernel
theorem dX6_init_63 : decode cX6_init 63 = .ok (.dup, 1) := by decide +kernel
theorem dX6_init_64 : decode cX6_init 64 = .ok (.invokespecial 42, 3) := by decide +kernel
theorem dX6_init_67 : decode cX6_init 67 = .ok (.putfield 43, 3) := by decide +kernel
theorem dX6_init_70 : decode cX6_init 70 = .ok (.aload_n 0, 1) := by decide +kernel
theorem dX6_init_71 : decode cX6_init 71 = .ok (.bipush 64, 2) := by decide +kernel
theorem dX6_init_73 : decode cX6_init 73 = .ok (.newarray .int, 2) := by decide +kernel
theorem dX6_init_75 : decode cX6_init 75 = .ok (.putfield 47, 3) := by decide +kernel
theorem dX6_init_78 : decode cX6_init 78 = .ok (.aload_n 0, 1) := by decide +kernel
theorem dX6_init_79 : decode cX6_init 79 = .ok (.bipush 64, 2) := by decide +kernel
theorem dX6_init_81 : decode cX6_init 81 = .ok (.newarray .int, 2) := by decide +kernel
theorem dX6_init_83 : decode cX6_init 83 = .ok (.putfield 51, 3) := by decide +kernel
theorem dX6_init_86 : decode cX6_init 86 = .ok (.return_, 1) := by decide +kernel
theorem dX7_init_0 : decode cX7_init 0 = .ok (.aload_n 0, 1) := by decide +kernel
theorem dX7_init_1 : decode cX7_init 1 = .ok (.invokespecial 1, 3) := by decide +kernel
theorem dX7_init_4 : decode cX7_init 4 = .ok (.aload_n 0, 1) := by decide +kernel
theorem dX7_init_5 : decode cX7_init 5 = .ok (.sipush 341, 3) := by decide +kernel
theorem dX7_init_8 : decode cX7_init 8 = .ok (.newarray .int, 2) := by decide +kernel
theorem dX7_init_10 : decode cX7_init 10 = .ok (.putfield 7, 3) := by decide +kernel
theorem dX7_init_13 : decode cX7_init 13 = .ok (.aload_n 0, 1) := by decide +kernel
theorem dX7_init_14 : decode cX7_init 14 = .ok (.sipush 1364, 3) := by decide +kernel
theorem dX7_init_17 : decode cX7_init 17 = .ok (.newarray .int, 2) := by decide +kernel
theorem dX7_init_19 : decode cX7_init 19 = .ok (.putfield 13, 3) := by decide +kernel
theorem dX7_init_22 : decode cX7_init 22 = .ok (.aload_n 0, 1) := by decide +kernel
theorem dX7_init_23 : decode cX7_init 23 = .ok (.sipush 341, 3) := by decide +kernel
theorem dX7_init_26 : decode cX7_init 26 = .ok (.newarray .int, 2) := by decide +kernel
theorem dX7_init_28 : decode cX7_init 28 = .ok (.putfield 16, 3) := by decide +kernel
theorem dX7_init_31 : decode cX7_init 31 = .ok (.aload_n 0, 1) := by decide +kernel
theorem dX7_init_32 : decode cX7_init 32 = .ok (.bipush 60, 2) := by decide +kernel
theorem dX7_init_34 : decode cX7_init 34 = .ok (.newarray .char, 2) := by decide +kernel
theorem dX7_init_36 : decode cX7_init 36 = .ok (.putfield 19, 3) := by decide +kernel
theorem dX7_init_39 : decode cX7_init 39 = .ok (.aload_n 0, 1) := by decide +kernel
theorem dX7_init_40 : decode cX7_init 40 = .ok (.bipush 16, 2) := by decide +kernel
theorem dX7_init_42 : decode cX7_init 42 = .ok (.newarray .int, 2) := by decide +kernel
theorem dX7_init_44 : decode cX7_init 44 = .ok (.putfield 23, 3) := by decide +kernel
theorem dX7_init_47 : decode cX7_init 47 = .ok (.aload_n 0, 1) := by decide +kernel
theorem dX7_init_48 : decode cX7_init 48 = .ok (.bipush 72, 2) := by decide +kernel
theorem dX7_init_50 : decode cX7_init 50 = .ok (.newarray .int, 2) := by decide +kernel
theorem dX7_init_52 : decode cX7_init 52 = .ok (.putfield 26, 3) := by decide +kernel
theorem dX7_init_55 : decode cX7_init 55 = .ok (.aload_n 0, 1) := by decide +kernel
theorem dX7_init_56 : decode cX7_init 56 = .ok (.bipush 64, 2) := by decide +kernel
theorem dX7_init_58 : decode cX7_init 58 = .ok (.newarray .int, 2) := by decide +kernel
theorem dX7_init_60 : decode cX7_init 60 = .ok (.putfield 29, 3) := by decide +kernel
theorem dX7_init_63 : decode cX7_init 63 = .ok (.aload_n 0, 1) := by decide +kernel
theorem dX7_init_64 : decode cX7_init 64 = .ok (.bipush 21, 2) := by decide +kernel
theorem dX7_init_66 : decode cX7_init 66 = .ok (.newarray .int, 2) := by decide +kernel
theorem dX7_init_68 : decode cX7_init 68 = .ok (.putfield 32, 3) := by decide +kernel
theorem dX7_init_71 : decode cX7_init 71 = .ok (.aload_n 0, 1) := by decide +kernel
theorem dX7_init_72 : decode cX7_init 72 = .ok (.bipush 21, 2) := by decide +kernel
theorem dX7_init_74 : decode cX7_init 74 = .ok (.newarray .boolean, 2) := by decide +kernel
theorem dX7_init_76 : decode cX7_init 76 = .ok (.putfield 35, 3) := by decide +kernel
theorem dX7_init_79 : decode cX7_init 79 = .ok (.aload_n 0, 1) := by decide +kernel
theorem dX7_init_80 : decode cX7_init 80 = .ok (.getfield 7, 3) := by decide +kernel
theorem dX7_init_83 : decode cX7_init 83 = .ok (.iconst 0, 1) := by decide +kernel
theorem dX7_init_84 : decode cX7_init 84 = .ok (.bipush 101, 2) := by decide +kernel
theorem dX7_init_86 : decode cX7_init 86 = .ok (.iastore, 1) := by decide +kernel
theorem dX7_init_87 : decode cX7_init 87 = .ok (.return_, 1) := by decide +kernel
theorem dX6_isPrime_0 : decode cX6_isPrime 0 = .ok (.iload_n 0, 1) := by decide +kernel
theorem dX6_isPrime_1 : decode cX6_isPrime 1 = .ok (.iconst 2, 1) := by decide +kernel
theorem dX6_isPrime_2 : decode cX6_isPrime 2 = .ok (.if_icmp .lt 10, 3) := by decide +kernel
theorem dX6_isPrime_5 : decode cX6_isPrime 5 = .ok (.iload_n 0, 1) := by decide +kernel
theorem dX6_isPrime_6 : decode cX6_isPrime 6 = .ok (.sipush 251, 3) := by decide +kernel
theorem dX6_isPrime_9 : decode cX6_isPrime 9 = .ok (.if_icmp .le 5, 3) := by decide +kernel
theorem dX6_isPrime_12 : decode cX6_isPrime 12 = .ok (.iconst 0, 1) := by decide +kernel
theorem dX6_isPrime_13 : decode cX6_isPrime 13 = .ok (.ireturn, 1) := by decide +kernel
theorem dX6_isPrime_14 : decode cX6_isPrime 14 = .ok (.iconst 2, 1) := by decide +kernel
theorem dX6_isPrime_15 : decode cX6_isPrime 15 = .ok (.istore_n 1, 1) := by decide +kernel
theorem dX6_isPrime_16 : decode cX6_isPrime 16 = .ok (.iload_n 1, 1) := by decide +kernel
theorem dX6_isPrime_17 : decode cX6_isPrime 17 = .ok (.iload_n 1, 1) := by decide +kernel
theorem dX6_isPrime_18 : decode cX6_isPrime 18 = .ok (.imul, 1) := by decide +kernel
theorem dX6_isPrime_19 : decode cX6_isPrime 19 = .ok (.iload_n 0, 1) := by decide +kernel
theorem dX6_isPrime_20 : decode cX6_isPrime 20 = .ok (.if_icmp .gt 17, 3) := by decide +kernel
theorem dX6_isPrime_23 : decode cX6_isPrime 23 = .ok (.iload_n 0, 1) := by decide +kernel
theorem dX6_isPrime_24 : decode cX6_isPrime 24 = .ok (.iload_n 1, 1) := by decide +kernel
theorem dX6_isPrime_25 : decode cX6_isPrime 25 = .ok (.irem, 1) := by decide +kernel
theorem dX6_isPrime_26 : decode cX6_isPrime 26 = .ok (.ifCond .ne 5, 3) := by decide +kernel
theorem dX6_isPrime_29 : decode cX6_isPrime 29 = .ok (.iconst 0, 1) := by decide +kernel
theorem dX6_isPrime_30 : decode cX6_isPrime 30 = .ok (.ireturn, 1) := by decide +kernel
theorem dX6_isPrime_31 : decode cX6_isPrime 31 = .ok (.iinc 1 1, 3) := by decide +kernel
theorem dX6_isPrime_34 : decode cX6_isPrime 34 = .ok (.goto (-18), 3) := by decide +kernel
theorem dX6_isPrime_37 : decode cX6_isPrime 37 = .ok (.iconst 1, 1) := by decide +kernel
theorem dX6_isPrime_38 : decode cX6_isPrime 38 = .ok (.ireturn, 1) := by decide +kernel
theorem dX1_dropOldest_0 : decode cX1_dropOldest 0 = .ok (.aload_n 0, 1) := by decide +kernel
theorem dX1_dropOldest_1 : decode cX1_dropOldest 1 = .ok (.getfield 12, 3) := by decide +kernel
theorem dX1_dropOldest_4 : decode cX1_dropOldest 4 = .ok (.iconst 0, 1) := by decide +kernel
theorem dX1_dropOldest_5 : decode cX1_dropOldest 5 = .ok (.aaload, 1) := by decide +kernel
theorem dX1_dropOldest_6 : decode cX1_dropOldest 6 = .ok (.astore_n 1, 1) := by decide +kernel
theorem dX1_dropOldest_7 : decode cX1_dropOldest 7 = .ok (.iconst 1, 1) := by decide +kernel
theorem dX1_dropOldest_8 : decode cX1_dropOldest 8 = .ok (.istore_n 2, 1) := by decide +kernel
theorem dX1_dropOldest_9 : decode cX1_dropOldest 9 = .ok (.iload_n 2, 1) := by decide +kernel
theorem dX1_dropOldest_10 : decode cX1_dropOldest 10 = .ok (.iconst 4, 1) := by decide +kernel
theorem dX1_dropOldest_11 : decode cX1_dropOldest 11 = .ok (.if_icmp .ge 23, 3) := by decide +kernel
theorem dX1_dropOldest_14 : decode cX1_dropOldest 14 = .ok (.aload_n 0, 1) := by decide +kernel
theorem dX1_dropOldest_15 : decode cX1_dropOldest 15 = .ok (.getfield 12, 3) := by decide +kernel
theorem dX1_dropOldest_18 : decode cX1_dropOldest 18 = .ok (.iload_n 2, 1) := by decide +kernel
theorem dX1_dropOldest_19 : decode cX1_dropOldest 19 = .ok (.iconst 1, 1) := by decide +kernel
theorem dX1_dropOldest_20 : decode cX1_dropOldest 20 = .ok (.isub, 1) := by decide +kernel
theorem dX1_dropOldest_21 : decode cX1_dropOldest 21 = .ok (.aload_n 0, 1) := by decide +kernel
theorem dX1_dropOldest_22 : decode cX1_dropOldest 22 = .ok (.getfield 12, 3) := by decide +kernel
theorem dX1_dropOldest_25 : decode cX1_dropOldest 25 = .ok (.iload_n 2, 1) := by decide +kernel
theorem dX1_dropOldest_26 : decode cX1_dropOldest 26 = .ok (.aaload, 1) := by decide +kernel
theorem dX1_dropOldest_27 : decode cX1_dropOldest 27 = .ok (.aastore, 1) := by decide +kernel
theorem dX1_dropOldest_28 : decode cX1_dropOldest 28 = .ok (.iinc 2 1, 3) := by decide +kernel
theorem dX1_dropOldest_31 : decode cX1_dropOldest 31 = .ok (.goto (-22), 3) := by decide +kernel
theorem dX1_dropOldest_34 : decode cX1_dropOldest 34 = .ok (.aload_n 0, 1) := by decide +kernel
theorem dX1_dropOldest_35 : decode cX1_dropOldest 35 = .ok (.getfield 12, 3) := by decide +kernel
theorem dX1_dropOldest_38 : decode cX1_dropOldest 38 = .ok (.iconst 3, 1) := by decide +kernel
theorem dX1_dropOldest_39 : decode cX1_dropOldest 39 = .ok (.aload_n 1, 1) := by decide +kernel
theorem dX1_dropOldest_40 : decode cX1_dropOldest 40 = .ok (.aastore, 1) := by decide +kernel
theorem dX1_dropOldest_41 : decode cX1_dropOldest 41 = .ok (.aload_n 0, 1) := by decide +kernel
theorem dX1_dropOldest_42 : decode cX1_dropOldest 42 = .ok (.iconst 3, 1) := by decide +kernel
theorem dX1_dropOldest_43 : decode cX1_dropOldest 43 = .ok (.putfield 18, 3) := by decide +kernel
theorem dX1_dropOldest_46 : decode cX1_dropOldest 46 = .ok (.return_, 1) := by decide +kernel
theorem dX2_tableOf_0 : decode cX2_tableOf 0 = .ok (.aload_n 0, 1) := by decide +kernel
theorem dX2_tableOf_1 : decode cX2_tableOf 1 = .ok (.getfield 18, 3) := by decide +kernel
theorem dX2_tableOf_4 : decode cX2_tableOf 4 = .ok (.iload_n 1, 1) := by decide +kernel
theorem dX2_tableOf_5 : decode cX2_tableOf 5 = .ok (.iconst 3, 1) := by decide +kernel
theorem dX2_tableOf_6 : decode cX2_tableOf 6 = .ok (.iand, 1) := by decide +kernel
theorem dX2_tableOf_7 : decode cX2_tableOf 7 = .ok (.aaload, 1) := by decide +kernel
theorem dX2_tableOf_8 : decode cX2_tableOf 8 = .ok (.areturn, 1) := by decide +kernel
theorem dX5_copyFrom_0 : decode cX5_copyFrom 0 = .ok (.aload_n 1, 1) := by decide +kernel
theorem dX5_copyFrom_1 : decode cX5_copyFrom 1 = .ok (.getfield 9, 3) := by decide +kernel
theorem dX5_copyFrom_4 : decode cX5_copyFrom 4 = .ok (.iconst 0, 1) := by decide +kernel
theorem dX5_copyFrom_5 : decode cX5_copyFrom 5 = .ok (.aload_n 0, 1) := by decide +kernel
theorem dX5_copyFrom_6 : decode cX5_copyFrom 6 = .ok (.getfield 9, 3) := by decide +kernel
theorem dX5_copyFrom_9 : decode cX5_copyFrom 9 = .ok (.iconst 0, 1) := by decide +kernel
theorem dX5_copyFrom_10 : decode cX5_copyFrom 10 = .ok (.bipush 64, 2) := by decide +kernel
theorem dX5_copyFrom_12 : decode cX5_copyFrom 12 = .ok (.invokestatic 36, 3) := by decide +kernel
theorem dX5_copyFrom_15 : decode cX5_copyFrom 15 = .ok (.return_, 1) := by decide +kernel
theorem dX3_copyFrom_0 : decode cX3_copyFrom 0 = .ok (.aload_n 1, 1) := by decide +kernel
theorem dX3_copyFrom_1 : decode cX3_copyFrom 1 = .ok (.getfield 9, 3) := by decide +kernel
theorem dX3_copyFrom_4 : decode cX3_copyFrom 4 = .ok (.iconst 0, 1) := by decide +kernel
theorem dX3_copyFrom_5 : decode cX3_copyFrom 5 = .ok (.aload_n 0, 1) := by decide +kernel
theorem dX3_copyFrom_6 : decode cX3_copyFrom 6 = .ok (.getfield 9, 3) := by decide +kernel
theorem dX3_copyFrom_9 : decode cX3_copyFrom 9 = .ok (.iconst 0, 1) := by decide +kernel
theorem dX3_copyFrom_10 : decode cX3_copyFrom 10 = .ok (.bipush 64, 2) := by decide +kernel
theorem dX3_copyFrom_12 : decode cX3_copyFrom 12 = .ok (.invokestatic 33, 3) := by decide +kernel
theorem dX3_copyFrom_15 : decode cX3_copyFrom 15 = .ok (.aload_n 0, 1) := by decide +kernel
theorem dX3_copyFrom_16 : decode cX3_copyFrom 16 = .ok (.getfield 18, 3) := by decide +kernel
theorem dX3_copyFrom_19 : decode cX3_copyFrom 19 = .ok (.aload_n 1, 1) := by decide +kernel
theorem dX3_copyFrom_20 : decode cX3_copyFrom 20 = .ok (.getfield 18, 3) := by decide +kernel
theorem dX3_copyFrom_23 : decode cX3_copyFrom 23 = .ok (.invokevirtual 39, 3) := by decide +kernel
theorem dX3_copyFrom_26 : decode cX3_copyFrom 26 = .ok (.return_, 1) := by decide +kernel
theorem dX2_copyFrom_0 : decode cX2_copyFrom 0 = .ok (.aload_n 0, 1) := by decide +kernel
theorem dX2_copyFrom_1 : decode cX2_copyFrom 1 = .ok (.aload_n 1, 1) := by decide +kernel
theorem dX2_copyFrom_2 : decode cX2_copyFrom 2 = .ok (.getfield 9, 3) := by decide +kernel
theorem dX2_copyFrom_5 : decode cX2_copyFrom 5 = .ok (.putfield 9, 3) := by decide +kernel
theorem dX2_copyFrom_8 : decode cX2_copyFrom 8 = .ok (.iconst 0, 1) := by decide +kernel
theorem dX2_copyFrom_9 : decode cX2_copyFrom 9 = .ok (.istore_n 2, 1) := by decide +kernel
theorem dX2_copyFrom_10 : decode cX2_copyFrom 10 = .ok (.iload_n 2, 1) := by decide +kernel
theorem dX2_copyFrom_11 : decode cX2_copyFrom 11 = .ok (.iconst 4, 1) := by decide +kernel
theorem dX2_copyFrom_12 : decode cX2_copyFrom 12 = .ok (.if_icmp .ge 22, 3) := by decide +kernel
theorem dX2_copyFrom_15 : decode cX2_copyFrom 15 = .ok (.aload_n 0, 1) := by decide +kernel
theorem dX2_copyFrom_16 : decode cX2_copyFrom 16 = .ok (.iload_n 2, 1) := by decide +kernel
theorem dX2_copyFrom_17 : decode cX2_copyFrom 17 = .ok (.invokevirtual 22, 3) := by decide +kernel
theorem dX2_copyFrom_20 : decode cX2_copyFrom 20 = .ok (.aload_n 1, 1) := by decide +kernel
theorem dX2_copyFrom_21 : decode cX2_copyFrom 21 = .ok (.iload_n 2, 1) := by decide +kernel
theorem dX2_copyFrom_22 : decode cX2_copyFrom 22 = .ok (.invokevirtual 22, 3) := by decide +kernel
theorem dX2_copyFrom_25 : decode cX2_copyFrom 25 = .ok (.invokevirtual 30, 3) := by decide +kernel
theorem dX2_copyFrom_28 : decode cX2_copyFrom 28 = .ok (.iinc 2 1, 3) := by decide +kernel
theorem dX2_copyFrom_31 : decode cX2_copyFrom 31 = .ok (.goto (-21), 3) := by decide +kernel
theorem dX2_copyFrom_34 : decode cX2_copyFrom 34 = .ok (.return_, 1) := by decide +kernel
theorem dX1_record_0 : decode cX1_record 0 = .ok (.aload_n 0, 1) := by decide +kernel
theorem dX1_record_1 : decode cX1_record 1 = .ok (.getfield 18, 3) := by decide +kernel
theorem dX1_record_4 : decode cX1_record 4 = .ok (.iconst 4, 1) := by decide +kernel
theorem dX1_record_5 : decode cX1_record 5 = .ok (.if_icmp .lt 7, 3) := by decide +kernel
theorem dX1_record_8 : decode cX1_record 8 = .ok (.aload_n 0, 1) := by decide +kernel
theorem dX1_record_9 : decode cX1_record 9 = .ok (.invokevirtual 22, 3) := by decide +kernel
theorem dX1_record_12 : decode cX1_record 12 = .ok (.aload_n 0, 1) := by decide +kernel
theorem dX1_record_13 : decode cX1_record 13 = .ok (.getfield 18, 3) := by decide +kernel
theorem dX1_record_16 : decode cX1_record 16 = .ok (.ifCond .lt 34, 3) := by decide +kernel
theorem dX1_record_19 : decode cX1_record 19 = .ok (.aload_n 0, 1) := by decide +kernel
theorem dX1_record_20 : decode cX1_record 20 = .ok (.getfield 18, 3) := by decide +kernel
theorem dX1_record_23 : decode cX1_record 23 = .ok (.iconst 4, 1) := by decide +kernel
theorem dX1_record_24 : decode cX1_record 24 = .ok (.if_icmp .ge 26, 3) := by decide +kernel
theorem dX1_record_27 : decode cX1_record 27 = .ok (.aload_n 0, 1) := by decide +kernel
theorem dX1_record_28 : decode cX1_record 28 = .ok (.getfield 12, 3) := by decide +kernel
theorem dX1_record_31 : decode cX1_record 31 = .ok (.aload_n 0, 1) := by decide +kernel
theorem dX1_record_32 : decode cX1_record 32 = .ok (.getfield 18, 3) := by decide +kernel
theorem dX1_record_35 : decode cX1_record 35 = .ok (.aaload, 1) := by decide +kernel
theorem dX1_record_36 : decode cX1_record 36 = .ok (.aload_n 1, 1) := by decide +kernel
theorem dX1_record_37 : decode cX1_record 37 = .ok (.invokevirtual 25, 3) := by decide +kernel
theorem dX1_record_40 : decode cX1_record 40 = .ok (.aload_n 0, 1) := by decide +kernel
theorem dX1_record_41 : decode cX1_record 41 = .ok (.dup, 1) := by decide +kernel
theorem dX1_record_42 : decode cX1_record 42 = .ok (.getfield 18, 3) := by decide +kernel
theorem dX1_record_45 : decode cX1_record 45 = .ok (.iconst 1, 1) := by decide +kernel
theorem dX1_record_46 : decode cX1_record 46 = .ok (.iadd, 1) := by decide +kernel
theorem dX1_record_47 : decode cX1_record 47 = .ok (.putfield 18, 3) := by decide +kernel
theorem dX1_record_50 : decode cX1_record 50 = .ok (.return_, 1) := by decide +kernel
theorem dX6_remainder_0 : decode cX6_remainder 0 = .ok (.iload_n 1, 1) := by decide +kernel
theorem dX6_remainder_1 : decode cX6_remainder 1 = .ok (.iconst 2, 1) := by decide +kernel
theorem dX6_remainder_2 : decode cX6_remainder 2 = .ok (.if_icmp .ge 5, 3) := by decide +kernel
theorem dX6_remainder_5 : decode cX6_remainder 5 = .ok (.iconst 0, 1) := by decide +kernel
theorem dX6_remainder_6 : decode cX6_remainder 6 = .ok (.ireturn, 1) := by decide +kernel
theorem dX6_remainder_7 : decode cX6_remainder 7 = .ok (.iload_n 0, 1) := by decide +kernel
theorem dX6_remainder_8 : decode cX6_remainder 8 = .ok (.iload_n 1, 1) := by decide +kernel
theorem dX6_remainder_9 : decode cX6_remainder 9 = .ok (.irem, 1) := by decide +kernel
theorem dX6_remainder_10 : decode cX6_remainder 10 = .ok (.istore_n 2, 1) := by decide +kernel
theorem dX6_remainder_11 : decode cX6_remainder 11 = .ok (.iload_n 2, 1) := by decide +kernel
theorem dX6_remainder_12 : decode cX6_remainder 12 = .ok (.ifCond .ge 9, 3) := by decide +kernel
theorem dX6_remainder_15 : decode cX6_remainder 15 = .ok (.iload_n 2, 1) := by decide +kernel
theorem dX6_remainder_16 : decode cX6_remainder 16 = .ok (.iload_n 1, 1) := by decide +kernel
theorem dX6_remainder_17 : decode cX6_remainder 17 = .ok (.iadd, 1) := by decide +kernel
theorem dX6_remainder_18 : decode cX6_remainder 18 = .ok (.goto 4, 3) := by decide +kernel
theorem dX6_remainder_21 : decode cX6_remainder 21 = .ok (.iload_n 2, 1) := by decide +kernel
theorem dX6_remainder_22 : decode cX6_remainder 22 = .ok (.ireturn, 1) := by decide +kernel
theorem dX3_reduceCells_0 : decode cX3_reduceCells 0 = .ok (.iconst 0, 1) := by decide +kernel
theorem dX3_reduceCells_1 : decode cX3_reduceCells 1 = .ok (.istore_n 2, 1) := by decide +kernel
theorem dX3_reduceCells_2 : decode cX3_reduceCells 2 = .ok (.iload_n 2, 1) := by decide +kernel
theorem dX3_reduceCells_3 : decode cX3_reduceCells 3 = .ok (.bipush 64, 2) := by decide +kernel
theorem dX3_reduceCells_5 : decode cX3_reduceCells 5 = .ok (.if_icmp .ge 25, 3) := by decide +kernel
theorem dX3_reduceCells_8 : decode cX3_reduceCells 8 = .ok (.aload_n 0, 1) := by decide +kernel
theorem dX3_reduceCells_9 : decode cX3_reduceCells 9 = .ok (.getfield 9, 3) := by decide +kernel
theorem dX3_reduceCells_12 : decode cX3_reduceCells 12 = .ok (.iload_n 2, 1) := by decide +kernel
theorem dX3_reduceCells_13 : decode cX3_reduceCells 13 = .ok (.aload_n 0, 1) := by decide +kernel
theorem dX3_reduceCells_14 : decode cX3_reduceCells 14 = .ok (.getfield 9, 3) := by decide +kernel
theorem dX3_reduceCells_17 : decode cX3_reduceCells 17 = .ok (.iload_n 2, 1) := by decide +kernel
theorem dX3_reduceCells_18 : decode cX3_reduceCells 18 = .ok (.iaload, 1) := by decide +kernel
theorem dX3_reduceCells_19 : decode cX3_reduceCells 19 = .ok (.iload_n 1, 1) := by decide +kernel
theorem dX3_reduceCells_20 : decode cX3_reduceCells 20 = .ok (.invokestatic 26, 3) := by decide +kernel
theorem dX3_reduceCells_23 : decode cX3_reduceCells 23 = .ok (.iastore, 1) := by decide +kernel
theorem dX3_reduceCells_24 : decode cX3_reduceCells 24 = .ok (.iinc 2 1, 3) := by decide +kernel
theorem dX3_reduceCells_27 : decode cX3_reduceCells 27 = .ok (.goto (-25), 3) := by decide +kernel
theorem dX3_reduceCells_30 : decode cX3_reduceCells 30 = .ok (.return_, 1) := by decide +kernel
theorem dX2_changePrime_0 : decode cX2_changePrime 0 = .ok (.aload_n 0, 1) := by decide +kernel
theorem dX2_changePrime_1 : decode cX2_changePrime 1 = .ok (.iload_n 1, 1) := by decide +kernel
theorem dX2_changePrime_2 : decode cX2_changePrime 2 = .ok (.putfield 9, 3) := by decide +kernel
theorem dX2_changePrime_5 : decode cX2_changePrime 5 = .ok (.iconst 0, 1) := by decide +kernel
theorem dX2_changePrime_6 : decode cX2_changePrime 6 = .ok (.istore_n 2, 1) := by decide +kernel
theorem dX2_changePrime_7 : decode cX2_changePrime 7 = .ok (.iload_n 2, 1) := by decide +kernel
theorem dX2_changePrime_8 : decode cX2_changePrime 8 = .ok (.iconst 4, 1) := by decide +kernel
theorem dX2_changePrime_9 : decode cX2_changePrime 9 = .ok (.if_icmp .ge 18, 3) := by decide +kernel
theorem dX2_changePrime_12 : decode cX2_changePrime 12 = .ok (.aload_n 0, 1) := by decide +kernel
theorem dX2_changePrime_13 : decode cX2_changePrime 13 = .ok (.iload_n 2, 1) := by decide +kernel
theorem dX2_changePrime_14 : decode cX2_changePrime 14 = .ok (.invokevirtual 22, 3) := by decide +kernel
theorem dX2_changePrime_17 : decode cX2_changePrime 17 = .ok (.iload_n 1, 1) := by decide +kernel
theorem dX2_changePrime_18 : decode cX2_changePrime 18 = .ok (.invokevirtual 26, 3) := by decide +kernel
theorem dX2_changePrime_21 : decode cX2_changePrime 21 = .ok (.iinc 2 1, 3) := by decide +kernel
theorem dX2_changePrime_24 : decode cX2_changePrime 24 = .ok (.goto (-17), 3) := by decide +kernel
theorem dX2_changePrime_27 : decode cX2_changePrime 27 = .ok (.return_, 1) := by decide +kernel
theorem dX6_setPrime_0 : decode cX6_setPrime 0 = .ok (.iload_n 1, 1) := by decide +kernel
theorem dX6_setPrime_1 : decode cX6_setPrime 1 = .ok (.invokestatic 54, 3) := by decide +kernel
theorem dX6_setPrime_4 : decode cX6_setPrime 4 = .ok (.ifCond .ne 6, 3) := by decide +kernel
theorem dX6_setPrime_7 : decode cX6_setPrime 7 = .ok (.bipush (-2), 2) := by decide +kernel
theorem dX6_setPrime_9 : decode cX6_setPrime 9 = .ok (.ireturn, 1) := by decide +kernel
theorem dX6_setPrime_10 : decode cX6_setPrime 10 = .ok (.aload_n 0, 1) := by decide +kernel
theorem dX6_setPrime_11 : decode cX6_setPrime 11 = .ok (.getfield 12, 3) := by decide +kernel
theorem dX6_setPrime_14 : decode cX6_setPrime 14 = .ok (.getfield 58, 3) := by decide +kernel
theorem dX6_setPrime_17 : decode cX6_setPrime 17 = .ok (.istore_n 2, 1) := by decide +kernel
theorem dX6_setPrime_18 : decode cX6_setPrime 18 = .ok (.iload_n 1, 1) := by decide +kernel
theorem dX6_setPrime_19 : decode cX6_setPrime 19 = .ok (.iload_n 2, 1) := by decide +kernel
theorem dX6_setPrime_20 : decode cX6_setPrime 20 = .ok (.if_icmp .ne 6, 3) := by decide +kernel
theorem dX6_setPrime_23 : decode cX6_setPrime 23 = .ok (.bipush (-5), 2) := by decide +kernel
theorem dX6_setPrime_25 : decode cX6_setPrime 25 = .ok (.ireturn, 1) := by decide +kernel
theorem dX6_setPrime_26 : decode cX6_setPrime 26 = .ok (.aload_n 0, 1) := by decide +kernel
theorem dX6_setPrime_27 : decode cX6_setPrime 27 = .ok (.getfield 22, 3) := by decide +kernel
theorem dX6_setPrime_30 : decode cX6_setPrime 30 = .ok (.aload_n 0, 1) := by decide +kernel
theorem dX6_setPrime_31 : decode cX6_setPrime 31 = .ok (.getfield 12, 3) := by decide +kernel
theorem dX6_setPrime_34 : decode cX6_setPrime 34 = .ok (.invokevirtual 62, 3) := by decide +kernel
theorem dX6_setPrime_37 : decode cX6_setPrime 37 = .ok (.aload_n 0, 1) := by decide +kernel
theorem dX6_setPrime_38 : decode cX6_setPrime 38 = .ok (.getfield 12, 3) := by decide +kernel
theorem dX6_setPrime_41 : decode cX6_setPrime 41 = .ok (.iload_n 1, 1) := by decide +kernel
theorem dX6_setPrime_42 : decode cX6_setPrime 42 = .ok (.invokevirtual 66, 3) := by decide +kernel
theorem dX6_setPrime_45 : decode cX6_setPrime 45 = .ok (.iload_n 2, 1) := by decide +kernel
theorem dX6_setPrime_46 : decode cX6_setPrime 46 = .ok (.ireturn, 1) := by decide +kernel
theorem dX7_in_0 : decode cX7_in 0 = .ok (.iload_n 0, 1) := by decide +kernel
theorem dX7_in_1 : decode cX7_in 1 = .ok (.iload_n 1, 1) := by decide +kernel
theorem dX7_in_2 : decode cX7_in 2 = .ok (.if_icmp .lt 12, 3) := by decide +kernel
theorem dX7_in_5 : decode cX7_in 5 = .ok (.iload_n 0, 1) := by decide +kernel
theorem dX7_in_6 : decode cX7_in 6 = .ok (.iload_n 2, 1) := by decide +kernel
theorem dX7_in_7 : decode cX7_in 7 = .ok (.if_icmp .gt 7, 3) := by decide +kernel
theorem dX7_in_10 : decode cX7_in 10 = .ok (.iconst 1, 1) := by decide +kernel
theorem dX7_in_11 : decode cX7_in 11 = .ok (.goto 4, 3) := by decide +kernel
theorem dX7_in_14 : decode cX7_in 14 = .ok (.iconst 0, 1) := by decide +kernel
theorem dX7_in_15 : decode cX7_in 15 = .ok (.ireturn, 1) := by decide +kernel
theorem dX7_isPrime_0 : decode cX7_isPrime 0 = .ok (.iload_n 0, 1) := by decide +kernel
theorem dX7_isPrime_1 : decode cX7_isPrime 1 = .ok (.iconst 1, 1) := by decide +kernel
theorem dX7_isPrime_2 : decode cX7_isPrime 2 = .ok (.if_icmp .le 7, 3) := by decide +kernel
theorem dX7_isPrime_5 : decode cX7_isPrime 5 = .ok (.iconst 1, 1) := by decide +kernel
theorem dX7_isPrime_6 : decode cX7_isPrime 6 = .ok (.goto 4, 3) := by decide +kernel
theorem dX7_isPrime_9 : decode cX7_isPrime 9 = .ok (.iconst 0, 1) := by decide +kernel
theorem dX7_isPrime_10 : decode cX7_isPrime 10 = .ok (.istore_n 1, 1) := by decide +kernel
theorem dX7_isPrime_11 : decode cX7_isPrime 11 = .ok (.iconst 2, 1) := by decide +kernel
theorem dX7_isPrime_12 : decode cX7_isPrime 12 = .ok (.istore_n 2, 1) := by decide +kernel
theorem dX7_isPrime_13 : decode cX7_isPrime 13 = .ok (.iload_n 2, 1) := by decide +kernel
theorem dX7_isPrime_14 : decode cX7_isPrime 14 = .ok (.iload_n 0, 1) := by decide +kernel
theorem dX7_isPrime_15 : decode cX7_isPrime 15 = .ok (.if_icmp .ge 25, 3) := by decide +kernel
theorem dX7_isPrime_18 : decode cX7_isPrime 18 = .ok (.iload_n 1, 1) := by decide +kernel
theorem dX7_isPrime_19 : decode cX7_isPrime 19 = .ok (.ifCond .eq 13, 3) := by decide +kernel
theorem dX7_isPrime_22 : decode cX7_isPrime 22 = .ok (.iload_n 0, 1) := by decide +kernel
theorem dX7_isPrime_23 : decode cX7_isPrime 23 = .ok (.iload_n 2, 1) := by decide +kernel
theorem dX7_isPrime_24 : decode cX7_isPrime 24 = .ok (.irem, 1) := by decide +kernel
theorem dX7_isPrime_25 : decode cX7_isPrime 25 = .ok (.ifCond .eq 7, 3) := by decide +kernel
theorem dX7_isPrime_28 : decode cX7_isPrime 28 = .ok (.iconst 1, 1) := by decide +kernel
theorem dX7_isPrime_29 : decode cX7_isPrime 29 = .ok (.goto 4, 3) := by decide +kernel
theorem dX7_isPrime_32 : decode cX7_isPrime 32 = .ok (.iconst 0, 1) := by decide +kernel
theorem dX7_isPrime_33 : decode cX7_isPrime 33 = .ok (.istore_n 1, 1) := by decide +kernel
theorem dX7_isPrime_34 : decode cX7_isPrime 34 = .ok (.iinc 2 1, 3) := by decide +kernel
theorem dX7_isPrime_37 : decode cX7_isPrime 37 = .ok (.goto (-24), 3) := by decide +kernel
theorem dX7_isPrime_40 : decode cX7_isPrime 40 = .ok (.iload_n 1, 1) := by decide +kernel
theorem dX7_isPrime_41 : decode cX7_isPrime 41 = .ok (.ireturn, 1) := by decide +kernel
theorem dX7_record_0 : decode cX7_record 0 = .ok (.aload_n 0, 1) := by decide +kernel
theorem dX7_record_1 : decode cX7_record 1 = .ok (.getfield 39, 3) := by decide +kernel
theorem dX7_record_4 : decode cX7_record 4 = .ok (.iconst 4, 1) := by decide +kernel
theorem dX7_record_5 : decode cX7_record 5 = .ok (.if_icmp .ne 44, 3) := by decide +kernel
theorem dX7_record_8 : decode cX7_record 8 = .ok (.iconst 0, 1) := by decide +kernel
theorem dX7_record_9 : decode cX7_record 9 = .ok (.istore_n 1, 1) := by decide +kernel
theorem dX7_record_10 : decode cX7_record 10 = .ok (.iload_n 1, 1) := by decide +kernel
theorem dX7_record_11 : decode cX7_record 11 = .ok (.sipush 1023, 3) := by decide +kernel
theorem dX7_record_14 : decode cX7_record 14 = .ok (.if_icmp .ge 25, 3) := by decide +kernel
theorem dX7_record_17 : decode cX7_record 17 = .ok (.aload_n 0, 1) := by decide +kernel
theorem dX7_record_18 : decode cX7_record 18 = .ok (.getfield 13, 3) := by decide +kernel
theorem dX7_record_21 : decode cX7_record 21 = .ok (.iload_n 1, 1) := by decide +kernel
theorem dX7_record_22 : decode cX7_record 22 = .ok (.aload_n 0, 1) := by decide +kernel
theorem dX7_record_23 : decode cX7_record 23 = .ok (.getfield 13, 3) := by decide +kernel
theorem dX7_record_26 : decode cX7_record 26 = .ok (.sipush 341, 3) := by decide +kernel
theorem dX7_record_29 : decode cX7_record 29 = .ok (.iload_n 1, 1) := by decide +kernel
theorem dX7_record_30 : decode cX7_record 30 = .ok (.iadd, 1) := by decide +kernel
theorem dX7_record_31 : decode cX7_record 31 = .ok (.iaload, 1) := by decide +kernel
theorem dX7_record_32 : decode cX7_record 32 = .ok (.iastore, 1) := by decide +kernel
theorem dX7_record_33 : decode cX7_record 33 = .ok (.iinc 1 1, 3) := by decide +kernel
theorem dX7_record_36 : decode cX7_record 36 = .ok (.goto (-26), 3) := by decide +kernel
theorem dX7_record_39 : decode cX7_record 39 = .ok (.aload_n 0, 1) := by decide +kernel
theorem dX7_record_40 : decode cX7_record 40 = .ok (.dup, 1) := by decide +kernel
theorem dX7_record_41 : decode cX7_record 41 = .ok (.getfield 39, 3) := by decide +kernel
theorem dX7_record_44 : decode cX7_record 44 = .ok (.iconst 1, 1) := by decide +kernel
theorem dX7_record_45 : decode cX7_record 45 = .ok (.isub, 1) := by decide +kernel
theorem dX7_record_46 : decode cX7_record 46 = .ok (.putfield 39, 3) := by decide +kernel
theorem dX7_record_49 : decode cX7_record 49 = .ok (.iconst 0, 1) := by decide +kernel
theorem dX7_record_50 : decode cX7_record 50 = .ok (.istore_n 1, 1) := by decide +kernel
theorem dX7_record_51 : decode cX7_record 51 = .ok (.iload_n 1, 1) := by decide +kernel
theorem dX7_record_52 : decode cX7_record 52 = .ok (.sipush 341, 3) := by decide +kernel
theorem dX7_record_55 : decode cX7_record 55 = .ok (.if_icmp .ge 30, 3) := by decide +kernel
theorem dX7_record_58 : decode cX7_record 58 = .ok (.aload_n 0, 1) := by decide +kernel
theorem dX7_record_59 : decode cX7_record 59 = .ok (.getfield 13, 3) := by decide +kernel
theorem dX7_record_62 : decode cX7_record 62 = .ok (.sipush 341, 3) := by decide +kernel
theorem dX7_record_65 : decode cX7_record 65 = .ok (.aload_n 0, 1) := by decide +kernel
theorem dX7_record_66 : decode cX7_record 66 = .ok (.getfield 39, 3) := by decide +kernel
theorem dX7_record_69 : decode cX7_record 69 = .ok (.imul, 1) := by decide +kernel
theorem dX7_record_70 : decode cX7_record 70 = .ok (.iload_n 1, 1) := by decide +kernel
theorem dX7_record_71 : decode cX7_record 71 = .ok (.iadd, 1) := by decide +kernel
theorem dX7_record_72 : decode cX7_record 72 = .ok (.aload_n 0, 1) := by decide +kernel
theorem dX7_record_73 : decode cX7_record 73 = .ok (.getfield 7, 3) := by decide +kernel
theorem dX7_record_76 : decode cX7_record 76 = .ok (.iload_n 1, 1) := by decide +kernel
theorem dX7_record_77 : decode cX7_record 77 = .ok (.iaload, 1) := by decide +kernel
theorem dX7_record_78 : decode cX7_record 78 = .ok (.iastore, 1) := by decide +kernel
theorem dX7_record_79 : decode cX7_record 79 = .ok (.iinc 1 1, 3) := by decide +kernel
theorem dX7_record_82 : decode cX7_record 82 = .ok (.goto (-31), 3) := by decide +kernel
theorem dX7_record_85 : decode cX7_record 85 = .ok (.aload_n 0, 1) := by decide +kernel
theorem dX7_record_86 : decode cX7_record 86 = .ok (.dup, 1) := by decide +kernel
theorem dX7_record_87 : decode cX7_record 87 = .ok (.getfield 39, 3) := by decide +kernel
theorem dX7_record_90 : decode cX7_record 90 = .ok (.iconst 1, 1) := by decide +kernel
theorem dX7_record_91 : decode cX7_record 91 = .ok (.iadd, 1) := by decide +kernel
theorem dX7_record_92 : decode cX7_record 92 = .ok (.putfield 39, 3) := by decide +kernel
theorem dX7_record_95 : decode cX7_record 95 = .ok (.return_, 1) := by decide +kernel
theorem dX7_setPrime_0 : decode cX7_setPrime 0 = .ok (.iload_n 1, 1) := by decide +kernel
theorem dX7_setPrime_1 : decode cX7_setPrime 1 = .ok (.iconst 2, 1) := by decide +kernel
theorem dX7_setPrime_2 : decode cX7_setPrime 2 = .ok (.sipush 251, 3) := by decide +kernel
theorem dX7_setPrime_5 : decode cX7_setPrime 5 = .ok (.invokestatic 50, 3) := by decide +kernel
theorem dX7_setPrime_8 : decode cX7_setPrime 8 = .ok (.ifCond .eq 10, 3) := by decide +kernel
theorem dX7_setPrime_11 : decode cX7_setPrime 11 = .ok (.iload_n 1, 1) := by decide +kernel
theorem dX7_setPrime_12 : decode cX7_setPrime 12 = .ok (.invokestatic 58, 3) := by decide +kernel
theorem dX7_setPrime_15 : decode cX7_setPrime 15 = .ok (.ifCond .ne 6, 3) := by decide +kernel
theorem dX7_setPrime_18 : decode cX7_setPrime 18 = .ok (.bipush (-2), 2) := by decide +kernel
theorem dX7_setPrime_20 : decode cX7_setPrime 20 = .ok (.ireturn, 1) := by decide +kernel
theorem dX7_setPrime_21 : decode cX7_setPrime 21 = .ok (.aload_n 0, 1) := by decide +kernel
theorem dX7_setPrime_22 : decode cX7_setPrime 22 = .ok (.getfield 7, 3) := by decide +kernel
theorem dX7_setPrime_25 : decode cX7_setPrime 25 = .ok (.iconst 0, 1) := by decide +kernel
theorem dX7_setPrime_26 : decode cX7_setPrime 26 = .ok (.iaload, 1) := by decide +kernel
theorem dX7_setPrime_27 : decode cX7_setPrime 27 = .ok (.istore_n 2, 1) := by decide +kernel
theorem dX7_setPrime_28 : decode cX7_setPrime 28 = .ok (.iload_n 2, 1) := by decide +kernel
theorem dX7_setPrime_29 : decode cX7_setPrime 29 = .ok (.iload_n 1, 1) := by decide +kernel
theorem dX7_setPrime_30 : decode cX7_setPrime 30 = .ok (.if_icmp .ne 6, 3) := by decide +kernel
theorem dX7_setPrime_33 : decode cX7_setPrime 33 = .ok (.bipush (-5), 2) := by decide +kernel
theorem dX7_setPrime_35 : decode cX7_setPrime 35 = .ok (.ireturn, 1) := by decide +kernel
theorem dX7_setPrime_36 : decode cX7_setPrime 36 = .ok (.aload_n 0, 1) := by decide +kernel
theorem dX7_setPrime_37 : decode cX7_setPrime 37 = .ok (.invokevirtual 47, 3) := by decide +kernel
theorem dX7_setPrime_40 : decode cX7_setPrime 40 = .ok (.aload_n 0, 1) := by decide +kernel
theorem dX7_setPrime_41 : decode cX7_setPrime 41 = .ok (.getfield 7, 3) := by decide +kernel
theorem dX7_setPrime_44 : decode cX7_setPrime 44 = .ok (.iconst 0, 1) := by decide +kernel
theorem dX7_setPrime_45 : decode cX7_setPrime 45 = .ok (.iload_n 1, 1) := by decide +kernel
theorem dX7_setPrime_46 : decode cX7_setPrime 46 = .ok (.iastore, 1) := by decide +kernel
theorem dX7_setPrime_47 : decode cX7_setPrime 47 = .ok (.iconst 0, 1) := by decide +kernel
theorem dX7_setPrime_48 : decode cX7_setPrime 48 = .ok (.istore_n 3, 1) := by decide +kernel
theorem dX7_setPrime_49 : decode cX7_setPrime 49 = .ok (.iload_n 3, 1) := by decide +kernel
theorem dX7_setPrime_50 : decode cX7_setPrime 50 = .ok (.sipush 256, 3) := by decide +kernel
theorem dX7_setPrime_53 : decode cX7_setPrime 53 = .ok (.if_icmp .ge 21, 3) := by decide +kernel
theorem dX7_setPrime_56 : decode cX7_setPrime 56 = .ok (.aload_n 0, 1) := by decide +kernel
theorem dX7_setPrime_57 : decode cX7_setPrime 57 = .ok (.getfield 7, 3) := by decide +kernel
theorem dX7_setPrime_60 : decode cX7_setPrime 60 = .ok (.iconst 1, 1) := by decide +kernel
theorem dX7_setPrime_61 : decode cX7_setPrime 61 = .ok (.iload_n 3, 1) := by decide +kernel
theorem dX7_setPrime_62 : decode cX7_setPrime 62 = .ok (.iadd, 1) := by decide +kernel
theorem dX7_setPrime_63 : decode cX7_setPrime 63 = .ok (.dup2, 1) := by decide +kernel
theorem dX7_setPrime_64 : decode cX7_setPrime 64 = .ok (.iaload, 1) := by decide +kernel
theorem dX7_setPrime_65 : decode cX7_setPrime 65 = .ok (.iload_n 1, 1) := by decide +kernel
theorem dX7_setPrime_66 : decode cX7_setPrime 66 = .ok (.irem, 1) := by decide +kernel
theorem dX7_setPrime_67 : decode cX7_setPrime 67 = .ok (.iastore, 1) := by decide +kernel
theorem dX7_setPrime_68 : decode cX7_setPrime 68 = .ok (.iinc 3 1, 3) := by decide +kernel
theorem dX7_setPrime_71 : decode cX7_setPrime 71 = .ok (.goto (-22), 3) := by decide +kernel
theorem dX7_setPrime_74 : decode cX7_setPrime 74 = .ok (.iload_n 2, 1) := by decide +kernel
theorem dX7_setPrime_75 : decode cX7_setPrime 75 = .ok (.ireturn, 1) := by decide +kernel
theorem dX6_isTable_0 : decode cX6_isTable 0 = .ok (.iload_n 0, 1) := by decide +kernel
theorem dX6_isTable_1 : decode cX6_isTable 1 = .ok (.ifCond .lt 12, 3) := by decide +kernel
theorem dX6_isTable_4 : decode cX6_isTable 4 = .ok (.iload_n 0, 1) := by decide +kernel
theorem dX6_isTable_5 : decode cX6_isTable 5 = .ok (.iconst 4, 1) := by decide +kernel
theorem dX6_isTable_6 : decode cX6_isTable 6 = .ok (.if_icmp .ge 7, 3) := by decide +kernel
theorem dX6_isTable_9 : decode cX6_isTable 9 = .ok (.iconst 1, 1) := by decide +kernel
theorem dX6_isTable_10 : decode cX6_isTable 10 = .ok (.goto 4, 3) := by decide +kernel
theorem dX6_isTable_13 : decode cX6_isTable 13 = .ok (.iconst 0, 1) := by decide +kernel
theorem dX6_isTable_14 : decode cX6_isTable 14 = .ok (.ireturn, 1) := by decide +kernel
theorem dX6_isInside_0 : decode cX6_isInside 0 = .ok (.iload_n 0, 1) := by decide +kernel
theorem dX6_isInside_1 : decode cX6_isInside 1 = .ok (.ifCond .lt 13, 3) := by decide +kernel
theorem dX6_isInside_4 : decode cX6_isInside 4 = .ok (.iload_n 0, 1) := by decide +kernel
theorem dX6_isInside_5 : decode cX6_isInside 5 = .ok (.bipush 8, 2) := by decide +kernel
theorem dX6_isInside_7 : decode cX6_isInside 7 = .ok (.if_icmp .ge 7, 3) := by decide +kernel
theorem dX6_isInside_10 : decode cX6_isInside 10 = .ok (.iconst 1, 1) := by decide +kernel
theorem dX6_isInside_11 : decode cX6_isInside 11 = .ok (.goto 4, 3) := by decide +kernel
theorem dX6_isInside_14 : decode cX6_isInside 14 = .ok (.iconst 0, 1) := by decide +kernel
theorem dX6_isInside_15 : decode cX6_isInside 15 = .ok (.ireturn, 1) := by decide +kernel
theorem dX3_at_0 : decode cX3_at 0 = .ok (.iload_n 1, 1) := by decide +kernel
theorem dX3_at_1 : decode cX3_at 1 = .ok (.invokestatic 22, 3) := by decide +kernel
theorem dX3_at_4 : decode cX3_at 4 = .ok (.ifCond .eq 24, 3) := by decide +kernel
theorem dX3_at_7 : decode cX3_at 7 = .ok (.iload_n 2, 1) := by decide +kernel
theorem dX3_at_8 : decode cX3_at 8 = .ok (.invokestatic 22, 3) := by decide +kernel
theorem dX3_at_11 : decode cX3_at 11 = .ok (.ifCond .eq 17, 3) := by decide +kernel
theorem dX3_at_14 : decode cX3_at 14 = .ok (.aload_n 0, 1) := by decide +kernel
theorem dX3_at_15 : decode cX3_at 15 = .ok (.getfield 9, 3) := by decide +kernel
theorem dX3_at_18 : decode cX3_at 18 = .ok (.iload_n 1, 1) := by decide +kernel
theorem dX3_at_19 : decode cX3_at 19 = .ok (.bipush 8, 2) := by decide +kernel
theorem dX3_at_21 : decode cX3_at 21 = .ok (.imul, 1) := by decide +kernel
theorem dX3_at_22 : decode cX3_at 22 = .ok (.iload_n 2, 1) := by decide +kernel
theorem dX3_at_23 : decode cX3_at 23 = .ok (.iadd, 1) := by decide +kernel
theorem dX3_at_24 : decode cX3_at 24 = .ok (.iaload, 1) := by decide +kernel
theorem dX3_at_25 : decode cX3_at 25 = .ok (.goto 4, 3) := by decide +kernel
theorem dX3_at_28 : decode cX3_at 28 = .ok (.iconst 0, 1) := by decide +kernel
theorem dX3_at_29 : decode cX3_at 29 = .ok (.ireturn, 1) := by decide +kernel
theorem dX3_put_0 : decode cX3_put 0 = .ok (.iload_n 1, 1) := by decide +kernel
theorem dX3_put_1 : decode cX3_put 1 = .ok (.invokestatic 22, 3) := by decide +kernel
theorem dX3_put_4 : decode cX3_put 4 = .ok (.ifCond .eq 22, 3) := by decide +kernel
theorem dX3_put_7 : decode cX3_put 7 = .ok (.iload_n 2, 1) := by decide +kernel
theorem dX3_put_8 : decode cX3_put 8 = .ok (.invokestatic 22, 3) := by decide +kernel
theorem dX3_put_11 : decode cX3_put 11 = .ok (.ifCond .eq 15, 3) := by decide +kernel
theorem dX3_put_14 : decode cX3_put 14 = .ok (.aload_n 0, 1) := by decide +kernel
theorem dX3_put_15 : decode cX3_put 15 = .ok (.getfield 9, 3) := by decide +kernel
theorem dX3_put_18 : decode cX3_put 18 = .ok (.iload_n 1, 1) := by decide +kernel
theorem dX3_put_19 : decode cX3_put 19 = .ok (.bipush 8, 2) := by decide +kernel
theorem dX3_put_21 : decode cX3_put 21 = .ok (.imul, 1) := by decide +kernel
theorem dX3_put_22 : decode cX3_put 22 = .ok (.iload_n 2, 1) := by decide +kernel
theorem dX3_put_23 : decode cX3_put 23 = .ok (.iadd, 1) := by decide +kernel
theorem dX3_put_24 : decode cX3_put 24 = .ok (.iload_n 3, 1) := by decide +kernel
theorem dX3_put_25 : decode cX3_put 25 = .ok (.iastore, 1) := by decide +kernel
theorem dX3_put_26 : decode cX3_put 26 = .ok (.return_, 1) := by decide +kernel
theorem dX6_set_0 : decode cX6_set 0 = .ok (.iload_n 1, 1) := by decide +kernel
theorem dX6_set_1 : decode cX6_set 1 = .ok (.invokestatic 70, 3) := by decide +kernel
theorem dX6_set_4 : decode cX6_set 4 = .ok (.ifCond .eq 17, 3) := by decide +kernel
theorem dX6_set_7 : decode cX6_set 7 = .ok (.iload_n 2, 1) := by decide +kernel
theorem dX6_set_8 : decode cX6_set 8 = .ok (.invokestatic 73, 3) := by decide +kernel
theorem dX6_set_11 : decode cX6_set 11 = .ok (.ifCond .eq 10, 3) := by decide +kernel
theorem dX6_set_14 : decode cX6_set 14 = .ok (.iload_n 3, 1) := by decide +kernel
theorem dX6_set_15 : decode cX6_set 15 = .ok (.invokestatic 73, 3) := by decide +kernel
theorem dX6_set_18 : decode cX6_set 18 = .ok (.ifCond .ne 5, 3) := by decide +kernel
theorem dX6_set_21 : decode cX6_set 21 = .ok (.iconst (-1), 1) := by decide +kernel
theorem dX6_set_22 : decode cX6_set 22 = .ok (.ireturn, 1) := by decide +kernel
theorem dX6_set_23 : decode cX6_set 23 = .ok (.iload 4, 2) := by decide +kernel
theorem dX6_set_25 : decode cX6_set 25 = .ok (.ifCond .lt 15, 3) := by decide +kernel
theorem dX6_set_28 : decode cX6_set 28 = .ok (.iload 4, 2) := by decide +kernel
theorem dX6_set_30 : decode cX6_set 30 = .ok (.aload_n 0, 1) := by decide +kernel
theorem dX6_set_31 : decode cX6_set 31 = .ok (.getfield 12, 3) := by decide +kernel
theorem dX6_set_34 : decode cX6_set 34 = .ok (.getfield 58, 3) := by decide +kernel
theorem dX6_set_37 : decode cX6_set 37 = .ok (.if_icmp .lt 6, 3) := by decide +kernel
theorem dX6_set_40 : decode cX6_set 40 = .ok (.bipush (-2), 2) := by decide +kernel
theorem dX6_set_42 : decode cX6_set 42 = .ok (.ireturn, 1) := by decide +kernel
theorem dX6_set_43 : decode cX6_set 43 = .ok (.aload_n 0, 1) := by decide +kernel
theorem dX6_set_44 : decode cX6_set 44 = .ok (.getfield 12, 3) := by decide +kernel
theorem dX6_set_47 : decode cX6_set 47 = .ok (.iload_n 1, 1) := by decide +kernel
theorem dX6_set_48 : decode cX6_set 48 = .ok (.invokevirtual 76, 3) := by decide +kernel
theorem dX6_set_51 : decode cX6_set 51 = .ok (.astore 5, 2) := by decide +kernel
theorem dX6_set_53 : decode cX6_set 53 = .ok (.aload 5, 2) := by decide +kernel
theorem dX6_set_55 : decode cX6_set 55 = .ok (.iload_n 2, 1) := by decide +kernel
theorem dX6_set_56 : decode cX6_set 56 = .ok (.iload_n 3, 1) := by decide +kernel
theorem dX6_set_57 : decode cX6_set 57 = .ok (.invokevirtual 80, 3) := by decide +kernel
theorem dX6_set_60 : decode cX6_set 60 = .ok (.istore 6, 2) := by decide +kernel
theorem dX6_set_62 : decode cX6_set 62 = .ok (.iload 4, 2) := by decide +kernel
theorem dX6_set_64 : decode cX6_set 64 = .ok (.iload 6, 2) := by decide +kernel
theorem dX6_set_66 : decode cX6_set 66 = .ok (.if_icmp .ne 6, 3) := by decide +kernel
theorem dX6_set_69 : decode cX6_set 69 = .ok (.bipush (-5), 2) := by decide +kernel
theorem dX6_set_71 : decode cX6_set 71 = .ok (.ireturn, 1) := by decide +kernel
theorem dX6_set_72 : decode cX6_set 72 = .ok (.aload_n 0, 1) := by decide +kernel
theorem dX6_set_73 : decode cX6_set 73 = .ok (.getfield 22, 3) := by decide +kernel
theorem dX6_set_76 : decode cX6_set 76 = .ok (.aload_n 0, 1) := by decide +kernel
theorem dX6_set_77 : decode cX6_set 77 = .ok (.getfield 12, 3) := by decide +kernel
theorem dX6_set_80 : decode cX6_set 80 = .ok (.invokevirtual 62, 3) := by decide +kernel
theorem dX6_set_83 : decode cX6_set 83 = .ok (.aload 5, 2) := by decide +kernel
theorem dX6_set_85 : decode cX6_set 85 = .ok (.iload_n 2, 1) := by decide +kernel
theorem dX6_set_86 : decode cX6_set 86 = .ok (.iload_n 3, 1) := by decide +kernel
theorem dX6_set_87 : decode cX6_set 87 = .ok (.iload 4, 2) := by decide +kernel
theorem dX6_set_89 : decode cX6_set 89 = .ok (.invokevirtual 86, 3) := by decide +kernel
theorem dX6_set_92 : decode cX6_set 92 = .ok (.iload 6, 2) := by decide +kernel
theorem dX6_set_94 : decode cX6_set 94 = .ok (.ireturn, 1) := by decide +kernel
theorem dX7_noTable_0 : decode cX7_noTable 0 = .ok (.iload_n 0, 1) := by decide +kernel
theorem dX7_noTable_1 : decode cX7_noTable 1 = .ok (.iconst 0, 1) := by decide +kernel
theorem dX7_noTable_2 : decode cX7_noTable 2 = .ok (.iconst 3, 1) := by decide +kernel
theorem dX7_noTable_3 : decode cX7_noTable 3 = .ok (.invokestatic 50, 3) := by decide +kernel
theorem dX7_noTable_6 : decode cX7_noTable 6 = .ok (.ifCond .ne 7, 3) := by decide +kernel
theorem dX7_noTable_9 : decode cX7_noTable 9 = .ok (.iconst 1, 1) := by decide +kernel
theorem dX7_noTable_10 : decode cX7_noTable 10 = .ok (.goto 4, 3) := by decide +kernel
theorem dX7_noTable_13 : decode cX7_noTable 13 = .ok (.iconst 0, 1) := by decide +kernel
theorem dX7_noTable_14 : decode cX7_noTable 14 = .ok (.ireturn, 1) := by decide +kernel
theorem dX7_noPlace_0 : decode cX7_noPlace 0 = .ok (.iload_n 0, 1) := by decide +kernel
theorem dX7_noPlace_1 : decode cX7_noPlace 1 = .ok (.iconst 0, 1) := by decide +kernel
theorem dX7_noPlace_2 : decode cX7_noPlace 2 = .ok (.bipush 7, 2) := by decide +kernel
theorem dX7_noPlace_4 : decode cX7_noPlace 4 = .ok (.invokestatic 50, 3) := by decide +kernel
theorem dX7_noPlace_7 : decode cX7_noPlace 7 = .ok (.ifCond .ne 7, 3) := by decide +kernel
theorem dX7_noPlace_10 : decode cX7_noPlace 10 = .ok (.iconst 1, 1) := by decide +kernel
theorem dX7_noPlace_11 : decode cX7_noPlace 11 = .ok (.goto 4, 3) := by decide +kernel
theorem dX7_noPlace_14 : decode cX7_noPlace 14 = .ok (.iconst 0, 1) := by decide +kernel
theorem dX7_noPlace_15 : decode cX7_noPlace 15 = .ok (.ireturn, 1) := by decide +kernel
theorem dX7_cellAt_0 : decode cX7_cellAt 0 = .ok (.iconst 1, 1) := by decide +kernel
theorem dX7_cellAt_1 : decode cX7_cellAt 1 = .ok (.bipush 64, 2) := by decide +kernel
theorem dX7_cellAt_3 : decode cX7_cellAt 3 = .ok (.iload_n 0, 1) := by decide +kernel
theorem dX7_cellAt_4 : decode cX7_cellAt 4 = .ok (.imul, 1) := by decide +kernel
theorem dX7_cellAt_5 : decode cX7_cellAt 5 = .ok (.iadd, 1) := by decide +kernel
theorem dX7_cellAt_6 : decode cX7_cellAt 6 = .ok (.bipush 8, 2) := by decide +kernel
theorem dX7_cellAt_8 : decode cX7_cellAt 8 = .ok (.iload_n 1, 1) := by decide +kernel
theorem dX7_cellAt_9 : decode cX7_cellAt 9 = .ok (.imul, 1) := by decide +kernel
theorem dX7_cellAt_10 : decode cX7_cellAt 10 = .ok (.iadd, 1) := by decide +kernel
theorem dX7_cellAt_11 : decode cX7_cellAt 11 = .ok (.iload_n 2, 1) := by decide +kernel
theorem dX7_cellAt_12 : decode cX7_cellAt 12 = .ok (.iadd, 1) := by decide +kernel
theorem dX7_cellAt_13 : decode cX7_cellAt 13 = .ok (.ireturn, 1) := by decide +kernel
theorem dX7_set_0 : decode cX7_set 0 = .ok (.iload_n 1, 1) := by decide +kernel
theorem dX7_set_1 : decode cX7_set 1 = .ok (.invokestatic 62, 3) := by decide +kernel
theorem dX7_set_4 : decode cX7_set 4 = .ok (.ifCond .ne 17, 3) := by decide +kernel
theorem dX7_set_7 : decode cX7_set 7 = .ok (.iload_n 2, 1) := by decide +kernel
theorem dX7_set_8 : decode cX7_set 8 = .ok (.invokestatic 65, 3) := by decide +kernel
theorem dX7_set_11 : decode cX7_set 11 = .ok (.ifCond .ne 10, 3) := by decide +kernel
theorem dX7_set_14 : decode cX7_set 14 = .ok (.iload_n 3, 1) := by decide +kernel
theorem dX7_set_15 : decode cX7_set 15 = .ok (.invokestatic 65, 3) := by decide +kernel
theorem dX7_set_18 : decode cX7_set 18 = .ok (.ifCond .eq 5, 3) := by decide +kernel
theorem dX7_set_21 : decode cX7_set 21 = .ok (.iconst (-1), 1) := by decide +kernel
theorem dX7_set_22 : decode cX7_set 22 = .ok (.ireturn, 1) := by decide +kernel
theorem dX7_set_23 : decode cX7_set 23 = .ok (.iload 4, 2) := by decide +kernel
theorem dX7_set_25 : decode cX7_set 25 = .ok (.iconst 0, 1) := by decide +kernel
theorem dX7_set_26 : decode cX7_set 26 = .ok (.aload_n 0, 1) := by decide +kernel
theorem dX7_set_27 : decode cX7_set 27 = .ok (.getfield 7, 3) := by decide +kernel
theorem dX7_set_30 : decode cX7_set 30 = .ok (.iconst 0, 1) := by decide +kernel
theorem dX7_set_31 : decode cX7_set 31 = .ok (.iaload, 1) := by decide +kernel
theorem dX7_set_32 : decode cX7_set 32 = .ok (.iconst 1, 1) := by decide +kernel
theorem dX7_set_33 : decode cX7_set 33 = .ok (.isub, 1) := by decide +kernel
theorem dX7_set_34 : decode cX7_set 34 = .ok (.invokestatic 50, 3) := by decide +kernel
theorem dX7_set_37 : decode cX7_set 37 = .ok (.ifCond .ne 6, 3) := by decide +kernel
theorem dX7_set_40 : decode cX7_set 40 = .ok (.bipush (-2), 2) := by decide +kernel
theorem dX7_set_42 : decode cX7_set 42 = .ok (.ireturn, 1) := by decide +kernel
theorem dX7_set_43 : decode cX7_set 43 = .ok (.iload_n 1, 1) := by decide +kernel
theorem dX7_set_44 : decode cX7_set 44 = .ok (.iload_n 2, 1) := by decide +kernel
theorem dX7_set_45 : decode cX7_set 45 = .ok (.iload_n 3, 1) := by decide +kernel
theorem dX7_set_46 : decode cX7_set 46 = .ok (.invokestatic 68, 3) := by decide +kernel
theorem dX7_set_49 : decode cX7_set 49 = .ok (.istore 5, 2) := by decide +kernel
theorem dX7_set_51 : decode cX7_set 51 = .ok (.aload_n 0, 1) := by decide +kernel
theorem dX7_set_52 : decode cX7_set 52 = .ok (.getfield 7, 3) := by decide +kernel
theorem dX7_set_55 : decode cX7_set 55 = .ok (.iload 5, 2) := by decide +kernel
theorem dX7_set_57 : decode cX7_set 57 = .ok (.iaload, 1) := by decide +kernel
theorem dX7_set_58 : decode cX7_set 58 = .ok (.istore 6, 2) := by decide +kernel
theorem dX7_set_60 : decode cX7_set 60 = .ok (.iload 6, 2) := by decide +kernel
theorem dX7_set_62 : decode cX7_set 62 = .ok (.iload 4, 2) := by decide +kernel
theorem dX7_set_64 : decode cX7_set 64 = .ok (.if_icmp .ne 6, 3) := by decide +kernel
theorem dX7_set_67 : decode cX7_set 67 = .ok (.bipush (-5), 2) := by decide +kernel
theorem dX7_set_69 : decode cX7_set 69 = .ok (.ireturn, 1) := by decide +kernel
theorem dX7_set_70 : decode cX7_set 70 = .ok (.aload_n 0, 1) := by decide +kernel
theorem dX7_set_71 : decode cX7_set 71 = .ok (.invokevirtual 47, 3) := by decide +kernel
theorem dX7_set_74 : decode cX7_set 74 = .ok (.aload_n 0, 1) := by decide +kernel
theorem dX7_set_75 : decode cX7_set 75 = .ok (.getfield 7, 3) := by decide +kernel
theorem dX7_set_78 : decode cX7_set 78 = .ok (.iload 5, 2) := by decide +kernel
theorem dX7_set_80 : decode cX7_set 80 = .ok (.iload 4, 2) := by decide +kernel
theorem dX7_set_82 : decode cX7_set 82 = .ok (.iastore, 1) := by decide +kernel
theorem dX7_set_83 : decode cX7_set 83 = .ok (.iload 6, 2) := by decide +kernel
theorem dX7_set_85 : decode cX7_set 85 = .ok (.ireturn, 1) := by decide +kernel
theorem dX5_startOf_0 : decode cX5_startOf 0 = .ok (.iconst 0, 1) := by decide +kernel
theorem dX5_startOf_1 : decode cX5_startOf 1 = .ok (.istore_n 2, 1) := by decide +kernel
theorem dX5_startOf_2 : decode cX5_startOf 2 = .ok (.iconst 0, 1) := by decide +kernel
theorem dX5_startOf_3 : decode cX5_startOf 3 = .ok (.istore_n 3, 1) := by decide +kernel
theorem dX5_startOf_4 : decode cX5_startOf 4 = .ok (.iload_n 3, 1) := by decide +kernel
theorem dX5_startOf_5 : decode cX5_startOf 5 = .ok (.bipush 64, 2) := by decide +kernel
theorem dX5_startOf_7 : decode cX5_startOf 7 = .ok (.if_icmp .ge 28, 3) := by decide +kernel
theorem dX5_startOf_10 : decode cX5_startOf 10 = .ok (.aload_n 0, 1) := by decide +kernel
theorem dX5_startOf_11 : decode cX5_startOf 11 = .ok (.getfield 9, 3) := by decide +kernel
theorem dX5_startOf_14 : decode cX5_startOf 14 = .ok (.iload_n 3, 1) := by decide +kernel
theorem dX5_startOf_15 : decode cX5_startOf 15 = .ok (.iaload, 1) := by decide +kernel
theorem dX5_startOf_16 : decode cX5_startOf 16 = .ok (.ifCond .le 13, 3) := by decide +kernel
theorem dX5_startOf_19 : decode cX5_startOf 19 = .ok (.iload_n 2, 1) := by decide +kernel
theorem dX5_startOf_20 : decode cX5_startOf 20 = .ok (.iload_n 1, 1) := by decide +kernel
theorem dX5_startOf_21 : decode cX5_startOf 21 = .ok (.if_icmp .ne 5, 3) := by decide +kernel
theorem dX5_startOf_24 : decode cX5_startOf 24 = .ok (.iload_n 3, 1) := by decide +kernel
theorem dX5_startOf_25 : decode cX5_startOf 25 = .ok (.ireturn, 1) := by decide +kernel
theorem dX5_startOf_26 : decode cX5_startOf 26 = .ok (.iinc 2 1, 3) := by decide +kernel
theorem dX5_startOf_29 : decode cX5_startOf 29 = .ok (.iinc 3 1, 3) := by decide +kernel
theorem dX5_startOf_32 : decode cX5_startOf 32 = .ok (.goto (-28), 3) := by decide +kernel
theorem dX5_startOf_35 : decode cX5_startOf 35 = .ok (.iconst (-1), 1) := by decide +kernel
theorem dX5_startOf_36 : decode cX5_startOf 36 = .ok (.ireturn, 1) := by decide +kernel
theorem dX6_leafStart_0 : decode cX6_leafStart 0 = .ok (.iload_n 1, 1) := by decide +kernel
theorem dX6_leafStart_1 : decode cX6_leafStart 1 = .ok (.invokestatic 70, 3) := by decide +kernel
theorem dX6_leafStart_4 : decode cX6_leafStart 4 = .ok (.ifCond .eq 21, 3) := by decide +kernel
theorem dX6_leafStart_7 : decode cX6_leafStart 7 = .ok (.aload_n 0, 1) := by decide +kernel
theorem dX6_leafStart_8 : decode cX6_leafStart 8 = .ok (.getfield 12, 3) := by decide +kernel
theorem dX6_leafStart_11 : decode cX6_leafStart 11 = .ok (.iload_n 1, 1) := by decide +kernel
theorem dX6_leafStart_12 : decode cX6_leafStart 12 = .ok (.invokevirtual 76, 3) := by decide +kernel
theorem dX6_leafStart_15 : decode cX6_leafStart 15 = .ok (.getfield 93, 3) := by decide +kernel
theorem dX6_leafStart_18 : decode cX6_leafStart 18 = .ok (.iload_n 2, 1) := by decide +kernel
theorem dX6_leafStart_19 : decode cX6_leafStart 19 = .ok (.invokevirtual 254, 3) := by decide +kernel
theorem dX6_leafStart_22 : decode cX6_leafStart 22 = .ok (.goto 4, 3) := by decide +kernel
theorem dX6_leafStart_25 : decode cX6_leafStart 25 = .ok (.iconst (-1), 1) := by decide +kernel
theorem dX6_leafStart_26 : decode cX6_leafStart 26 = .ok (.ireturn, 1) := by decide +kernel
theorem dX5_sizeAt_0 : decode cX5_sizeAt 0 = .ok (.iload_n 1, 1) := by decide +kernel
theorem dX5_sizeAt_1 : decode cX5_sizeAt 1 = .ok (.ifCond .lt 18, 3) := by decide +kernel
theorem dX5_sizeAt_4 : decode cX5_sizeAt 4 = .ok (.iload_n 1, 1) := by decide +kernel
theorem dX5_sizeAt_5 : decode cX5_sizeAt 5 = .ok (.bipush 64, 2) := by decide +kernel
theorem dX5_sizeAt_7 : decode cX5_sizeAt 7 = .ok (.if_icmp .ge 12, 3) := by decide +kernel
theorem dX5_sizeAt_10 : decode cX5_sizeAt 10 = .ok (.aload_n 0, 1) := by decide +kernel
theorem dX5_sizeAt_11 : decode cX5_sizeAt 11 = .ok (.getfield 9, 3) := by decide +kernel
theorem dX5_sizeAt_14 : decode cX5_sizeAt 14 = .ok (.iload_n 1, 1) := by decide +kernel
theorem dX5_sizeAt_15 : decode cX5_sizeAt 15 = .ok (.iaload, 1) := by decide +kernel
theorem dX5_sizeAt_16 : decode cX5_sizeAt 16 = .ok (.goto 4, 3) := by decide +kernel
theorem dX5_sizeAt_19 : decode cX5_sizeAt 19 = .ok (.iconst 0, 1) := by decide +kernel
theorem dX5_sizeAt_20 : decode cX5_sizeAt 20 = .ok (.ireturn, 1) := by decide +kernel
theorem dX4_nextSign_0 : decode cX4_nextSign 0 = .ok (.aload_n 0, 1) := by decide +kernel
theorem dX4_nextSign_1 : decode cX4_nextSign 1 = .ok (.getfield 38, 3) := by decide +kernel
theorem dX4_nextSign_4 : decode cX4_nextSign 4 = .ok (.ifCond .lt 35, 3) := by decide +kernel
theorem dX4_nextSign_7 : decode cX4_nextSign 7 = .ok (.aload_n 0, 1) := by decide +kernel
theorem dX4_nextSign_8 : decode cX4_nextSign 8 = .ok (.getfield 38, 3) := by decide +kernel
theorem dX4_nextSign_11 : decode cX4_nextSign 11 = .ok (.aload_n 0, 1) := by decide +kernel
theorem dX4_nextSign_12 : decode cX4_nextSign 12 = .ok (.getfield 22, 3) := by decide +kernel
theorem dX4_nextSign_15 : decode cX4_nextSign 15 = .ok (.if_icmp .ge 24, 3) := by decide +kernel
theorem dX4_nextSign_18 : decode cX4_nextSign 18 = .ok (.aload_n 0, 1) := by decide +kernel
theorem dX4_nextSign_19 : decode cX4_nextSign 19 = .ok (.getfield 38, 3) := by decide +kernel
theorem dX4_nextSign_22 : decode cX4_nextSign 22 = .ok (.bipush 60, 2) := by decide +kernel
theorem dX4_nextSign_24 : decode cX4_nextSign 24 = .ok (.if_icmp .ge 15, 3) := by decide +kernel
theorem dX4_nextSign_27 : decode cX4_nextSign 27 = .ok (.aload_n 0, 1) := by decide +kernel
theorem dX4_nextSign_28 : decode cX4_nextSign 28 = .ok (.getfield 9, 3) := by decide +kernel
theorem dX4_nextSign_31 : decode cX4_nextSign 31 = .ok (.aload_n 0, 1) := by decide +kernel
theorem dX4_nextSign_32 : decode cX4_nextSign 32 = .ok (.getfield 38, 3) := by decide +kernel
theorem dX4_nextSign_35 : decode cX4_nextSign 35 = .ok (.iaload, 1) := by decide +kernel
theorem dX4_nextSign_36 : decode cX4_nextSign 36 = .ok (.goto 4, 3) := by decide +kernel
theorem dX4_nextSign_39 : decode cX4_nextSign 39 = .ok (.iconst (-1), 1) := by decide +kernel
theorem dX4_nextSign_40 : decode cX4_nextSign 40 = .ok (.ireturn, 1) := by decide +kernel
theorem dX4_take_0 : decode cX4_take 0 = .ok (.aload_n 0, 1) := by decide +kernel
theorem dX4_take_1 : decode cX4_take 1 = .ok (.invokevirtual 71, 3) := by decide +kernel
theorem dX4_take_4 : decode cX4_take 4 = .ok (.iload_n 1, 1) := by decide +kernel
theorem dX4_take_5 : decode cX4_take 5 = .ok (.if_icmp .eq 5, 3) := by decide +kernel
theorem dX4_take_8 : decode cX4_take 8 = .ok (.iconst 0, 1) := by decide +kernel
theorem dX4_take_9 : decode cX4_take 9 = .ok (.ireturn, 1) := by decide +kernel
theorem dX4_take_10 : decode cX4_take 10 = .ok (.aload_n 0, 1) := by decide +kernel
theorem dX4_take_11 : decode cX4_take 11 = .ok (.dup, 1) := by decide +kernel
theorem dX4_take_12 : decode cX4_take 12 = .ok (.getfield 38, 3) := by decide +kernel
theorem dX4_take_15 : decode cX4_take 15 = .ok (.iconst 1, 1) := by decide +kernel
theorem dX4_take_16 : decode cX4_take 16 = .ok (.iadd, 1) := by decide +kernel
theorem dX4_take_17 : decode cX4_take 17 = .ok (.putfield 38, 3) := by decide +kernel
theorem dX4_take_20 : decode cX4_take 20 = .ok (.iconst 1, 1) := by decide +kernel
theorem dX4_take_21 : decode cX4_take 21 = .ok (.ireturn, 1) := by decide +kernel
theorem dX4_isDigit_0 : decode cX4_isDigit 0 = .ok (.iload_n 0, 1) := by decide +kernel
theorem dX4_isDigit_1 : decode cX4_isDigit 1 = .ok (.bipush 48, 2) := by decide +kernel
theorem dX4_isDigit_3 : decode cX4_isDigit 3 = .ok (.if_icmp .lt 13, 3) := by decide +kernel
theorem dX4_isDigit_6 : decode cX4_isDigit 6 = .ok (.iload_n 0, 1) := by decide +kernel
theorem dX4_isDigit_7 : decode cX4_isDigit 7 = .ok (.bipush 57, 2) := by decide +kernel
theorem dX4_isDigit_9 : decode cX4_isDigit 9 = .ok (.if_icmp .gt 7, 3) := by decide +kernel
theorem dX4_isDigit_12 : decode cX4_isDigit 12 = .ok (.iconst 1, 1) := by decide +kernel
theorem dX4_isDigit_13 : decode cX4_isDigit 13 = .ok (.goto 4, 3) := by decide +kernel
theorem dX4_isDigit_16 : decode cX4_isDigit 16 = .ok (.iconst 0, 1) := by decide +kernel
theorem dX4_isDigit_17 : decode cX4_isDigit 17 = .ok (.ireturn, 1) := by decide +kernel
theorem dX4_takeDigit_0 : decode cX4_takeDigit 0 = .ok (.aload_n 0, 1) := by decide +kernel
theorem dX4_takeDigit_1 : decode cX4_takeDigit 1 = .ok (.invokevirtual 71, 3) := by decide +kernel
theorem dX4_takeDigit_4 : decode cX4_takeDigit 4 = .ok (.bipush 48, 2) := by decide +kernel
theorem dX4_takeDigit_6 : decode cX4_takeDigit 6 = .ok (.isub, 1) := by decide +kernel
theorem dX4_takeDigit_7 : decode cX4_takeDigit 7 = .ok (.istore_n 1, 1) := by decide +kernel
theorem dX4_takeDigit_8 : decode cX4_takeDigit 8 = .ok (.aload_n 0, 1) := by decide +kernel
theorem dX4_takeDigit_9 : decode cX4_takeDigit 9 = .ok (.dup, 1) := by decide +kernel
theorem dX4_takeDigit_10 : decode cX4_takeDigit 10 = .ok (.getfield 38, 3) := by decide +kernel
theorem dX4_takeDigit_13 : decode cX4_takeDigit 13 = .ok (.iconst 1, 1) := by decide +kernel
theorem dX4_takeDigit_14 : decode cX4_takeDigit 14 = .ok (.iadd, 1) := by decide +kernel
theorem dX4_takeDigit_15 : decode cX4_takeDigit 15 = .ok (.putfield 38, 3) := by decide +kernel
theorem dX4_takeDigit_18 : decode cX4_takeDigit 18 = .ok (.iload_n 1, 1) := by decide +kernel
theorem dX4_takeDigit_19 : decode cX4_takeDigit 19 = .ok (.ireturn, 1) := by decide +kernel
theorem dX4_takeNumber_0 : decode cX4_takeNumber 0 = .ok (.aload_n 0, 1) := by decide +kernel
theorem dX4_takeNumber_1 : decode cX4_takeNumber 1 = .ok (.invokevirtual 71, 3) := by decide +kernel
theorem dX4_takeNumber_4 : decode cX4_takeNumber 4 = .ok (.invokestatic 74, 3) := by decide +kernel
theorem dX4_takeNumber_7 : decode cX4_takeNumber 7 = .ok (.ifCond .eq 22, 3) := by decide +kernel
theorem dX4_takeNumber_10 : decode cX4_takeNumber 10 = .ok (.aload_n 0, 1) := by decide +kernel
theorem dX4_takeNumber_11 : decode cX4_takeNumber 11 = .ok (.getfield 25, 3) := by decide +kernel
theorem dX4_takeNumber_14 : decode cX4_takeNumber 14 = .ok (.ifCond .lt 15, 3) := by decide +kernel
theorem dX4_takeNumber_17 : decode cX4_takeNumber 17 = .ok (.aload_n 0, 1) := by decide +kernel
theorem dX4_takeNumber_18 : decode cX4_takeNumber 18 = .ok (.getfield 25, 3) := by decide +kernel
theorem dX4_takeNumber_21 : decode cX4_takeNumber 21 = .ok (.aload_n 0, 1) := by decide +kernel
theorem dX4_takeNumber_22 : decode cX4_takeNumber 22 = .ok (.getfield 15, 3) := by decide +kernel
theorem dX4_takeNumber_25 : decode cX4_takeNumber 25 = .ok (.arraylength, 1) := by decide +kernel
theorem dX4_takeNumber_26 : decode cX4_takeNumber 26 = .ok (.if_icmp .lt 5, 3) := by decide +kernel
theorem dX4_takeNumber_29 : decode cX4_takeNumber 29 = .ok (.iconst 0, 1) := by decide +kernel
theorem dX4_takeNumber_30 : decode cX4_takeNumber 30 = .ok (.ireturn, 1) := by decide +kernel
theorem dX4_takeNumber_31 : decode cX4_takeNumber 31 = .ok (.aload_n 0, 1) := by decide +kernel
theorem dX4_takeNumber_32 : decode cX4_takeNumber 32 = .ok (.invokevirtual 77, 3) := by decide +kernel
theorem dX4_takeNumber_35 : decode cX4_takeNumber 35 = .ok (.istore_n 1, 1) := by decide +kernel
theorem dX4_takeNumber_36 : decode cX4_takeNumber 36 = .ok (.iload_n 1, 1) := by decide +kernel
theorem dX4_takeNumber_37 : decode cX4_takeNumber 37 = .ok (.ifCond .eq 36, 3) := by decide +kernel
theorem dX4_takeNumber_40 : decode cX4_takeNumber 40 = .ok (.iconst 1, 1) := by decide +kernel
theorem dX4_takeNumber_41 : decode cX4_takeNumber 41 = .ok (.istore_n 2, 1) := by decide +kernel
theorem dX4_takeNumber_42 : decode cX4_takeNumber 42 = .ok (.iload_n 2, 1) := by decide +kernel
theorem dX4_takeNumber_43 : decode cX4_takeNumber 43 = .ok (.iconst 3, 1) := by decide +kernel
theorem dX4_takeNumber_44 : decode cX4_takeNumber 44 = .ok (.if_icmp .ge 29, 3) := by decide +kernel
theorem dX4_takeNumber_47 : decode cX4_takeNumber 47 = .ok (.aload_n 0, 1) := by decide +kernel
theorem dX4_takeNumber_48 : decode cX4_takeNumber 48 = .ok (.invokevirtual 71, 3) := by decide +kernel
theorem dX4_takeNumber_51 : decode cX4_takeNumber 51 = .ok (.invokestatic 74, 3) := by decide +kernel
theorem dX4_takeNumber_54 : decode cX4_takeNumber 54 = .ok (.ifCond .eq 19, 3) := by decide +kernel
theorem dX4_takeNumber_57 : decode cX4_takeNumber 57 = .ok (.iload_n 1, 1) := by decide +kernel
theorem dX4_takeNumber_58 : decode cX4_takeNumber 58 = .ok (.bipush 10, 2) := by decide +kernel
theorem dX4_takeNumber_60 : decode cX4_takeNumber 60 = .ok (.imul, 1) := by decide +kernel
theorem dX4_takeNumber_61 : decode cX4_takeNumber 61 = .ok (.aload_n 0, 1) := by decide +kernel
theorem dX4_takeNumber_62 : decode cX4_takeNumber 62 = .ok (.invokevirtual 77, 3) := by decide +kernel
theorem dX4_takeNumber_65 : decode cX4_takeNumber 65 = .ok (.iadd, 1) := by decide +kernel
theorem dX4_takeNumber_66 : decode cX4_takeNumber 66 = .ok (.istore_n 1, 1) := by decide +kernel
theorem dX4_takeNumber_67 : decode cX4_takeNumber 67 = .ok (.iinc 2 1, 3) := by decide +kernel
theorem dX4_takeNumber_70 : decode cX4_takeNumber 70 = .ok (.goto (-28), 3) := by decide +kernel
theorem dX4_takeNumber_73 : decode cX4_takeNumber 73 = .ok (.aload_n 0, 1) := by decide +kernel
theorem dX4_takeNumber_74 : decode cX4_takeNumber 74 = .ok (.getfield 15, 3) := by decide +kernel
theorem dX4_takeNumber_77 : decode cX4_takeNumber 77 = .ok (.aload_n 0, 1) := by decide +kernel
theorem dX4_takeNumber_78 : decode cX4_takeNumber 78 = .ok (.getfield 25, 3) := by decide +kernel
theorem dX4_takeNumber_81 : decode cX4_takeNumber 81 = .ok (.iload_n 1, 1) := by decide +kernel
theorem dX4_takeNumber_82 : decode cX4_takeNumber 82 = .ok (.iastore, 1) := by decide +kernel
theorem dX4_takeNumber_83 : decode cX4_takeNumber 83 = .ok (.aload_n 0, 1) := by decide +kernel
theorem dX4_takeNumber_84 : decode cX4_takeNumber 84 = .ok (.dup, 1) := by decide +kernel
theorem dX4_takeNumber_85 : decode cX4_takeNumber 85 = .ok (.getfield 25, 3) := by decide +kernel
theorem dX4_takeNumber_88 : decode cX4_takeNumber 88 = .ok (.iconst 1, 1) := by decide +kernel
theorem dX4_takeNumber_89 : decode cX4_takeNumber 89 = .ok (.iadd, 1) := by decide +kernel
theorem dX4_takeNumber_90 : decode cX4_takeNumber 90 = .ok (.putfield 25, 3) := by decide +kernel
theorem dX4_takeNumber_93 : decode cX4_takeNumber 93 = .ok (.iconst 1, 1) := by decide +kernel
theorem dX4_takeNumber_94 : decode cX4_takeNumber 94 = .ok (.ireturn, 1) := by decide +kernel
theorem dX4_faultBehind_0 : decode cX4_faultBehind 0 = .ok (.aload_n 0, 1) := by decide +kernel
theorem dX4_faultBehind_1 : decode cX4_faultBehind 1 = .ok (.getfield 38, 3) := by decide +kernel
theorem dX4_faultBehind_4 : decode cX4_faultBehind 4 = .ok (.aload_n 0, 1) := by decide +kernel
theorem dX4_faultBehind_5 : decode cX4_faultBehind 5 = .ok (.getfield 22, 3) := by decide +kernel
theorem dX4_faultBehind_8 : decode cX4_faultBehind 8 = .ok (.if_icmp .ge 10, 3) := by decide +kernel
theorem dX4_faultBehind_11 : decode cX4_faultBehind 11 = .ok (.aload_n 0, 1) := by decide +kernel
theorem dX4_faultBehind_12 : decode cX4_faultBehind 12 = .ok (.getfield 38, 3) := by decide +kernel
theorem dX4_faultBehind_15 : decode cX4_faultBehind 15 = .ok (.goto 4, 3) := by decide +kernel
theorem dX4_faultBehind_18 : decode cX4_faultBehind 18 = .ok (.iconst (-1), 1) := by decide +kernel
theorem dX4_faultBehind_19 : decode cX4_faultBehind 19 = .ok (.ireturn, 1) := by decide +kernel
theorem dX4_readRows_0 : decode cX4_readRows 0 = .ok (.aload_n 0, 1) := by decide +kernel
theorem dX4_readRows_1 : decode cX4_readRows 1 = .ok (.iconst 0, 1) := by decide +kernel
theorem dX4_readRows_2 : decode cX4_readRows 2 = .ok (.putfield 38, 3) := by decide +kernel
theorem dX4_readRows_5 : decode cX4_readRows 5 = .ok (.aload_n 0, 1) := by decide +kernel
theorem dX4_readRows_6 : decode cX4_readRows 6 = .ok (.iconst 0, 1) := by decide +kernel
theorem dX4_readRows_7 : decode cX4_readRows 7 = .ok (.putfield 25, 3) := by decide +kernel
theorem dX4_readRows_10 : decode cX4_readRows 10 = .ok (.iload_n 1, 1) := by decide +kernel
theorem dX4_readRows_11 : decode cX4_readRows 11 = .ok (.iload_n 2, 1) := by decide +kernel
theorem dX4_readRows_12 : decode cX4_readRows 12 = .ok (.imul, 1) := by decide +kernel
theorem dX4_readRows_13 : decode cX4_readRows 13 = .ok (.aload_n 0, 1) := by decide +kernel
theorem dX4_readRows_14 : decode cX4_readRows 14 = .ok (.getfield 15, 3) := by decide +kernel
theorem dX4_readRows_17 : decode cX4_readRows 17 = .ok (.arraylength, 1) := by decide +kernel
theorem dX4_readRows_18 : decode cX4_readRows 18 = .ok (.invokestatic 41, 3) := by decide +kernel
theorem dX4_readRows_21 : decode cX4_readRows 21 = .ok (.istore_n 3, 1) := by decide +kernel
theorem dX4_readRows_22 : decode cX4_readRows 22 = .ok (.iconst 0, 1) := by decide +kernel
theorem dX4_readRows_23 : decode cX4_readRows 23 = .ok (.istore 4, 2) := by decide +kernel
theorem dX4_readRows_25 : decode cX4_readRows 25 = .ok (.iload 4, 2) := by decide +kernel
theorem dX4_readRows_27 : decode cX4_readRows 27 = .ok (.iload_n 3, 1) := by decide +kernel
theorem dX4_readRows_28 : decode cX4_readRows 28 = .ok (.if_icmp .ge 58, 3) := by decide +kernel
theorem dX4_readRows_31 : decode cX4_readRows 31 = .ok (.iload 4, 2) := by decide +kernel
theorem dX4_readRows_33 : decode cX4_readRows 33 = .ok (.ifCond .eq 23, 3) := by decide +kernel
theorem dX4_readRows_36 : decode cX4_readRows 36 = .ok (.aload_n 0, 1) := by decide +kernel
theorem dX4_readRows_37 : decode cX4_readRows 37 = .ok (.iload 4, 2) := by decide +kernel
theorem dX4_readRows_39 : decode cX4_readRows 39 = .ok (.iload_n 2, 1) := by decide +kernel
theorem dX4_readRows_40 : decode cX4_readRows 40 = .ok (.if_icmp .ne 8, 3) := by decide +kernel
theorem dX4_readRows_43 : decode cX4_readRows 43 = .ok (.bipush 59, 2) := by decide +kernel
theorem dX4_readRows_45 : decode cX4_readRows 45 = .ok (.goto 5, 3) := by decide +kernel
theorem dX4_readRows_48 : decode cX4_readRows 48 = .ok (.bipush 44, 2) := by decide +kernel
theorem dX4_readRows_50 : decode cX4_readRows 50 = .ok (.invokevirtual 44, 3) := by decide +kernel
theorem dX4_readRows_53 : decode cX4_readRows 53 = .ok (.ifCond .eq 7, 3) := by decide +kernel
theorem dX4_readRows_56 : decode cX4_readRows 56 = .ok (.iconst 1, 1) := by decide +kernel
theorem dX4_readRows_57 : decode cX4_readRows 57 = .ok (.goto 4, 3) := by decide +kernel
theorem dX4_readRows_60 : decode cX4_readRows 60 = .ok (.iconst 0, 1) := by decide +kernel
theorem dX4_readRows_61 : decode cX4_readRows 61 = .ok (.istore 5, 2) := by decide +kernel
theorem dX4_readRows_63 : decode cX4_readRows 63 = .ok (.iload 5, 2) := by decide +kernel
theorem dX4_readRows_65 : decode cX4_readRows 65 = .ok (.ifCond .eq 10, 3) := by decide +kernel
theorem dX4_readRows_68 : decode cX4_readRows 68 = .ok (.aload_n 0, 1) := by decide +kernel
theorem dX4_readRows_69 : decode cX4_readRows 69 = .ok (.invokevirtual 48, 3) := by decide +kernel
theorem dX4_readRows_72 : decode cX4_readRows 72 = .ok (.ifCond .ne 8, 3) := by decide +kernel
theorem dX4_readRows_75 : decode cX4_readRows 75 = .ok (.aload_n 0, 1) := by decide +kernel
theorem dX4_readRows_76 : decode cX4_readRows 76 = .ok (.getfield 38, 3) := by decide +kernel
theorem dX4_readRows_79 : decode cX4_readRows 79 = .ok (.ireturn, 1) := by decide +kernel
theorem dX4_readRows_80 : decode cX4_readRows 80 = .ok (.iinc 4 1, 3) := by decide +kernel
theorem dX4_readRows_83 : decode cX4_readRows 83 = .ok (.goto (-58), 3) := by decide +kernel
theorem dX4_readRows_86 : decode cX4_readRows 86 = .ok (.aload_n 0, 1) := by decide +kernel
theorem dX4_readRows_87 : decode cX4_readRows 87 = .ok (.invokevirtual 52, 3) := by decide +kernel
theorem dX4_readRows_90 : decode cX4_readRows 90 = .ok (.ireturn, 1) := by decide +kernel
theorem dX4_numberAt_0 : decode cX4_numberAt 0 = .ok (.iload_n 1, 1) := by decide +kernel
theorem dX4_numberAt_1 : decode cX4_numberAt 1 = .ok (.ifCond .lt 29, 3) := by decide +kernel
theorem dX4_numberAt_4 : decode cX4_numberAt 4 = .ok (.iload_n 1, 1) := by decide +kernel
theorem dX4_numberAt_5 : decode cX4_numberAt 5 = .ok (.aload_n 0, 1) := by decide +kernel
theorem dX4_numberAt_6 : decode cX4_numberAt 6 = .ok (.getfield 25, 3) := by decide +kernel
theorem dX4_numberAt_9 : decode cX4_numberAt 9 = .ok (.if_icmp .ge 21, 3) := by decide +kernel
theorem dX4_numberAt_12 : decode cX4_numberAt 12 = .ok (.iload_n 1, 1) := by decide +kernel
theorem dX4_numberAt_13 : decode cX4_numberAt 13 = .ok (.aload_n 0, 1) := by decide +kernel
theorem dX4_numberAt_14 : decode cX4_numberAt 14 = .ok (.getfield 15, 3) := by decide +kernel
theorem dX4_numberAt_17 : decode cX4_numberAt 17 = .ok (.arraylength, 1) := by decide +kernel
theorem dX4_numberAt_18 : decode cX4_numberAt 18 = .ok (.if_icmp .ge 12, 3) := by decide +kernel
theorem dX4_numberAt_21 : decode cX4_numberAt 21 = .ok (.aload_n 0, 1) := by decide +kernel
theorem dX4_numberAt_22 : decode cX4_numberAt 22 = .ok (.getfield 15, 3) := by decide +kernel
theorem dX4_numberAt_25 : decode cX4_numberAt 25 = .ok (.iload_n 1, 1) := by decide +kernel
theorem dX4_numberAt_26 : decode cX4_numberAt 26 = .ok (.iaload, 1) := by decide +kernel
theorem dX4_numberAt_27 : decode cX4_numberAt 27 = .ok (.goto 4, 3) := by decide +kernel
theorem dX4_numberAt_30 : decode cX4_numberAt 30 = .ok (.iconst 0, 1) := by decide +kernel
theorem dX4_numberAt_31 : decode cX4_numberAt 31 = .ok (.ireturn, 1) := by decide +kernel
theorem dX4_greatestNumber_0 : decode cX4_greatestNumber 0 = .ok (.iconst 0, 1) := by decide +kernel
theorem dX4_greatestNumber_1 : decode cX4_greatestNumber 1 = .ok (.istore_n 1, 1) := by decide +kernel
theorem dX4_greatestNumber_2 : decode cX4_greatestNumber 2 = .ok (.iconst 0, 1) := by decide +kernel
theorem dX4_greatestNumber_3 : decode cX4_greatestNumber 3 = .ok (.istore_n 2, 1) := by decide +kernel
theorem dX4_greatestNumber_4 : decode cX4_greatestNumber 4 = .ok (.iload_n 2, 1) := by decide +kernel
theorem dX4_greatestNumber_5 : decode cX4_greatestNumber 5 = .ok (.aload_n 0, 1) := by decide +kernel
theorem dX4_greatestNumber_6 : decode cX4_greatestNumber 6 = .ok (.getfield 25, 3) := by decide +kernel
theorem dX4_greatestNumber_9 : decode cX4_greatestNumber 9 = .ok (.if_icmp .ge 19, 3) := by decide +kernel
theorem dX4_greatestNumber_12 : decode cX4_greatestNumber 12 = .ok (.iload_n 1, 1) := by decide +kernel
theorem dX4_greatestNumber_13 : decode cX4_greatestNumber 13 = .ok (.aload_n 0, 1) := by decide +kernel
theorem dX4_greatestNumber_14 : decode cX4_greatestNumber 14 = .ok (.iload_n 2, 1) := by decide +kernel
theorem dX4_greatestNumber_15 : decode cX4_greatestNumber 15 = .ok (.invokevirtual 28, 3) := by decide +kernel
theorem dX4_greatestNumber_18 : decode cX4_greatestNumber 18 = .ok (.invokestatic 32, 3) := by decide +kernel
theorem dX4_greatestNumber_21 : decode cX4_greatestNumber 21 = .ok (.istore_n 1, 1) := by decide +kernel
theorem dX4_greatestNumber_22 : decode cX4_greatestNumber 22 = .ok (.iinc 2 1, 3) := by decide +kernel
theorem dX4_greatestNumber_25 : decode cX4_greatestNumber 25 = .ok (.goto (-21), 3) := by decide +kernel
theorem dX4_greatestNumber_28 : decode cX4_greatestNumber 28 = .ok (.iload_n 1, 1) := by decide +kernel
theorem dX4_greatestNumber_29 : decode cX4_greatestNumber 29 = .ok (.ireturn, 1) := by decide +kernel
theorem dX5_rowOf_0 : decode cX5_rowOf 0 = .ok (.iload_n 0, 1) := by decide +kernel
theorem dX5_rowOf_1 : decode cX5_rowOf 1 = .ok (.iconst 3, 1) := by decide +kernel
theorem dX5_rowOf_2 : decode cX5_rowOf 2 = .ok (.ishr, 1) := by decide +kernel
theorem dX5_rowOf_3 : decode cX5_rowOf 3 = .ok (.iconst 4, 1) := by decide +kernel
theorem dX5_rowOf_4 : decode cX5_rowOf 4 = .ok (.iand, 1) := by decide +kernel
theorem dX5_rowOf_5 : decode cX5_rowOf 5 = .ok (.iload_n 0, 1) := by decide +kernel
theorem dX5_rowOf_6 : decode cX5_rowOf 6 = .ok (.iconst 2, 1) := by decide +kernel
theorem dX5_rowOf_7 : decode cX5_rowOf 7 = .ok (.ishr, 1) := by decide +kernel
theorem dX5_rowOf_8 : decode cX5_rowOf 8 = .ok (.iconst 2, 1) := by decide +kernel
theorem dX5_rowOf_9 : decode cX5_rowOf 9 = .ok (.iand, 1) := by decide +kernel
theorem dX5_rowOf_10 : decode cX5_rowOf 10 = .ok (.ior, 1) := by decide +kernel
theorem dX5_rowOf_11 : decode cX5_rowOf 11 = .ok (.iload_n 0, 1) := by decide +kernel
theorem dX5_rowOf_12 : decode cX5_rowOf 12 = .ok (.iconst 1, 1) := by decide +kernel
theorem dX5_rowOf_13 : decode cX5_rowOf 13 = .ok (.ishr, 1) := by decide +kernel
theorem dX5_rowOf_14 : decode cX5_rowOf 14 = .ok (.iconst 1, 1) := by decide +kernel
theorem dX5_rowOf_15 : decode cX5_rowOf 15 = .ok (.iand, 1) := by decide +kernel
theorem dX5_rowOf_16 : decode cX5_rowOf 16 = .ok (.ior, 1) := by decide +kernel
theorem dX5_rowOf_17 : decode cX5_rowOf 17 = .ok (.ireturn, 1) := by decide +kernel
theorem dX5_columnOf_0 : decode cX5_columnOf 0 = .ok (.iload_n 0, 1) := by decide +kernel
theorem dX5_columnOf_1 : decode cX5_columnOf 1 = .ok (.iconst 1, 1) := by decide +kernel
theorem dX5_columnOf_2 : decode cX5_columnOf 2 = .ok (.ishl, 1) := by decide +kernel
theorem dX5_columnOf_3 : decode cX5_columnOf 3 = .ok (.invokestatic 15, 3) := by decide +kernel
theorem dX5_columnOf_6 : decode cX5_columnOf 6 = .ok (.ireturn, 1) := by decide +kernel
theorem dX6_addRowsOfText_0 : decode cX6_addRowsOfText 0 = .ok (.iload_n 2, 1) := by decide +kernel
theorem dX6_addRowsOfText_1 : decode cX6_addRowsOfText 1 = .ok (.invokestatic 218, 3) := by decide +kernel
theorem dX6_addRowsOfText_4 : decode cX6_addRowsOfText 4 = .ok (.istore 4, 2) := by decide +kernel
theorem dX6_addRowsOfText_6 : decode cX6_addRowsOfText 6 = .ok (.iload_n 2, 1) := by decide +kernel
theorem dX6_addRowsOfText_7 : decode cX6_addRowsOfText 7 = .ok (.invokestatic 221, 3) := by decide +kernel
theorem dX6_addRowsOfText_10 : decode cX6_addRowsOfText 10 = .ok (.istore 5, 2) := by decide +kernel
theorem dX6_addRowsOfText_12 : decode cX6_addRowsOfText 12 = .ok (.iconst 0, 1) := by decide +kernel
theorem dX6_addRowsOfText_13 : decode cX6_addRowsOfText 13 = .ok (.istore 6, 2) := by decide +kernel
theorem dX6_addRowsOfText_15 : decode cX6_addRowsOfText 15 = .ok (.iload 6, 2) := by decide +kernel
theorem dX6_addRowsOfText_17 : decode cX6_addRowsOfText 17 = .ok (.iload_n 3, 1) := by decide +kernel
theorem dX6_addRowsOfText_18 : decode cX6_addRowsOfText 18 = .ok (.if_icmp .ge 92, 3) := by decide +kernel
theorem dX6_addRowsOfText_21 : decode cX6_addRowsOfText 21 = .ok (.iconst 0, 1) := by decide +kernel
theorem dX6_addRowsOfText_22 : decode cX6_addRowsOfText 22 = .ok (.istore 7, 2) := by decide +kernel
theorem dX6_addRowsOfText_24 : decode cX6_addRowsOfText 24 = .ok (.iload 7, 2) := by decide +kernel
theorem dX6_addRowsOfText_26 : decode cX6_addRowsOfText 26 = .ok (.iload_n 3, 1) := by decide +kernel
theorem dX6_addRowsOfText_27 : decode cX6_addRowsOfText 27 = .ok (.if_icmp .ge 77, 3) := by decide +kernel
theorem dX6_addRowsOfText_30 : decode cX6_addRowsOfText 30 = .ok (.aload_n 0, 1) := by decide +kernel
theorem dX6_addRowsOfText_31 : decode cX6_addRowsOfText 31 = .ok (.getfield 29, 3) := by decide +kernel
theorem dX6_addRowsOfText_34 : decode cX6_addRowsOfText 34 = .ok (.iload 6, 2) := by decide +kernel
theorem dX6_addRowsOfText_36 : decode cX6_addRowsOfText 36 = .ok (.invokevirtual 236, 3) := by decide +kernel
theorem dX6_addRowsOfText_39 : decode cX6_addRowsOfText 39 = .ok (.aload_n 0, 1) := by decide +kernel
theorem dX6_addRowsOfText_40 : decode cX6_addRowsOfText 40 = .ok (.getfield 29, 3) := by decide +kernel
theorem dX6_addRowsOfText_43 : decode cX6_addRowsOfText 43 = .ok (.iload_n 3, 1) := by decide +kernel
theorem dX6_addRowsOfText_44 : decode cX6_addRowsOfText 44 = .ok (.iload 7, 2) := by decide +kernel
theorem dX6_addRowsOfText_46 : decode cX6_addRowsOfText 46 = .ok (.iadd, 1) := by decide +kernel
theorem dX6_addRowsOfText_47 : decode cX6_addRowsOfText 47 = .ok (.invokevirtual 236, 3) := by decide +kernel
theorem dX6_addRowsOfText_50 : decode cX6_addRowsOfText 50 = .ok (.imul, 1) := by decide +kernel
theorem dX6_addRowsOfText_51 : decode cX6_addRowsOfText 51 = .ok (.istore 8, 2) := by decide +kernel
theorem dX6_addRowsOfText_53 : decode cX6_addRowsOfText 53 = .ok (.aload_n 1, 1) := by decide +kernel
theorem dX6_addRowsOfText_54 : decode cX6_addRowsOfText 54 = .ok (.iload 4, 2) := by decide +kernel
theorem dX6_addRowsOfText_56 : decode cX6_addRowsOfText 56 = .ok (.iload 6, 2) := by decide +kernel
theorem dX6_addRowsOfText_58 : decode cX6_addRowsOfText 58 = .ok (.iadd, 1) := by decide +kernel
theorem dX6_addRowsOfText_59 : decode cX6_addRowsOfText 59 = .ok (.iload 5, 2) := by decide +kernel
theorem dX6_addRowsOfText_61 : decode cX6_addRowsOfText 61 = .ok (.iload 7, 2) := by decide +kernel
theorem dX6_addRowsOfText_63 : decode cX6_addRowsOfText 63 = .ok (.iadd, 1) := by decide +kernel
theorem dX6_addRowsOfText_64 : decode cX6_addRowsOfText 64 = .ok (.invokevirtual 80, 3) := by decide +kernel
theorem dX6_addRowsOfText_67 : decode cX6_addRowsOfText 67 = .ok (.iload 8, 2) := by decide +kernel
theorem dX6_addRowsOfText_69 : decode cX6_addRowsOfText 69 = .ok (.iadd, 1) := by decide +kernel
theorem dX6_addRowsOfText_70 : decode cX6_addRowsOfText 70 = .ok (.istore 9, 2) := by decide +kernel
theorem dX6_addRowsOfText_72 : decode cX6_addRowsOfText 72 = .ok (.aload_n 1, 1) := by decide +kernel
theorem dX6_addRowsOfText_73 : decode cX6_addRowsOfText 73 = .ok (.iload 4, 2) := by decide +kernel
theorem dX6_addRowsOfText_75 : decode cX6_addRowsOfText 75 = .ok (.iload 6, 2) := by decide +kernel
theorem dX6_addRowsOfText_77 : decode cX6_addRowsOfText 77 = .ok (.iadd, 1) := by decide +kernel
theorem dX6_addRowsOfText_78 : decode cX6_addRowsOfText 78 = .ok (.iload 5, 2) := by decide +kernel
theorem dX6_addRowsOfText_80 : decode cX6_addRowsOfText 80 = .ok (.iload 7, 2) := by decide +kernel
theorem dX6_addRowsOfText_82 : decode cX6_addRowsOfText 82 = .ok (.iadd, 1) := by decide +kernel
theorem dX6_addRowsOfText_83 : decode cX6_addRowsOfText 83 = .ok (.iload 9, 2) := by decide +kernel
theorem dX6_addRowsOfText_85 : decode cX6_addRowsOfText 85 = .ok (.aload_n 0, 1) := by decide +kernel
theorem dX6_addRowsOfText_86 : decode cX6_addRowsOfText 86 = .ok (.getfield 12, 3) := by decide +kernel
theorem dX6_addRowsOfText_89 : decode cX6_addRowsOfText 89 = .ok (.getfield 58, 3) := by decide +kernel
theorem dX6_addRowsOfText_92 : decode cX6_addRowsOfText 92 = .ok (.invokestatic 128, 3) := by decide +kernel
theorem dX6_addRowsOfText_95 : decode cX6_addRowsOfText 95 = .ok (.invokevirtual 86, 3) := by decide +kernel
theorem dX6_addRowsOfText_98 : decode cX6_addRowsOfText 98 = .ok (.iinc 7 1, 3) := by decide +kernel
theorem dX6_addRowsOfText_101 : decode cX6_addRowsOfText 101 = .ok (.goto (-77), 3) := by decide +kernel
theorem dX6_addRowsOfText_104 : decode cX6_addRowsOfText 104 = .ok (.iinc 6 1, 3) := by decide +kernel
theorem dX6_addRowsOfText_107 : decode cX6_addRowsOfText 107 = .ok (.goto (-92), 3) := by decide +kernel
theorem dX6_addRowsOfText_110 : decode cX6_addRowsOfText 110 = .ok (.return_, 1) := by decide +kernel
theorem dX0_load_0 : decode cX0_load 0 = .ok (.aload_n 0, 1) := by decide +kernel
theorem dX0_load_1 : decode cX0_load 1 = .ok (.iload 4, 2) := by decide +kernel
theorem dX0_load_3 : decode cX0_load 3 = .ok (.putfield 16, 3) := by decide +kernel
theorem dX0_load_6 : decode cX0_load 6 = .ok (.aload_n 0, 1) := by decide +kernel
theorem dX0_load_7 : decode cX0_load 7 = .ok (.iconst 0, 1) := by decide +kernel
theorem dX0_load_8 : decode cX0_load 8 = .ok (.bipush 8, 2) := by decide +kernel
theorem dX0_load_10 : decode cX0_load 10 = .ok (.iload_n 3, 1) := by decide +kernel
theorem dX0_load_11 : decode cX0_load 11 = .ok (.invokestatic 20, 3) := by decide +kernel
theorem dX0_load_14 : decode cX0_load 14 = .ok (.invokestatic 26, 3) := by decide +kernel
theorem dX0_load_17 : decode cX0_load 17 = .ok (.putfield 29, 3) := by decide +kernel
theorem dX0_load_20 : decode cX0_load 20 = .ok (.iload_n 2, 1) := by decide +kernel
theorem dX0_load_21 : decode cX0_load 21 = .ok (.invokestatic 32, 3) := by decide +kernel
theorem dX0_load_24 : decode cX0_load 24 = .ok (.istore 5, 2) := by decide +kernel
theorem dX0_load_26 : decode cX0_load 26 = .ok (.iload_n 2, 1) := by decide +kernel
theorem dX0_load_27 : decode cX0_load 27 = .ok (.invokestatic 38, 3) := by decide +kernel
theorem dX0_load_30 : decode cX0_load 30 = .ok (.istore 6, 2) := by decide +kernel
theorem dX0_load_32 : decode cX0_load 32 = .ok (.iconst 0, 1) := by decide +kernel
theorem dX0_load_33 : decode cX0_load 33 = .ok (.istore 7, 2) := by decide +kernel
theorem dX0_load_35 : decode cX0_load 35 = .ok (.iload 7, 2) := by decide +kernel
theorem dX0_load_37 : decode cX0_load 37 = .ok (.aload_n 0, 1) := by decide +kernel
theorem dX0_load_38 : decode cX0_load 38 = .ok (.getfield 29, 3) := by decide +kernel
theorem dX0_load_41 : decode cX0_load 41 = .ok (.if_icmp .ge 64, 3) := by decide +kernel
theorem dX0_load_44 : decode cX0_load 44 = .ok (.iconst 0, 1) := by decide +kernel
theorem dX0_load_45 : decode cX0_load 45 = .ok (.istore 8, 2) := by decide +kernel
theorem dX0_load_47 : decode cX0_load 47 = .ok (.iload 8, 2) := by decide +kernel
theorem dX0_load_49 : decode cX0_load 49 = .ok (.aload_n 0, 1) := by decide +kernel
theorem dX0_load_50 : decode cX0_load 50 = .ok (.getfield 29, 3) := by decide +kernel
theorem dX0_load_53 : decode cX0_load 53 = .ok (.if_icmp .ge 33, 3) := by decide +kernel
theorem dX0_load_56 : decode cX0_load 56 = .ok (.aload_n 0, 1) := by decide +kernel
theorem dX0_load_57 : decode cX0_load 57 = .ok (.getfield 11, 3) := by decide +kernel
theorem dX0_load_60 : decode cX0_load 60 = .ok (.iload 7, 2) := by decide +kernel
theorem dX0_load_62 : decode cX0_load 62 = .ok (.aaload, 1) := by decide +kernel
theorem dX0_load_63 : decode cX0_load 63 = .ok (.iload 8, 2) := by decide +kernel
theorem dX0_load_65 : decode cX0_load 65 = .ok (.aload_n 1, 1) := by decide +kernel
theorem dX0_load_66 : decode cX0_load 66 = .ok (.iload 5, 2) := by decide +kernel
theorem dX0_load_68 : decode cX0_load 68 = .ok (.iload 7, 2) := by decide +kernel
theorem dX0_load_70 : decode cX0_load 70 = .ok (.iadd, 1) := by decide +kernel
theorem dX0_load_71 : decode cX0_load 71 = .ok (.iload 6, 2) := by decide +kernel
theorem dX0_load_73 : decode cX0_load 73 = .ok (.iload 8, 2) := by decide +kernel
theorem dX0_load_75 : decode cX0_load 75 = .ok (.iadd, 1) := by decide +kernel
theorem dX0_load_76 : decode cX0_load 76 = .ok (.invokevirtual 41, 3) := by decide +kernel
theorem dX0_load_79 : decode cX0_load 79 = .ok (.iastore, 1) := by decide +kernel
theorem dX0_load_80 : decode cX0_load 80 = .ok (.iinc 8 1, 3) := by decide +kernel
theorem dX0_load_83 : decode cX0_load 83 = .ok (.goto (-36), 3) := by decide +kernel
theorem dX0_load_86 : decode cX0_load 86 = .ok (.aload_n 0, 1) := by decide +kernel
theorem dX0_load_87 : decode cX0_load 87 = .ok (.getfield 11, 3) := by decide +kernel
theorem dX0_load_90 : decode cX0_load 90 = .ok (.iload 7, 2) := by decide +kernel
theorem dX0_load_92 : decode cX0_load 92 = .ok (.aaload, 1) := by decide +kernel
theorem dX0_load_93 : decode cX0_load 93 = .ok (.aload_n 0, 1) := by decide +kernel
theorem dX0_load_94 : decode cX0_load 94 = .ok (.getfield 29, 3) := by decide +kernel
theorem dX0_load_97 : decode cX0_load 97 = .ok (.iconst 0, 1) := by decide +kernel
theorem dX0_load_98 : decode cX0_load 98 = .ok (.iastore, 1) := by decide +kernel
theorem dX0_load_99 : decode cX0_load 99 = .ok (.iinc 7 1, 3) := by decide +kernel
theorem dX0_load_102 : decode cX0_load 102 = .ok (.goto (-67), 3) := by decide +kernel
theorem dX0_load_105 : decode cX0_load 105 = .ok (.return_, 1) := by decide +kernel
theorem dX0_firstRowWith_0 : decode cX0_firstRowWith 0 = .ok (.aload_n 0, 1) := by decide +kernel
theorem dX0_firstRowWith_1 : decode cX0_firstRowWith 1 = .ok (.getfield 46, 3) := by decide +kernel
theorem dX0_firstRowWith_4 : decode cX0_firstRowWith 4 = .ok (.istore_n 2, 1) := by decide +kernel
theorem dX0_firstRowWith_5 : decode cX0_firstRowWith 5 = .ok (.iload_n 2, 1) := by decide +kernel
theorem dX0_firstRowWith_6 : decode cX0_firstRowWith 6 = .ok (.aload_n 0, 1) := by decide +kernel
theorem dX0_firstRowWith_7 : decode cX0_firstRowWith 7 = .ok (.getfield 29, 3) := by decide +kernel
theorem dX0_firstRowWith_10 : decode cX0_firstRowWith 10 = .ok (.if_icmp .ge 20, 3) := by decide +kernel
theorem dX0_firstRowWith_13 : decode cX0_firstRowWith 13 = .ok (.aload_n 0, 1) := by decide +kernel
theorem dX0_firstRowWith_14 : decode cX0_firstRowWith 14 = .ok (.getfield 11, 3) := by decide +kernel
theorem dX0_firstRowWith_17 : decode cX0_firstRowWith 17 = .ok (.iload_n 2, 1) := by decide +kernel
theorem dX0_firstRowWith_18 : decode cX0_firstRowWith 18 = .ok (.aaload, 1) := by decide +kernel
theorem dX0_firstRowWith_19 : decode cX0_firstRowWith 19 = .ok (.iload_n 1, 1) := by decide +kernel
theorem dX0_firstRowWith_20 : decode cX0_firstRowWith 20 = .ok (.iaload, 1) := by decide +kernel
theorem dX0_firstRowWith_21 : decode cX0_firstRowWith 21 = .ok (.ifCond .ne 9, 3) := by decide +kernel
theorem dX0_firstRowWith_24 : decode cX0_firstRowWith 24 = .ok (.iinc 2 1, 3) := by decide +kernel
theorem dX0_firstRowWith_27 : decode cX0_firstRowWith 27 = .ok (.goto (-22), 3) := by decide +kernel
theorem dX0_firstRowWith_30 : decode cX0_firstRowWith 30 = .ok (.iload_n 2, 1) := by decide +kernel
theorem dX0_firstRowWith_31 : decode cX0_firstRowWith 31 = .ok (.ireturn, 1) := by decide +kernel
theorem dX0_exchangeRows_0 : decode cX0_exchangeRows 0 = .ok (.iload_n 1, 1) := by decide +kernel
theorem dX0_exchangeRows_1 : decode cX0_exchangeRows 1 = .ok (.iload_n 2, 1) := by decide +kernel
theorem dX0_exchangeRows_2 : decode cX0_exchangeRows 2 = .ok (.if_icmp .eq 17, 3) := by decide +kernel
theorem dX0_exchangeRows_5 : decode cX0_exchangeRows 5 = .ok (.iload_n 1, 1) := by decide +kernel
theorem dX0_exchangeRows_6 : decode cX0_exchangeRows 6 = .ok (.invokestatic 63, 3) := by decide +kernel
theorem dX0_exchangeRows_9 : decode cX0_exchangeRows 9 = .ok (.ifCond .eq 10, 3) := by decide +kernel
theorem dX0_exchangeRows_12 : decode cX0_exchangeRows 12 = .ok (.iload_n 2, 1) := by decide +kernel
theorem dX0_exchangeRows_13 : decode cX0_exchangeRows 13 = .ok (.invokestatic 63, 3) := by decide +kernel
theorem dX0_exchangeRows_16 : decode cX0_exchangeRows 16 = .ok (.ifCond .ne 4, 3) := by decide +kernel
theorem dX0_exchangeRows_19 : decode cX0_exchangeRows 19 = .ok (.return_, 1) := by decide +kernel
theorem dX0_exchangeRows_20 : decode cX0_exchangeRows 20 = .ok (.aload_n 0, 1) := by decide +kernel
theorem dX0_exchangeRows_21 : decode cX0_exchangeRows 21 = .ok (.getfield 11, 3) := by decide +kernel
theorem dX0_exchangeRows_24 : decode cX0_exchangeRows 24 = .ok (.iload_n 1, 1) := by decide +kernel
theorem dX0_exchangeRows_25 : decode cX0_exchangeRows 25 = .ok (.aaload, 1) := by decide +kernel
theorem dX0_exchangeRows_26 : decode cX0_exchangeRows 26 = .ok (.astore_n 3, 1) := by decide +kernel
theorem dX0_exchangeRows_27 : decode cX0_exchangeRows 27 = .ok (.aload_n 0, 1) := by decide +kernel
theorem dX0_exchangeRows_28 : decode cX0_exchangeRows 28 = .ok (.getfield 11, 3) := by decide +kernel
theorem dX0_exchangeRows_31 : decode cX0_exchangeRows 31 = .ok (.iload_n 1, 1) := by decide +kernel
theorem dX0_exchangeRows_32 : decode cX0_exchangeRows 32 = .ok (.aload_n 0, 1) := by decide +kernel
theorem dX0_exchangeRows_33 : decode cX0_exchangeRows 33 = .ok (.getfield 11, 3) := by decide +kernel
theorem dX0_exchangeRows_36 : decode cX0_exchangeRows 36 = .ok (.iload_n 2, 1) := by decide +kernel
theorem dX0_exchangeRows_37 : decode cX0_exchangeRows 37 = .ok (.aaload, 1) := by decide +kernel
theorem dX0_exchangeRows_38 : decode cX0_exchangeRows 38 = .ok (.aastore, 1) := by decide +kernel
theorem dX0_exchangeRows_39 : decode cX0_exchangeRows 39 = .ok (.aload_n 0, 1) := by decide +kernel
theorem dX0_exchangeRows_40 : decode cX0_exchangeRows 40 = .ok (.getfield 11, 3) := by decide +kernel
theorem dX0_exchangeRows_43 : decode cX0_exchangeRows 43 = .ok (.iload_n 2, 1) := by decide +kernel
theorem dX0_exchangeRows_44 : decode cX0_exchangeRows 44 = .ok (.aload_n 3, 1) := by decide +kernel
theorem dX0_exchangeRows_45 : decode cX0_exchangeRows 45 = .ok (.aastore, 1) := by decide +kernel
theorem dX0_exchangeRows_46 : decode cX0_exchangeRows 46 = .ok (.aload_n 0, 1) := by decide +kernel
theorem dX0_exchangeRows_47 : decode cX0_exchangeRows 47 = .ok (.aload_n 0, 1) := by decide +kernel
theorem dX0_exchangeRows_48 : decode cX0_exchangeRows 48 = .ok (.getfield 49, 3) := by decide +kernel
theorem dX0_exchangeRows_51 : decode cX0_exchangeRows 51 = .ok (.ineg, 1) := by decide +kernel
theorem dX0_exchangeRows_52 : decode cX0_exchangeRows 52 = .ok (.aload_n 0, 1) := by decide +kernel
theorem dX0_exchangeRows_53 : decode cX0_exchangeRows 53 = .ok (.getfield 16, 3) := by decide +kernel
theorem dX0_exchangeRows_56 : decode cX0_exchangeRows 56 = .ok (.invokestatic 67, 3) := by decide +kernel
theorem dX0_exchangeRows_59 : decode cX0_exchangeRows 59 = .ok (.putfield 49, 3) := by decide +kernel
theorem dX0_exchangeRows_62 : decode cX0_exchangeRows 62 = .ok (.return_, 1) := by decide +kernel
theorem dX6_inverse_0 : decode cX6_inverse 0 = .ok (.iconst 1, 1) := by decide +kernel
theorem dX6_inverse_1 : decode cX6_inverse 1 = .ok (.istore_n 2, 1) := by decide +kernel
theorem dX6_inverse_2 : decode cX6_inverse 2 = .ok (.iload_n 0, 1) := by decide +kernel
theorem dX6_inverse_3 : decode cX6_inverse 3 = .ok (.istore_n 3, 1) := by decide +kernel
theorem dX6_inverse_4 : decode cX6_inverse 4 = .ok (.iload_n 1, 1) := by decide +kernel
theorem dX6_inverse_5 : decode cX6_inverse 5 = .ok (.iconst 2, 1) := by decide +kernel
theorem dX6_inverse_6 : decode cX6_inverse 6 = .ok (.isub, 1) := by decide +kernel
theorem dX6_inverse_7 : decode cX6_inverse 7 = .ok (.istore 4, 2) := by decide +kernel
theorem dX6_inverse_9 : decode cX6_inverse 9 = .ok (.iload 4, 2) := by decide +kernel
theorem dX6_inverse_11 : decode cX6_inverse 11 = .ok (.ifCond .le 36, 3) := by decide +kernel
theorem dX6_inverse_14 : decode cX6_inverse 14 = .ok (.iload 4, 2) := by decide +kernel
theorem dX6_inverse_16 : decode cX6_inverse 16 = .ok (.iconst 2, 1) := by decide +kernel
theorem dX6_inverse_17 : decode cX6_inverse 17 = .ok (.irem, 1) := by decide +kernel
theorem dX6_inverse_18 : decode cX6_inverse 18 = .ok (.iconst 1, 1) := by decide +kernel
theorem dX6_inverse_19 : decode cX6_inverse 19 = .ok (.if_icmp .ne 11, 3) := by decide +kernel
theorem dX6_inverse_22 : decode cX6_inverse 22 = .ok (.iload_n 2, 1) := by decide +kernel
theorem dX6_inverse_23 : decode cX6_inverse 23 = .ok (.iload_n 3, 1) := by decide +kernel
theorem dX6_inverse_24 : decode cX6_inverse 24 = .ok (.imul, 1) := by decide +kernel
theorem dX6_inverse_25 : decode cX6_inverse 25 = .ok (.iload_n 1, 1) := by decide +kernel
theorem dX6_inverse_26 : decode cX6_inverse 26 = .ok (.invokestatic 128, 3) := by decide +kernel
theorem dX6_inverse_29 : decode cX6_inverse 29 = .ok (.istore_n 2, 1) := by decide +kernel
theorem dX6_inverse_30 : decode cX6_inverse 30 = .ok (.iload_n 3, 1) := by decide +kernel
theorem dX6_inverse_31 : decode cX6_inverse 31 = .ok (.iload_n 3, 1) := by decide +kernel
theorem dX6_inverse_32 : decode cX6_inverse 32 = .ok (.imul, 1) := by decide +kernel
theorem dX6_inverse_33 : decode cX6_inverse 33 = .ok (.iload_n 1, 1) := by decide +kernel
theorem dX6_inverse_34 : decode cX6_inverse 34 = .ok (.invokestatic 128, 3) := by decide +kernel
theorem dX6_inverse_37 : decode cX6_inverse 37 = .ok (.istore_n 3, 1) := by decide +kernel
theorem dX6_inverse_38 : decode cX6_inverse 38 = .ok (.iload 4, 2) := by decide +kernel
theorem dX6_inverse_40 : decode cX6_inverse 40 = .ok (.iconst 2, 1) := by decide +kernel
theorem dX6_inverse_41 : decode cX6_inverse 41 = .ok (.idiv, 1) := by decide +kernel
theorem dX6_inverse_42 : decode cX6_inverse 42 = .ok (.istore 4, 2) := by decide +kernel
theorem dX6_inverse_44 : decode cX6_inverse 44 = .ok (.goto (-35), 3) := by decide +kernel
theorem dX6_inverse_47 : decode cX6_inverse 47 = .ok (.iload_n 2, 1) := by decide +kernel
theorem dX6_inverse_48 : decode cX6_inverse 48 = .ok (.ireturn, 1) := by decide +kernel
theorem dX0_subtract_0 : decode cX0_subtract 0 = .ok (.iconst 0, 1) := by decide +kernel
theorem dX0_subtract_1 : decode cX0_subtract 1 = .ok (.iload 4, 2) := by decide +kernel
theorem dX0_subtract_3 : decode cX0_subtract 3 = .ok (.invokestatic 26, 3) := by decide +kernel
theorem dX0_subtract_6 : decode cX0_subtract 6 = .ok (.istore 5, 2) := by decide +kernel
theorem dX0_subtract_8 : decode cX0_subtract 8 = .ok (.iload_n 3, 1) := by decide +kernel
theorem dX0_subtract_9 : decode cX0_subtract 9 = .ok (.ifCond .eq 40, 3) := by decide +kernel
theorem dX0_subtract_12 : decode cX0_subtract 12 = .ok (.iload 5, 2) := by decide +kernel
theorem dX0_subtract_14 : decode cX0_subtract 14 = .ok (.aload_n 0, 1) := by decide +kernel
theorem dX0_subtract_15 : decode cX0_subtract 15 = .ok (.getfield 29, 3) := by decide +kernel
theorem dX0_subtract_18 : decode cX0_subtract 18 = .ok (.if_icmp .gt 31, 3) := by decide +kernel
theorem dX0_subtract_21 : decode cX0_subtract 21 = .ok (.aload_n 1, 1) := by decide +kernel
theorem dX0_subtract_22 : decode cX0_subtract 22 = .ok (.iload 5, 2) := by decide +kernel
theorem dX0_subtract_24 : decode cX0_subtract 24 = .ok (.aload_n 1, 1) := by decide +kernel
theorem dX0_subtract_25 : decode cX0_subtract 25 = .ok (.iload 5, 2) := by decide +kernel
theorem dX0_subtract_27 : decode cX0_subtract 27 = .ok (.iaload, 1) := by decide +kernel
theorem dX0_subtract_28 : decode cX0_subtract 28 = .ok (.iload_n 3, 1) := by decide +kernel
theorem dX0_subtract_29 : decode cX0_subtract 29 = .ok (.aload_n 2, 1) := by decide +kernel
theorem dX0_subtract_30 : decode cX0_subtract 30 = .ok (.iload 5, 2) := by decide +kernel
theorem dX0_subtract_32 : decode cX0_subtract 32 = .ok (.iaload, 1) := by decide +kernel
theorem dX0_subtract_33 : decode cX0_subtract 33 = .ok (.imul, 1) := by decide +kernel
theorem dX0_subtract_34 : decode cX0_subtract 34 = .ok (.isub, 1) := by decide +kernel
theorem dX0_subtract_35 : decode cX0_subtract 35 = .ok (.aload_n 0, 1) := by decide +kernel
theorem dX0_subtract_36 : decode cX0_subtract 36 = .ok (.getfield 16, 3) := by decide +kernel
theorem dX0_subtract_39 : decode cX0_subtract 39 = .ok (.invokestatic 67, 3) := by decide +kernel
theorem dX0_subtract_42 : decode cX0_subtract 42 = .ok (.iastore, 1) := by decide +kernel
theorem dX0_subtract_43 : decode cX0_subtract 43 = .ok (.iinc 5 1, 3) := by decide +kernel
theorem dX0_subtract_46 : decode cX0_subtract 46 = .ok (.goto (-38), 3) := by decide +kernel
theorem dX0_subtract_49 : decode cX0_subtract 49 = .ok (.return_, 1) := by decide +kernel
theorem dX0_clearColumn_0 : decode cX0_clearColumn 0 = .ok (.aload_n 0, 1) := by decide +kernel
theorem dX0_clearColumn_1 : decode cX0_clearColumn 1 = .ok (.getfield 46, 3) := by decide +kernel
theorem dX0_clearColumn_4 : decode cX0_clearColumn 4 = .ok (.invokestatic 63, 3) := by decide +kernel
theorem dX0_clearColumn_7 : decode cX0_clearColumn 7 = .ok (.ifCond .eq 10, 3) := by decide +kernel
theorem dX0_clearColumn_10 : decode cX0_clearColumn 10 = .ok (.iload_n 1, 1) := by decide +kernel
theorem dX0_clearColumn_11 : decode cX0_clearColumn 11 = .ok (.invokestatic 63, 3) := by decide +kernel
theorem dX0_clearColumn_14 : decode cX0_clearColumn 14 = .ok (.ifCond .ne 4, 3) := by decide +kernel
theorem dX0_clearColumn_17 : decode cX0_clearColumn 17 = .ok (.return_, 1) := by decide +kernel
theorem dX0_clearColumn_18 : decode cX0_clearColumn 18 = .ok (.aload_n 0, 1) := by decide +kernel
theorem dX0_clearColumn_19 : decode cX0_clearColumn 19 = .ok (.getfield 11, 3) := by decide +kernel
theorem dX0_clearColumn_22 : decode cX0_clearColumn 22 = .ok (.aload_n 0, 1) := by decide +kernel
theorem dX0_clearColumn_23 : decode cX0_clearColumn 23 = .ok (.getfield 46, 3) := by decide +kernel
theorem dX0_clearColumn_26 : decode cX0_clearColumn 26 = .ok (.aaload, 1) := by decide +kernel
theorem dX0_clearColumn_27 : decode cX0_clearColumn 27 = .ok (.astore_n 2, 1) := by decide +kernel
theorem dX0_clearColumn_28 : decode cX0_clearColumn 28 = .ok (.aload_n 0, 1) := by decide +kernel
theorem dX0_clearColumn_29 : decode cX0_clearColumn 29 = .ok (.aload_n 0, 1) := by decide +kernel
theorem dX0_clearColumn_30 : decode cX0_clearColumn 30 = .ok (.getfield 49, 3) := by decide +kernel
theorem dX0_clearColumn_33 : decode cX0_clearColumn 33 = .ok (.aload_n 2, 1) := by decide +kernel
theorem dX0_clearColumn_34 : decode cX0_clearColumn 34 = .ok (.iload_n 1, 1) := by decide +kernel
theorem dX0_clearColumn_35 : decode cX0_clearColumn 35 = .ok (.iaload, 1) := by decide +kernel
theorem dX0_clearColumn_36 : decode cX0_clearColumn 36 = .ok (.imul, 1) := by decide +kernel
theorem dX0_clearColumn_37 : decode cX0_clearColumn 37 = .ok (.aload_n 0, 1) := by decide +kernel
theorem dX0_clearColumn_38 : decode cX0_clearColumn 38 = .ok (.getfield 16, 3) := by decide +kernel
theorem dX0_clearColumn_41 : decode cX0_clearColumn 41 = .ok (.invokestatic 67, 3) := by decide +kernel
theorem dX0_clearColumn_44 : decode cX0_clearColumn 44 = .ok (.putfield 49, 3) := by decide +kernel
theorem dX0_clearColumn_47 : decode cX0_clearColumn 47 = .ok (.aload_n 2, 1) := by decide +kernel
theorem dX0_clearColumn_48 : decode cX0_clearColumn 48 = .ok (.iload_n 1, 1) := by decide +kernel
theorem dX0_clearColumn_49 : decode cX0_clearColumn 49 = .ok (.iaload, 1) := by decide +kernel
theorem dX0_clearColumn_50 : decode cX0_clearColumn 50 = .ok (.aload_n 0, 1) := by decide +kernel
theorem dX0_clearColumn_51 : decode cX0_clearColumn 51 = .ok (.getfield 16, 3) := by decide +kernel
theorem dX0_clearColumn_54 : decode cX0_clearColumn 54 = .ok (.invokestatic 70, 3) := by decide +kernel
theorem dX0_clearColumn_57 : decode cX0_clearColumn 57 = .ok (.istore_n 3, 1) := by decide +kernel
theorem dX0_clearColumn_58 : decode cX0_clearColumn 58 = .ok (.iload_n 1, 1) := by decide +kernel
theorem dX0_clearColumn_59 : decode cX0_clearColumn 59 = .ok (.istore 4, 2) := by decide +kernel
theorem dX0_clearColumn_61 : decode cX0_clearColumn 61 = .ok (.iload 4, 2) := by decide +kernel
theorem dX0_clearColumn_63 : decode cX0_clearColumn 63 = .ok (.aload_n 0, 1) := by decide +kernel
theorem dX0_clearColumn_64 : decode cX0_clearColumn 64 = .ok (.getfield 29, 3) := by decide +kernel
theorem dX0_clearColumn_67 : decode cX0_clearColumn 67 = .ok (.if_icmp .gt 26, 3) := by decide +kernel
theorem dX0_clearColumn_70 : decode cX0_clearColumn 70 = .ok (.aload_n 2, 1) := by decide +kernel
theorem dX0_clearColumn_71 : decode cX0_clearColumn 71 = .ok (.iload 4, 2) := by decide +kernel
theorem dX0_clearColumn_73 : decode cX0_clearColumn 73 = .ok (.aload_n 2, 1) := by decide +kernel
theorem dX0_clearColumn_74 : decode cX0_clearColumn 74 = .ok (.iload 4, 2) := by decide +kernel
theorem dX0_clearColumn_76 : decode cX0_clearColumn 76 = .ok (.iaload, 1) := by decide +kernel
theorem dX0_clearColumn_77 : decode cX0_clearColumn 77 = .ok (.iload_n 3, 1) := by decide +kernel
theorem dX0_clearColumn_78 : decode cX0_clearColumn 78 = .ok (.imul, 1) := by decide +kernel
theorem dX0_clearColumn_79 : decode cX0_clearColumn 79 = .ok (.aload_n 0, 1) := by decide +kernel
theorem dX0_clearColumn_80 : decode cX0_clearColumn 80 = .ok (.getfield 16, 3) := by decide +kernel
theorem dX0_clearColumn_83 : decode cX0_clearColumn 83 = .ok (.invokestatic 67, 3) := by decide +kernel
theorem dX0_clearColumn_86 : decode cX0_clearColumn 86 = .ok (.iastore, 1) := by decide +kernel
theorem dX0_clearColumn_87 : decode cX0_clearColumn 87 = .ok (.iinc 4 1, 3) := by decide +kernel
theorem dX0_clearColumn_90 : decode cX0_clearColumn 90 = .ok (.goto (-29), 3) := by decide +kernel
theorem dX0_clearColumn_93 : decode cX0_clearColumn 93 = .ok (.iconst 0, 1) := by decide +kernel
theorem dX0_clearColumn_94 : decode cX0_clearColumn 94 = .ok (.istore 4, 2) := by decide +kernel
theorem dX0_clearColumn_96 : decode cX0_clearColumn 96 = .ok (.iload 4, 2) := by decide +kernel
theorem dX0_clearColumn_98 : decode cX0_clearColumn 98 = .ok (.aload_n 0, 1) := by decide +kernel
theorem dX0_clearColumn_99 : decode cX0_clearColumn 99 = .ok (.getfield 29, 3) := by decide +kernel
theorem dX0_clearColumn_102 : decode cX0_clearColumn 102 = .ok (.if_icmp .ge 40, 3) := by decide +kernel
theorem dX0_clearColumn_105 : decode cX0_clearColumn 105 = .ok (.iload 4, 2) := by decide +kernel
theorem dX0_clearColumn_107 : decode cX0_clearColumn 107 = .ok (.aload_n 0, 1) := by decide +kernel
theorem dX0_clearColumn_108 : decode cX0_clearColumn 108 = .ok (.getfield 46, 3) := by decide +kernel
theorem dX0_clearColumn_111 : decode cX0_clearColumn 111 = .ok (.if_icmp .eq 25, 3) := by decide +kernel
theorem dX0_clearColumn_114 : decode cX0_clearColumn 114 = .ok (.aload_n 0, 1) := by decide +kernel
theorem dX0_clearColumn_115 : decode cX0_clearColumn 115 = .ok (.aload_n 0, 1) := by decide +kernel
theorem dX0_clearColumn_116 : decode cX0_clearColumn 116 = .ok (.getfield 11, 3) := by decide +kernel
theorem dX0_clearColumn_119 : decode cX0_clearColumn 119 = .ok (.iload 4, 2) := by decide +kernel
theorem dX0_clearColumn_121 : decode cX0_clearColumn 121 = .ok (.aaload, 1) := by decide +kernel
theorem dX0_clearColumn_122 : decode cX0_clearColumn 122 = .ok (.aload_n 2, 1) := by decide +kernel
theorem dX0_clearColumn_123 : decode cX0_clearColumn 123 = .ok (.aload_n 0, 1) := by decide +kernel
theorem dX0_clearColumn_124 : decode cX0_clearColumn 124 = .ok (.getfield 11, 3) := by decide +kernel
theorem dX0_clearColumn_127 : decode cX0_clearColumn 127 = .ok (.iload 4, 2) := by decide +kernel
theorem dX0_clearColumn_129 : decode cX0_clearColumn 129 = .ok (.aaload, 1) := by decide +kernel
theorem dX0_clearColumn_130 : decode cX0_clearColumn 130 = .ok (.iload_n 1, 1) := by decide +kernel
theorem dX0_clearColumn_131 : decode cX0_clearColumn 131 = .ok (.iaload, 1) := by decide +kernel
theorem dX0_clearColumn_132 : decode cX0_clearColumn 132 = .ok (.iload_n 1, 1) := by decide +kernel
theorem dX0_clearColumn_133 : decode cX0_clearColumn 133 = .ok (.invokevirtual 73, 3) := by decide +kernel
theorem dX0_clearColumn_136 : decode cX0_clearColumn 136 = .ok (.iinc 4 1, 3) := by decide +kernel
theorem dX0_clearColumn_139 : decode cX0_clearColumn 139 = .ok (.goto (-43), 3) := by decide +kernel
theorem dX0_clearColumn_142 : decode cX0_clearColumn 142 = .ok (.return_, 1) := by decide +kernel
theorem dX0_reduce_0 : decode cX0_reduce 0 = .ok (.aload_n 0, 1) := by decide +kernel
theorem dX0_reduce_1 : decode cX0_reduce 1 = .ok (.iconst 0, 1) := by decide +kernel
theorem dX0_reduce_2 : decode cX0_reduce 2 = .ok (.putfield 46, 3) := by decide +kernel
theorem dX0_reduce_5 : decode cX0_reduce 5 = .ok (.aload_n 0, 1) := by decide +kernel
theorem dX0_reduce_6 : decode cX0_reduce 6 = .ok (.iconst 1, 1) := by decide +kernel
theorem dX0_reduce_7 : decode cX0_reduce 7 = .ok (.putfield 49, 3) := by decide +kernel
theorem dX0_reduce_10 : decode cX0_reduce 10 = .ok (.iconst 0, 1) := by decide +kernel
theorem dX0_reduce_11 : decode cX0_reduce 11 = .ok (.istore_n 1, 1) := by decide +kernel
theorem dX0_reduce_12 : decode cX0_reduce 12 = .ok (.iload_n 1, 1) := by decide +kernel
theorem dX0_reduce_13 : decode cX0_reduce 13 = .ok (.aload_n 0, 1) := by decide +kernel
theorem dX0_reduce_14 : decode cX0_reduce 14 = .ok (.getfield 29, 3) := by decide +kernel
theorem dX0_reduce_17 : decode cX0_reduce 17 = .ok (.if_icmp .ge 58, 3) := by decide +kernel
theorem dX0_reduce_20 : decode cX0_reduce 20 = .ok (.aload_n 0, 1) := by decide +kernel
theorem dX0_reduce_21 : decode cX0_reduce 21 = .ok (.getfield 46, 3) := by decide +kernel
theorem dX0_reduce_24 : decode cX0_reduce 24 = .ok (.aload_n 0, 1) := by decide +kernel
theorem dX0_reduce_25 : decode cX0_reduce 25 = .ok (.getfield 29, 3) := by decide +kernel
theorem dX0_reduce_28 : decode cX0_reduce 28 = .ok (.if_icmp .ge 47, 3) := by decide +kernel
theorem dX0_reduce_31 : decode cX0_reduce 31 = .ok (.aload_n 0, 1) := by decide +kernel
theorem dX0_reduce_32 : decode cX0_reduce 32 = .ok (.iload_n 1, 1) := by decide +kernel
theorem dX0_reduce_33 : decode cX0_reduce 33 = .ok (.invokevirtual 52, 3) := by decide +kernel
theorem dX0_reduce_36 : decode cX0_reduce 36 = .ok (.istore_n 2, 1) := by decide +kernel
theorem dX0_reduce_37 : decode cX0_reduce 37 = .ok (.iload_n 2, 1) := by decide +kernel
theorem dX0_reduce_38 : decode cX0_reduce 38 = .ok (.aload_n 0, 1) := by decide +kernel
theorem dX0_reduce_39 : decode cX0_reduce 39 = .ok (.getfield 29, 3) := by decide +kernel
theorem dX0_reduce_42 : decode cX0_reduce 42 = .ok (.if_icmp .ge 27, 3) := by decide +kernel
theorem dX0_reduce_45 : decode cX0_reduce 45 = .ok (.aload_n 0, 1) := by decide +kernel
theorem dX0_reduce_46 : decode cX0_reduce 46 = .ok (.aload_n 0, 1) := by decide +kernel
theorem dX0_reduce_47 : decode cX0_reduce 47 = .ok (.getfield 46, 3) := by decide +kernel
theorem dX0_reduce_50 : decode cX0_reduce 50 = .ok (.iload_n 2, 1) := by decide +kernel
theorem dX0_reduce_51 : decode cX0_reduce 51 = .ok (.invokevirtual 55, 3) := by decide +kernel
theorem dX0_reduce_54 : decode cX0_reduce 54 = .ok (.aload_n 0, 1) := by decide +kernel
theorem dX0_reduce_55 : decode cX0_reduce 55 = .ok (.iload_n 1, 1) := by decide +kernel
theorem dX0_reduce_56 : decode cX0_reduce 56 = .ok (.invokevirtual 59, 3) := by decide +kernel
theorem dX0_reduce_59 : decode cX0_reduce 59 = .ok (.aload_n 0, 1) := by decide +kernel
theorem dX0_reduce_60 : decode cX0_reduce 60 = .ok (.dup, 1) := by decide +kernel
theorem dX0_reduce_61 : decode cX0_reduce 61 = .ok (.getfield 46, 3) := by decide +kernel
theorem dX0_reduce_64 : decode cX0_reduce 64 = .ok (.iconst 1, 1) := by decide +kernel
theorem dX0_reduce_65 : decode cX0_reduce 65 = .ok (.iadd, 1) := by decide +kernel
theorem dX0_reduce_66 : decode cX0_reduce 66 = .ok (.putfield 46, 3) := by decide +kernel
theorem dX0_reduce_69 : decode cX0_reduce 69 = .ok (.iinc 1 1, 3) := by decide +kernel
theorem dX0_reduce_72 : decode cX0_reduce 72 = .ok (.goto (-60), 3) := by decide +kernel
theorem dX0_reduce_75 : decode cX0_reduce 75 = .ok (.aload_n 0, 1) := by decide +kernel
theorem dX0_reduce_76 : decode cX0_reduce 76 = .ok (.getfield 46, 3) := by decide +kernel
theorem dX0_reduce_79 : decode cX0_reduce 79 = .ok (.aload_n 0, 1) := by decide +kernel
theorem dX0_reduce_80 : decode cX0_reduce 80 = .ok (.getfield 29, 3) := by decide +kernel
theorem dX0_reduce_83 : decode cX0_reduce 83 = .ok (.if_icmp .ge 8, 3) := by decide +kernel
theorem dX0_reduce_86 : decode cX0_reduce 86 = .ok (.aload_n 0, 1) := by decide +kernel
theorem dX0_reduce_87 : decode cX0_reduce 87 = .ok (.iconst 0, 1) := by decide +kernel
theorem dX0_reduce_88 : decode cX0_reduce 88 = .ok (.putfield 49, 3) := by decide +kernel
theorem dX0_reduce_91 : decode cX0_reduce 91 = .ok (.return_, 1) := by decide +kernel
theorem dX6_blockRank_0 : decode cX6_blockRank 0 = .ok (.aload_n 0, 1) := by decide +kernel
theorem dX6_blockRank_1 : decode cX6_blockRank 1 = .ok (.getfield 36, 3) := by decide +kernel
theorem dX6_blockRank_4 : decode cX6_blockRank 4 = .ok (.aload_n 1, 1) := by decide +kernel
theorem dX6_blockRank_5 : decode cX6_blockRank 5 = .ok (.iload_n 2, 1) := by decide +kernel
theorem dX6_blockRank_6 : decode cX6_blockRank 6 = .ok (.iload_n 3, 1) := by decide +kernel
theorem dX6_blockRank_7 : decode cX6_blockRank 7 = .ok (.aload_n 0, 1) := by decide +kernel
theorem dX6_blockRank_8 : decode cX6_blockRank 8 = .ok (.getfield 12, 3) := by decide +kernel
theorem dX6_blockRank_11 : decode cX6_blockRank 11 = .ok (.getfield 58, 3) := by decide +kernel
theorem dX6_blockRank_14 : decode cX6_blockRank 14 = .ok (.invokevirtual 138, 3) := by decide +kernel
theorem dX6_blockRank_17 : decode cX6_blockRank 17 = .ok (.aload_n 0, 1) := by decide +kernel
theorem dX6_blockRank_18 : decode cX6_blockRank 18 = .ok (.getfield 36, 3) := by decide +kernel
theorem dX6_blockRank_21 : decode cX6_blockRank 21 = .ok (.invokevirtual 242, 3) := by decide +kernel
theorem dX6_blockRank_24 : decode cX6_blockRank 24 = .ok (.aload_n 0, 1) := by decide +kernel
theorem dX6_blockRank_25 : decode cX6_blockRank 25 = .ok (.getfield 36, 3) := by decide +kernel
theorem dX6_blockRank_28 : decode cX6_blockRank 28 = .ok (.getfield 245, 3) := by decide +kernel
theorem dX6_blockRank_31 : decode cX6_blockRank 31 = .ok (.ireturn, 1) := by decide +kernel
theorem dX6_addProduct_0 : decode cX6_addProduct 0 = .ok (.aload_n 0, 1) := by decide +kernel
theorem dX6_addProduct_1 : decode cX6_addProduct 1 = .ok (.iload_n 1, 1) := by decide +kernel
theorem dX6_addProduct_2 : decode cX6_addProduct 2 = .ok (.iload_n 2, 1) := by decide +kernel
theorem dX6_addProduct_3 : decode cX6_addProduct 3 = .ok (.invokevirtual 90, 3) := by decide +kernel
theorem dX6_addProduct_6 : decode cX6_addProduct 6 = .ok (.istore_n 3, 1) := by decide +kernel
theorem dX6_addProduct_7 : decode cX6_addProduct 7 = .ok (.iload_n 3, 1) := by decide +kernel
theorem dX6_addProduct_8 : decode cX6_addProduct 8 = .ok (.iconst (-1), 1) := by decide +kernel
theorem dX6_addProduct_9 : decode cX6_addProduct 9 = .ok (.if_icmp .ne 5, 3) := by decide +kernel
theorem dX6_addProduct_12 : decode cX6_addProduct 12 = .ok (.iconst (-1), 1) := by decide +kernel
theorem dX6_addProduct_13 : decode cX6_addProduct 13 = .ok (.ireturn, 1) := by decide +kernel
theorem dX6_addProduct_14 : decode cX6_addProduct 14 = .ok (.aload_n 0, 1) := by decide +kernel
theorem dX6_addProduct_15 : decode cX6_addProduct 15 = .ok (.getfield 12, 3) := by decide +kernel
theorem dX6_addProduct_18 : decode cX6_addProduct 18 = .ok (.iload_n 1, 1) := by decide +kernel
theorem dX6_addProduct_19 : decode cX6_addProduct 19 = .ok (.invokevirtual 76, 3) := by decide +kernel
theorem dX6_addProduct_22 : decode cX6_addProduct 22 = .ok (.astore 4, 2) := by decide +kernel
theorem dX6_addProduct_24 : decode cX6_addProduct 24 = .ok (.aload 4, 2) := by decide +kernel
theorem dX6_addProduct_26 : decode cX6_addProduct 26 = .ok (.getfield 93, 3) := by decide +kernel
theorem dX6_addProduct_29 : decode cX6_addProduct 29 = .ok (.iload_n 3, 1) := by decide +kernel
theorem dX6_addProduct_30 : decode cX6_addProduct 30 = .ok (.invokevirtual 96, 3) := by decide +kernel
theorem dX6_addProduct_33 : decode cX6_addProduct 33 = .ok (.istore 5, 2) := by decide +kernel
theorem dX6_addProduct_35 : decode cX6_addProduct 35 = .ok (.aload_n 0, 1) := by decide +kernel
theorem dX6_addProduct_36 : decode cX6_addProduct 36 = .ok (.getfield 29, 3) := by decide +kernel
theorem dX6_addProduct_39 : decode cX6_addProduct 39 = .ok (.iconst 2, 1) := by decide +kernel
theorem dX6_addProduct_40 : decode cX6_addProduct 40 = .ok (.iload 5, 2) := by decide +kernel
theorem dX6_addProduct_42 : decode cX6_addProduct 42 = .ok (.invokevirtual 100, 3) := by decide +kernel
theorem dX6_addProduct_45 : decode cX6_addProduct 45 = .ok (.istore 6, 2) := by decide +kernel
theorem dX6_addProduct_47 : decode cX6_addProduct 47 = .ok (.iload 6, 2) := by decide +kernel
theorem dX6_addProduct_49 : decode cX6_addProduct 49 = .ok (.iconst (-1), 1) := by decide +kernel
theorem dX6_addProduct_50 : decode cX6_addProduct 50 = .ok (.if_icmp .eq 9, 3) := by decide +kernel
theorem dX6_addProduct_53 : decode cX6_addProduct 53 = .ok (.bipush (-100), 2) := by decide +kernel

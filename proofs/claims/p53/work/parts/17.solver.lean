theorem dX5_oneMore_0 : decode cX5_oneMore 0 = .ok (.iload_n 0, 1) := by decide +kernel
theorem dX5_oneMore_1 : decode cX5_oneMore 1 = .ok (.bipush 99, 2) := by decide +kernel
theorem dX5_oneMore_3 : decode cX5_oneMore 3 = .ok (.if_icmp .ne 8, 3) := by decide +kernel
theorem dX5_oneMore_6 : decode cX5_oneMore 6 = .ok (.bipush 99, 2) := by decide +kernel
theorem dX5_oneMore_8 : decode cX5_oneMore 8 = .ok (.goto 6, 3) := by decide +kernel
theorem dX5_oneMore_11 : decode cX5_oneMore 11 = .ok (.iload_n 0, 1) := by decide +kernel
theorem dX5_oneMore_12 : decode cX5_oneMore 12 = .ok (.iconst 1, 1) := by decide +kernel
theorem dX5_oneMore_13 : decode cX5_oneMore 13 = .ok (.iadd, 1) := by decide +kernel
theorem dX5_oneMore_14 : decode cX5_oneMore 14 = .ok (.ireturn, 1) := by decide +kernel
theorem dX5_leftPan_0 : decode cX5_leftPan 0 = .ok (.iload_n 0, 1) := by decide +kernel
theorem dX5_leftPan_1 : decode cX5_leftPan 1 = .ok (.bipush 12, 2) := by decide +kernel
theorem dX5_leftPan_3 : decode cX5_leftPan 3 = .ok (.ishr, 1) := by decide +kernel
theorem dX5_leftPan_4 : decode cX5_leftPan 4 = .ok (.sipush 4095, 3) := by decide +kernel
theorem dX5_leftPan_7 : decode cX5_leftPan 7 = .ok (.iand, 1) := by decide +kernel
theorem dX5_leftPan_8 : decode cX5_leftPan 8 = .ok (.ireturn, 1) := by decide +kernel
theorem dX5_rightPan_0 : decode cX5_rightPan 0 = .ok (.iload_n 0, 1) := by decide +kernel
theorem dX5_rightPan_1 : decode cX5_rightPan 1 = .ok (.sipush 4095, 3) := by decide +kernel
theorem dX5_rightPan_4 : decode cX5_rightPan 4 = .ok (.iand, 1) := by decide +kernel
theorem dX5_rightPan_5 : decode cX5_rightPan 5 = .ok (.ireturn, 1) := by decide +kernel
theorem dX5_lowest_0 : decode cX5_lowest 0 = .ok (.iload_n 0, 1) := by decide +kernel
theorem dX5_lowest_1 : decode cX5_lowest 1 = .ok (.istore_n 2, 1) := by decide +kernel
theorem dX5_lowest_2 : decode cX5_lowest 2 = .ok (.iconst 0, 1) := by decide +kernel
theorem dX5_lowest_3 : decode cX5_lowest 3 = .ok (.istore_n 3, 1) := by decide +kernel
theorem dX5_lowest_4 : decode cX5_lowest 4 = .ok (.iload_n 3, 1) := by decide +kernel
theorem dX5_lowest_5 : decode cX5_lowest 5 = .ok (.iload_n 1, 1) := by decide +kernel
theorem dX5_lowest_6 : decode cX5_lowest 6 = .ok (.if_icmp .ge 15, 3) := by decide +kernel
theorem dX5_lowest_9 : decode cX5_lowest 9 = .ok (.iload_n 2, 1) := by decide +kernel
theorem dX5_lowest_10 : decode cX5_lowest 10 = .ok (.iload_n 2, 1) := by decide +kernel
theorem dX5_lowest_11 : decode cX5_lowest 11 = .ok (.iconst 1, 1) := by decide +kernel
theorem dX5_lowest_12 : decode cX5_lowest 12 = .ok (.isub, 1) := by decide +kernel
theorem dX5_lowest_13 : decode cX5_lowest 13 = .ok (.iand, 1) := by decide +kernel
theorem dX5_lowest_14 : decode cX5_lowest 14 = .ok (.istore_n 2, 1) := by decide +kernel
theorem dX5_lowest_15 : decode cX5_lowest 15 = .ok (.iinc 3 1, 3) := by decide +kernel
theorem dX5_lowest_18 : decode cX5_lowest 18 = .ok (.goto (-14), 3) := by decide +kernel
theorem dX5_lowest_21 : decode cX5_lowest 21 = .ok (.iload_n 0, 1) := by decide +kernel
theorem dX5_lowest_22 : decode cX5_lowest 22 = .ok (.iload_n 2, 1) := by decide +kernel
theorem dX5_lowest_23 : decode cX5_lowest 23 = .ok (.iconst (-1), 1) := by decide +kernel
theorem dX5_lowest_24 : decode cX5_lowest 24 = .ok (.ixor, 1) := by decide +kernel
theorem dX5_lowest_25 : decode cX5_lowest 25 = .ok (.iand, 1) := by decide +kernel
theorem dX5_lowest_26 : decode cX5_lowest 26 = .ok (.ireturn, 1) := by decide +kernel
theorem dX5_splitAt_0 : decode cX5_splitAt 0 = .ok (.aload_n 0, 1) := by decide +kernel
theorem dX5_splitAt_1 : decode cX5_splitAt 1 = .ok (.getfield 22, 3) := by decide +kernel
theorem dX5_splitAt_4 : decode cX5_splitAt 4 = .ok (.bipush 13, 2) := by decide +kernel
theorem dX5_splitAt_6 : decode cX5_splitAt 6 = .ok (.imul, 1) := by decide +kernel
theorem dX5_splitAt_7 : decode cX5_splitAt 7 = .ok (.iload_n 1, 1) := by decide +kernel
theorem dX5_splitAt_8 : decode cX5_splitAt 8 = .ok (.iadd, 1) := by decide +kernel
theorem dX5_splitAt_9 : decode cX5_splitAt 9 = .ok (.bipush 13, 2) := by decide +kernel
theorem dX5_splitAt_11 : decode cX5_splitAt 11 = .ok (.imul, 1) := by decide +kernel
theorem dX5_splitAt_12 : decode cX5_splitAt 12 = .ok (.iload_n 2, 1) := by decide +kernel
theorem dX5_splitAt_13 : decode cX5_splitAt 13 = .ok (.iadd, 1) := by decide +kernel
theorem dX5_splitAt_14 : decode cX5_splitAt 14 = .ok (.ireturn, 1) := by decide +kernel
theorem dX5_mixedAt_0 : decode cX5_mixedAt 0 = .ok (.aload_n 0, 1) := by decide +kernel
theorem dX5_mixedAt_1 : decode cX5_mixedAt 1 = .ok (.getfield 22, 3) := by decide +kernel
theorem dX5_mixedAt_4 : decode cX5_mixedAt 4 = .ok (.bipush 13, 2) := by decide +kernel
theorem dX5_mixedAt_6 : decode cX5_mixedAt 6 = .ok (.imul, 1) := by decide +kernel
theorem dX5_mixedAt_7 : decode cX5_mixedAt 7 = .ok (.iload_n 1, 1) := by decide +kernel
theorem dX5_mixedAt_8 : decode cX5_mixedAt 8 = .ok (.iadd, 1) := by decide +kernel
theorem dX5_mixedAt_9 : decode cX5_mixedAt 9 = .ok (.iconst 2, 1) := by decide +kernel
theorem dX5_mixedAt_10 : decode cX5_mixedAt 10 = .ok (.imul, 1) := by decide +kernel
theorem dX5_mixedAt_11 : decode cX5_mixedAt 11 = .ok (.aload_n 0, 1) := by decide +kernel
theorem dX5_mixedAt_12 : decode cX5_mixedAt 12 = .ok (.getfield 40, 3) := by decide +kernel
theorem dX5_mixedAt_15 : decode cX5_mixedAt 15 = .ok (.iadd, 1) := by decide +kernel
theorem dX5_mixedAt_16 : decode cX5_mixedAt 16 = .ok (.ireturn, 1) := by decide +kernel
theorem dX5_worst_0 : decode cX5_worst 0 = .ok (.aload_n 0, 1) := by decide +kernel
theorem dX5_worst_1 : decode cX5_worst 1 = .ok (.getfield 36, 3) := by decide +kernel
theorem dX5_worst_4 : decode cX5_worst 4 = .ok (.ifCond .eq 39, 3) := by decide +kernel
theorem dX5_worst_7 : decode cX5_worst 7 = .ok (.aload_n 0, 1) := by decide +kernel
theorem dX5_worst_8 : decode cX5_worst 8 = .ok (.getfield 19, 3) := by decide +kernel
theorem dX5_worst_11 : decode cX5_worst 11 = .ok (.aload_n 0, 1) := by decide +kernel
theorem dX5_worst_12 : decode cX5_worst 12 = .ok (.aload_n 0, 1) := by decide +kernel
theorem dX5_worst_13 : decode cX5_worst 13 = .ok (.getfield 58, 3) := by decide +kernel
theorem dX5_worst_16 : decode cX5_worst 16 = .ok (.iload_n 1, 1) := by decide +kernel
theorem dX5_worst_17 : decode cX5_worst 17 = .ok (.isub, 1) := by decide +kernel
theorem dX5_worst_18 : decode cX5_worst 18 = .ok (.iload_n 2, 1) := by decide +kernel
theorem dX5_worst_19 : decode cX5_worst 19 = .ok (.isub, 1) := by decide +kernel
theorem dX5_worst_20 : decode cX5_worst 20 = .ok (.invokevirtual 64, 3) := by decide +kernel
theorem dX5_worst_23 : decode cX5_worst 23 = .ok (.iaload, 1) := by decide +kernel
theorem dX5_worst_24 : decode cX5_worst 24 = .ok (.istore 5, 2) := by decide +kernel
theorem dX5_worst_26 : decode cX5_worst 26 = .ok (.iload 5, 2) := by decide +kernel
theorem dX5_worst_28 : decode cX5_worst 28 = .ok (.aload_n 0, 1) := by decide +kernel
theorem dX5_worst_29 : decode cX5_worst 29 = .ok (.getfield 15, 3) := by decide +kernel
theorem dX5_worst_32 : decode cX5_worst 32 = .ok (.aload_n 0, 1) := by decide +kernel
theorem dX5_worst_33 : decode cX5_worst 33 = .ok (.iload_n 1, 1) := by decide +kernel
theorem dX5_worst_34 : decode cX5_worst 34 = .ok (.iload_n 2, 1) := by decide +kernel
theorem dX5_worst_35 : decode cX5_worst 35 = .ok (.invokevirtual 67, 3) := by decide +kernel
theorem dX5_worst_38 : decode cX5_worst 38 = .ok (.iaload, 1) := by decide +kernel
theorem dX5_worst_39 : decode cX5_worst 39 = .ok (.invokestatic 90, 3) := by decide +kernel
theorem dX5_worst_42 : decode cX5_worst 42 = .ok (.ireturn, 1) := by decide +kernel
theorem dX5_worst_43 : decode cX5_worst 43 = .ok (.aload_n 0, 1) := by decide +kernel
theorem dX5_worst_44 : decode cX5_worst 44 = .ok (.getfield 15, 3) := by decide +kernel
theorem dX5_worst_47 : decode cX5_worst 47 = .ok (.aload_n 0, 1) := by decide +kernel
theorem dX5_worst_48 : decode cX5_worst 48 = .ok (.aload_n 0, 1) := by decide +kernel
theorem dX5_worst_49 : decode cX5_worst 49 = .ok (.getfield 58, 3) := by decide +kernel
theorem dX5_worst_52 : decode cX5_worst 52 = .ok (.iload_n 1, 1) := by decide +kernel
theorem dX5_worst_53 : decode cX5_worst 53 = .ok (.isub, 1) := by decide +kernel
theorem dX5_worst_54 : decode cX5_worst 54 = .ok (.iload_n 2, 1) := by decide +kernel
theorem dX5_worst_55 : decode cX5_worst 55 = .ok (.isub, 1) := by decide +kernel
theorem dX5_worst_56 : decode cX5_worst 56 = .ok (.aload_n 0, 1) := by decide +kernel
theorem dX5_worst_57 : decode cX5_worst 57 = .ok (.getfield 61, 3) := by decide +kernel
theorem dX5_worst_60 : decode cX5_worst 60 = .ok (.iload_n 3, 1) := by decide +kernel
theorem dX5_worst_61 : decode cX5_worst 61 = .ok (.isub, 1) := by decide +kernel
theorem dX5_worst_62 : decode cX5_worst 62 = .ok (.iload 4, 2) := by decide +kernel
theorem dX5_worst_64 : decode cX5_worst 64 = .ok (.isub, 1) := by decide +kernel
theorem dX5_worst_65 : decode cX5_worst 65 = .ok (.invokevirtual 67, 3) := by decide +kernel
theorem dX5_worst_68 : decode cX5_worst 68 = .ok (.iaload, 1) := by decide +kernel
theorem dX5_worst_69 : decode cX5_worst 69 = .ok (.istore 5, 2) := by decide +kernel
theorem dX5_worst_71 : decode cX5_worst 71 = .ok (.aload_n 0, 1) := by decide +kernel
theorem dX5_worst_72 : decode cX5_worst 72 = .ok (.getfield 15, 3) := by decide +kernel
theorem dX5_worst_75 : decode cX5_worst 75 = .ok (.aload_n 0, 1) := by decide +kernel
theorem dX5_worst_76 : decode cX5_worst 76 = .ok (.iload_n 1, 1) := by decide +kernel
theorem dX5_worst_77 : decode cX5_worst 77 = .ok (.iload 4, 2) := by decide +kernel
theorem dX5_worst_79 : decode cX5_worst 79 = .ok (.invokevirtual 67, 3) := by decide +kernel
theorem dX5_worst_82 : decode cX5_worst 82 = .ok (.iaload, 1) := by decide +kernel
theorem dX5_worst_83 : decode cX5_worst 83 = .ok (.istore 6, 2) := by decide +kernel
theorem dX5_worst_85 : decode cX5_worst 85 = .ok (.aload_n 0, 1) := by decide +kernel
theorem dX5_worst_86 : decode cX5_worst 86 = .ok (.getfield 15, 3) := by decide +kernel
theorem dX5_worst_89 : decode cX5_worst 89 = .ok (.aload_n 0, 1) := by decide +kernel
theorem dX5_worst_90 : decode cX5_worst 90 = .ok (.iload_n 2, 1) := by decide +kernel
theorem dX5_worst_91 : decode cX5_worst 91 = .ok (.iload_n 3, 1) := by decide +kernel
theorem dX5_worst_92 : decode cX5_worst 92 = .ok (.invokevirtual 67, 3) := by decide +kernel
theorem dX5_worst_95 : decode cX5_worst 95 = .ok (.iaload, 1) := by decide +kernel
theorem dX5_worst_96 : decode cX5_worst 96 = .ok (.istore 7, 2) := by decide +kernel
theorem dX5_worst_98 : decode cX5_worst 98 = .ok (.iload 5, 2) := by decide +kernel
theorem dX5_worst_100 : decode cX5_worst 100 = .ok (.iload 6, 2) := by decide +kernel
theorem dX5_worst_102 : decode cX5_worst 102 = .ok (.iload 7, 2) := by decide +kernel
theorem dX5_worst_104 : decode cX5_worst 104 = .ok (.invokestatic 90, 3) := by decide +kernel
theorem dX5_worst_107 : decode cX5_worst 107 = .ok (.invokestatic 90, 3) := by decide +kernel
theorem dX5_worst_110 : decode cX5_worst 110 = .ok (.ireturn, 1) := by decide +kernel
theorem dX5_leastWorst_0 : decode cX5_leastWorst 0 = .ok (.aload_n 0, 1) := by decide +kernel
theorem dX5_leastWorst_1 : decode cX5_leastWorst 1 = .ok (.getfield 22, 3) := by decide +kernel
theorem dX5_leastWorst_4 : decode cX5_leastWorst 4 = .ok (.aload_n 0, 1) := by decide +kernel
theorem dX5_leastWorst_5 : decode cX5_leastWorst 5 = .ok (.getfield 58, 3) := by decide +kernel
theorem dX5_leastWorst_8 : decode cX5_leastWorst 8 = .ok (.isub, 1) := by decide +kernel
theorem dX5_leastWorst_9 : decode cX5_leastWorst 9 = .ok (.aload_n 0, 1) := by decide +kernel
theorem dX5_leastWorst_10 : decode cX5_leastWorst 10 = .ok (.getfield 61, 3) := by decide +kernel
theorem dX5_leastWorst_13 : decode cX5_leastWorst 13 = .ok (.isub, 1) := by decide +kernel
theorem dX5_leastWorst_14 : decode cX5_leastWorst 14 = .ok (.istore_n 1, 1) := by decide +kernel
theorem dX5_leastWorst_15 : decode cX5_leastWorst 15 = .ok (.bipush 99, 2) := by decide +kernel
theorem dX5_leastWorst_17 : decode cX5_leastWorst 17 = .ok (.istore_n 2, 1) := by decide +kernel
theorem dX5_leastWorst_18 : decode cX5_leastWorst 18 = .ok (.iconst 0, 1) := by decide +kernel
theorem dX5_leastWorst_19 : decode cX5_leastWorst 19 = .ok (.istore_n 3, 1) := by decide +kernel
theorem dX5_leastWorst_20 : decode cX5_leastWorst 20 = .ok (.iload_n 3, 1) := by decide +kernel
theorem dX5_leastWorst_21 : decode cX5_leastWorst 21 = .ok (.aload_n 0, 1) := by decide +kernel
theorem dX5_leastWorst_22 : decode cX5_leastWorst 22 = .ok (.getfield 58, 3) := by decide +kernel
theorem dX5_leastWorst_25 : decode cX5_leastWorst 25 = .ok (.if_icmp .gt 107, 3) := by decide +kernel
theorem dX5_leastWorst_28 : decode cX5_leastWorst 28 = .ok (.iconst 0, 1) := by decide +kernel
theorem dX5_leastWorst_29 : decode cX5_leastWorst 29 = .ok (.istore 4, 2) := by decide +kernel
theorem dX5_leastWorst_31 : decode cX5_leastWorst 31 = .ok (.iload 4, 2) := by decide +kernel
theorem dX5_leastWorst_33 : decode cX5_leastWorst 33 = .ok (.iload_n 3, 1) := by decide +kernel
theorem dX5_leastWorst_34 : decode cX5_leastWorst 34 = .ok (.if_icmp .gt 92, 3) := by decide +kernel
theorem dX5_leastWorst_37 : decode cX5_leastWorst 37 = .ok (.iload_n 3, 1) := by decide +kernel
theorem dX5_leastWorst_38 : decode cX5_leastWorst 38 = .ok (.iload 4, 2) := by decide +kernel
theorem dX5_leastWorst_40 : decode cX5_leastWorst 40 = .ok (.iadd, 1) := by decide +kernel
theorem dX5_leastWorst_41 : decode cX5_leastWorst 41 = .ok (.aload_n 0, 1) := by decide +kernel
theorem dX5_leastWorst_42 : decode cX5_leastWorst 42 = .ok (.getfield 58, 3) := by decide +kernel
theorem dX5_leastWorst_45 : decode cX5_leastWorst 45 = .ok (.if_icmp .gt 81, 3) := by decide +kernel
theorem dX5_leastWorst_48 : decode cX5_leastWorst 48 = .ok (.iconst 0, 1) := by decide +kernel
theorem dX5_leastWorst_49 : decode cX5_leastWorst 49 = .ok (.istore 5, 2) := by decide +kernel
theorem dX5_leastWorst_51 : decode cX5_leastWorst 51 = .ok (.iload 5, 2) := by decide +kernel
theorem dX5_leastWorst_53 : decode cX5_leastWorst 53 = .ok (.aload_n 0, 1) := by decide +kernel
theorem dX5_leastWorst_54 : decode cX5_leastWorst 54 = .ok (.getfield 61, 3) := by decide +kernel
theorem dX5_leastWorst_57 : decode cX5_leastWorst 57 = .ok (.if_icmp .gt 63, 3) := by decide +kernel
theorem dX5_leastWorst_60 : decode cX5_leastWorst 60 = .ok (.iconst 0, 1) := by decide +kernel
theorem dX5_leastWorst_61 : decode cX5_leastWorst 61 = .ok (.istore 6, 2) := by decide +kernel
theorem dX5_leastWorst_63 : decode cX5_leastWorst 63 = .ok (.iload 5, 2) := by decide +kernel
theorem dX5_leastWorst_65 : decode cX5_leastWorst 65 = .ok (.iload 6, 2) := by decide +kernel
theorem dX5_leastWorst_67 : decode cX5_leastWorst 67 = .ok (.iadd, 1) := by decide +kernel
theorem dX5_leastWorst_68 : decode cX5_leastWorst 68 = .ok (.aload_n 0, 1) := by decide +kernel
theorem dX5_leastWorst_69 : decode cX5_leastWorst 69 = .ok (.getfield 61, 3) := by decide +kernel
theorem dX5_leastWorst_72 : decode cX5_leastWorst 72 = .ok (.if_icmp .gt 42, 3) := by decide +kernel
theorem dX5_leastWorst_75 : decode cX5_leastWorst 75 = .ok (.iload_n 3, 1) := by decide +kernel
theorem dX5_leastWorst_76 : decode cX5_leastWorst 76 = .ok (.iload 5, 2) := by decide +kernel
theorem dX5_leastWorst_78 : decode cX5_leastWorst 78 = .ok (.iadd, 1) := by decide +kernel
theorem dX5_leastWorst_79 : decode cX5_leastWorst 79 = .ok (.iload 4, 2) := by decide +kernel
theorem dX5_leastWorst_81 : decode cX5_leastWorst 81 = .ok (.isub, 1) := by decide +kernel
theorem dX5_leastWorst_82 : decode cX5_leastWorst 82 = .ok (.iload 6, 2) := by decide +kernel
theorem dX5_leastWorst_84 : decode cX5_leastWorst 84 = .ok (.isub, 1) := by decide +kernel
theorem dX5_leastWorst_85 : decode cX5_leastWorst 85 = .ok (.invokestatic 78, 3) := by decide +kernel
theorem dX5_leastWorst_88 : decode cX5_leastWorst 88 = .ok (.iload_n 1, 1) := by decide +kernel
theorem dX5_leastWorst_89 : decode cX5_leastWorst 89 = .ok (.if_icmp .gt 19, 3) := by decide +kernel
theorem dX5_leastWorst_92 : decode cX5_leastWorst 92 = .ok (.iload_n 2, 1) := by decide +kernel
theorem dX5_leastWorst_93 : decode cX5_leastWorst 93 = .ok (.aload_n 0, 1) := by decide +kernel
theorem dX5_leastWorst_94 : decode cX5_leastWorst 94 = .ok (.iload_n 3, 1) := by decide +kernel
theorem dX5_leastWorst_95 : decode cX5_leastWorst 95 = .ok (.iload 4, 2) := by decide +kernel
theorem dX5_leastWorst_97 : decode cX5_leastWorst 97 = .ok (.iload 5, 2) := by decide +kernel
theorem dX5_leastWorst_99 : decode cX5_leastWorst 99 = .ok (.iload 6, 2) := by decide +kernel
theorem dX5_leastWorst_101 : decode cX5_leastWorst 101 = .ok (.invokevirtual 83, 3) := by decide +kernel
theorem dX5_leastWorst_104 : decode cX5_leastWorst 104 = .ok (.invokestatic 87, 3) := by decide +kernel
theorem dX5_leastWorst_107 : decode cX5_leastWorst 107 = .ok (.istore_n 2, 1) := by decide +kernel
theorem dX5_leastWorst_108 : decode cX5_leastWorst 108 = .ok (.iinc 6 1, 3) := by decide +kernel
theorem dX5_leastWorst_111 : decode cX5_leastWorst 111 = .ok (.goto (-48), 3) := by decide +kernel
theorem dX5_leastWorst_114 : decode cX5_leastWorst 114 = .ok (.iinc 5 1, 3) := by decide +kernel
theorem dX5_leastWorst_117 : decode cX5_leastWorst 117 = .ok (.goto (-66), 3) := by decide +kernel
theorem dX5_leastWorst_120 : decode cX5_leastWorst 120 = .ok (.iinc 4 1, 3) := by decide +kernel
theorem dX5_leastWorst_123 : decode cX5_leastWorst 123 = .ok (.goto (-92), 3) := by decide +kernel
theorem dX5_leastWorst_126 : decode cX5_leastWorst 126 = .ok (.iinc 3 1, 3) := by decide +kernel
theorem dX5_leastWorst_129 : decode cX5_leastWorst 129 = .ok (.goto (-109), 3) := by decide +kernel
theorem dX5_leastWorst_132 : decode cX5_leastWorst 132 = .ok (.iload_n 2, 1) := by decide +kernel
theorem dX5_leastWorst_133 : decode cX5_leastWorst 133 = .ok (.ireturn, 1) := by decide +kernel
theorem dX5_fillMixedNeeds_0 : decode cX5_fillMixedNeeds 0 = .ok (.aload_n 0, 1) := by decide +kernel
theorem dX5_fillMixedNeeds_1 : decode cX5_fillMixedNeeds 1 = .ok (.iconst 1, 1) := by decide +kernel
theorem dX5_fillMixedNeeds_2 : decode cX5_fillMixedNeeds 2 = .ok (.putfield 36, 3) := by decide +kernel
theorem dX5_fillMixedNeeds_5 : decode cX5_fillMixedNeeds 5 = .ok (.aload_n 0, 1) := by decide +kernel
theorem dX5_fillMixedNeeds_6 : decode cX5_fillMixedNeeds 6 = .ok (.iload_n 1, 1) := by decide +kernel
theorem dX5_fillMixedNeeds_7 : decode cX5_fillMixedNeeds 7 = .ok (.putfield 40, 3) := by decide +kernel
theorem dX5_fillMixedNeeds_10 : decode cX5_fillMixedNeeds 10 = .ok (.aload_n 0, 1) := by decide +kernel
theorem dX5_fillMixedNeeds_11 : decode cX5_fillMixedNeeds 11 = .ok (.iconst 0, 1) := by decide +kernel
theorem dX5_fillMixedNeeds_12 : decode cX5_fillMixedNeeds 12 = .ok (.putfield 61, 3) := by decide +kernel
theorem dX5_fillMixedNeeds_15 : decode cX5_fillMixedNeeds 15 = .ok (.iconst 0, 1) := by decide +kernel
theorem dX5_fillMixedNeeds_16 : decode cX5_fillMixedNeeds 16 = .ok (.istore_n 2, 1) := by decide +kernel
theorem dX5_fillMixedNeeds_17 : decode cX5_fillMixedNeeds 17 = .ok (.iload_n 2, 1) := by decide +kernel
theorem dX5_fillMixedNeeds_18 : decode cX5_fillMixedNeeds 18 = .ok (.aload_n 0, 1) := by decide +kernel
theorem dX5_fillMixedNeeds_19 : decode cX5_fillMixedNeeds 19 = .ok (.getfield 22, 3) := by decide +kernel
theorem dX5_fillMixedNeeds_22 : decode cX5_fillMixedNeeds 22 = .ok (.if_icmp .gt 39, 3) := by decide +kernel
theorem dX5_fillMixedNeeds_25 : decode cX5_fillMixedNeeds 25 = .ok (.aload_n 0, 1) := by decide +kernel
theorem dX5_fillMixedNeeds_26 : decode cX5_fillMixedNeeds 26 = .ok (.iload_n 2, 1) := by decide +kernel
theorem dX5_fillMixedNeeds_27 : decode cX5_fillMixedNeeds 27 = .ok (.putfield 58, 3) := by decide +kernel
theorem dX5_fillMixedNeeds_30 : decode cX5_fillMixedNeeds 30 = .ok (.aload_n 0, 1) := by decide +kernel
theorem dX5_fillMixedNeeds_31 : decode cX5_fillMixedNeeds 31 = .ok (.getfield 19, 3) := by decide +kernel
theorem dX5_fillMixedNeeds_34 : decode cX5_fillMixedNeeds 34 = .ok (.aload_n 0, 1) := by decide +kernel
theorem dX5_fillMixedNeeds_35 : decode cX5_fillMixedNeeds 35 = .ok (.iload_n 2, 1) := by decide +kernel
theorem dX5_fillMixedNeeds_36 : decode cX5_fillMixedNeeds 36 = .ok (.invokevirtual 64, 3) := by decide +kernel
theorem dX5_fillMixedNeeds_39 : decode cX5_fillMixedNeeds 39 = .ok (.iload_n 2, 1) := by decide +kernel
theorem dX5_fillMixedNeeds_40 : decode cX5_fillMixedNeeds 40 = .ok (.ifCond .ne 7, 3) := by decide +kernel
theorem dX5_fillMixedNeeds_43 : decode cX5_fillMixedNeeds 43 = .ok (.iconst 0, 1) := by decide +kernel
theorem dX5_fillMixedNeeds_44 : decode cX5_fillMixedNeeds 44 = .ok (.goto 10, 3) := by decide +kernel
theorem dX5_fillMixedNeeds_47 : decode cX5_fillMixedNeeds 47 = .ok (.aload_n 0, 1) := by decide +kernel
theorem dX5_fillMixedNeeds_48 : decode cX5_fillMixedNeeds 48 = .ok (.invokevirtual 71, 3) := by decide +kernel
theorem dX5_fillMixedNeeds_51 : decode cX5_fillMixedNeeds 51 = .ok (.invokestatic 75, 3) := by decide +kernel
theorem dX5_fillMixedNeeds_54 : decode cX5_fillMixedNeeds 54 = .ok (.iastore, 1) := by decide +kernel
theorem dX5_fillMixedNeeds_55 : decode cX5_fillMixedNeeds 55 = .ok (.iinc 2 1, 3) := by decide +kernel
theorem dX5_fillMixedNeeds_58 : decode cX5_fillMixedNeeds 58 = .ok (.goto (-41), 3) := by decide +kernel
theorem dX5_fillMixedNeeds_61 : decode cX5_fillMixedNeeds 61 = .ok (.return_, 1) := by decide +kernel
theorem dX5_fillSplitNeeds_0 : decode cX5_fillSplitNeeds 0 = .ok (.aload_n 0, 1) := by decide +kernel
theorem dX5_fillSplitNeeds_1 : decode cX5_fillSplitNeeds 1 = .ok (.iconst 0, 1) := by decide +kernel
theorem dX5_fillSplitNeeds_2 : decode cX5_fillSplitNeeds 2 = .ok (.putfield 36, 3) := by decide +kernel
theorem dX5_fillSplitNeeds_5 : decode cX5_fillSplitNeeds 5 = .ok (.aload_n 0, 1) := by decide +kernel
theorem dX5_fillSplitNeeds_6 : decode cX5_fillSplitNeeds 6 = .ok (.iconst 0, 1) := by decide +kernel
theorem dX5_fillSplitNeeds_7 : decode cX5_fillSplitNeeds 7 = .ok (.putfield 40, 3) := by decide +kernel
theorem dX5_fillSplitNeeds_10 : decode cX5_fillSplitNeeds 10 = .ok (.iconst 0, 1) := by decide +kernel
theorem dX5_fillSplitNeeds_11 : decode cX5_fillSplitNeeds 11 = .ok (.istore_n 1, 1) := by decide +kernel
theorem dX5_fillSplitNeeds_12 : decode cX5_fillSplitNeeds 12 = .ok (.iload_n 1, 1) := by decide +kernel
theorem dX5_fillSplitNeeds_13 : decode cX5_fillSplitNeeds 13 = .ok (.aload_n 0, 1) := by decide +kernel
theorem dX5_fillSplitNeeds_14 : decode cX5_fillSplitNeeds 14 = .ok (.getfield 22, 3) := by decide +kernel
theorem dX5_fillSplitNeeds_17 : decode cX5_fillSplitNeeds 17 = .ok (.if_icmp .gt 89, 3) := by decide +kernel
theorem dX5_fillSplitNeeds_20 : decode cX5_fillSplitNeeds 20 = .ok (.iconst 0, 1) := by decide +kernel
theorem dX5_fillSplitNeeds_21 : decode cX5_fillSplitNeeds 21 = .ok (.istore_n 2, 1) := by decide +kernel
theorem dX5_fillSplitNeeds_22 : decode cX5_fillSplitNeeds 22 = .ok (.iconst 2, 1) := by decide +kernel
theorem dX5_fillSplitNeeds_23 : decode cX5_fillSplitNeeds 23 = .ok (.iload_n 2, 1) := by decide +kernel
theorem dX5_fillSplitNeeds_24 : decode cX5_fillSplitNeeds 24 = .ok (.imul, 1) := by decide +kernel
theorem dX5_fillSplitNeeds_25 : decode cX5_fillSplitNeeds 25 = .ok (.iload_n 1, 1) := by decide +kernel
theorem dX5_fillSplitNeeds_26 : decode cX5_fillSplitNeeds 26 = .ok (.if_icmp .gt 74, 3) := by decide +kernel
theorem dX5_fillSplitNeeds_29 : decode cX5_fillSplitNeeds 29 = .ok (.aload_n 0, 1) := by decide +kernel
theorem dX5_fillSplitNeeds_30 : decode cX5_fillSplitNeeds 30 = .ok (.iload_n 1, 1) := by decide +kernel
theorem dX5_fillSplitNeeds_31 : decode cX5_fillSplitNeeds 31 = .ok (.iload_n 2, 1) := by decide +kernel
theorem dX5_fillSplitNeeds_32 : decode cX5_fillSplitNeeds 32 = .ok (.isub, 1) := by decide +kernel
theorem dX5_fillSplitNeeds_33 : decode cX5_fillSplitNeeds 33 = .ok (.putfield 58, 3) := by decide +kernel
theorem dX5_fillSplitNeeds_36 : decode cX5_fillSplitNeeds 36 = .ok (.aload_n 0, 1) := by decide +kernel
theorem dX5_fillSplitNeeds_37 : decode cX5_fillSplitNeeds 37 = .ok (.iload_n 2, 1) := by decide +kernel
theorem dX5_fillSplitNeeds_38 : decode cX5_fillSplitNeeds 38 = .ok (.putfield 61, 3) := by decide +kernel
theorem dX5_fillSplitNeeds_41 : decode cX5_fillSplitNeeds 41 = .ok (.iload_n 1, 1) := by decide +kernel
theorem dX5_fillSplitNeeds_42 : decode cX5_fillSplitNeeds 42 = .ok (.iconst 1, 1) := by decide +kernel
theorem dX5_fillSplitNeeds_43 : decode cX5_fillSplitNeeds 43 = .ok (.if_icmp .gt 7, 3) := by decide +kernel
theorem dX5_fillSplitNeeds_46 : decode cX5_fillSplitNeeds 46 = .ok (.iconst 0, 1) := by decide +kernel
theorem dX5_fillSplitNeeds_47 : decode cX5_fillSplitNeeds 47 = .ok (.goto 10, 3) := by decide +kernel
theorem dX5_fillSplitNeeds_50 : decode cX5_fillSplitNeeds 50 = .ok (.aload_n 0, 1) := by decide +kernel
theorem dX5_fillSplitNeeds_51 : decode cX5_fillSplitNeeds 51 = .ok (.invokevirtual 71, 3) := by decide +kernel
theorem dX5_fillSplitNeeds_54 : decode cX5_fillSplitNeeds 54 = .ok (.invokestatic 75, 3) := by decide +kernel
theorem dX5_fillSplitNeeds_57 : decode cX5_fillSplitNeeds 57 = .ok (.istore_n 3, 1) := by decide +kernel
theorem dX5_fillSplitNeeds_58 : decode cX5_fillSplitNeeds 58 = .ok (.aload_n 0, 1) := by decide +kernel
theorem dX5_fillSplitNeeds_59 : decode cX5_fillSplitNeeds 59 = .ok (.getfield 15, 3) := by decide +kernel
theorem dX5_fillSplitNeeds_62 : decode cX5_fillSplitNeeds 62 = .ok (.aload_n 0, 1) := by decide +kernel
theorem dX5_fillSplitNeeds_63 : decode cX5_fillSplitNeeds 63 = .ok (.aload_n 0, 1) := by decide +kernel
theorem dX5_fillSplitNeeds_64 : decode cX5_fillSplitNeeds 64 = .ok (.getfield 58, 3) := by decide +kernel
theorem dX5_fillSplitNeeds_67 : decode cX5_fillSplitNeeds 67 = .ok (.aload_n 0, 1) := by decide +kernel
theorem dX5_fillSplitNeeds_68 : decode cX5_fillSplitNeeds 68 = .ok (.getfield 61, 3) := by decide +kernel
theorem dX5_fillSplitNeeds_71 : decode cX5_fillSplitNeeds 71 = .ok (.invokevirtual 67, 3) := by decide +kernel
theorem dX5_fillSplitNeeds_74 : decode cX5_fillSplitNeeds 74 = .ok (.iload_n 3, 1) := by decide +kernel
theorem dX5_fillSplitNeeds_75 : decode cX5_fillSplitNeeds 75 = .ok (.iastore, 1) := by decide +kernel
theorem dX5_fillSplitNeeds_76 : decode cX5_fillSplitNeeds 76 = .ok (.aload_n 0, 1) := by decide +kernel
theorem dX5_fillSplitNeeds_77 : decode cX5_fillSplitNeeds 77 = .ok (.getfield 15, 3) := by decide +kernel
theorem dX5_fillSplitNeeds_80 : decode cX5_fillSplitNeeds 80 = .ok (.aload_n 0, 1) := by decide +kernel
theorem dX5_fillSplitNeeds_81 : decode cX5_fillSplitNeeds 81 = .ok (.aload_n 0, 1) := by decide +kernel
theorem dX5_fillSplitNeeds_82 : decode cX5_fillSplitNeeds 82 = .ok (.getfield 61, 3) := by decide +kernel
theorem dX5_fillSplitNeeds_85 : decode cX5_fillSplitNeeds 85 = .ok (.aload_n 0, 1) := by decide +kernel
theorem dX5_fillSplitNeeds_86 : decode cX5_fillSplitNeeds 86 = .ok (.getfield 58, 3) := by decide +kernel
theorem dX5_fillSplitNeeds_89 : decode cX5_fillSplitNeeds 89 = .ok (.invokevirtual 67, 3) := by decide +kernel
theorem dX5_fillSplitNeeds_92 : decode cX5_fillSplitNeeds 92 = .ok (.iload_n 3, 1) := by decide +kernel
theorem dX5_fillSplitNeeds_93 : decode cX5_fillSplitNeeds 93 = .ok (.iastore, 1) := by decide +kernel
theorem dX5_fillSplitNeeds_94 : decode cX5_fillSplitNeeds 94 = .ok (.iinc 2 1, 3) := by decide +kernel
theorem dX5_fillSplitNeeds_97 : decode cX5_fillSplitNeeds 97 = .ok (.goto (-75), 3) := by decide +kernel
theorem dX5_fillSplitNeeds_100 : decode cX5_fillSplitNeeds 100 = .ok (.iinc 1 1, 3) := by decide +kernel
theorem dX5_fillSplitNeeds_103 : decode cX5_fillSplitNeeds 103 = .ok (.goto (-91), 3) := by decide +kernel
theorem dX5_fillSplitNeeds_106 : decode cX5_fillSplitNeeds 106 = .ok (.return_, 1) := by decide +kernel
theorem dX5_forgetNeeds_0 : decode cX5_forgetNeeds 0 = .ok (.aload_n 0, 1) := by decide +kernel
theorem dX5_forgetNeeds_1 : decode cX5_forgetNeeds 1 = .ok (.getfield 22, 3) := by decide +kernel
theorem dX5_forgetNeeds_4 : decode cX5_forgetNeeds 4 = .ok (.bipush 13, 2) := by decide +kernel
theorem dX5_forgetNeeds_6 : decode cX5_forgetNeeds 6 = .ok (.imul, 1) := by decide +kernel
theorem dX5_forgetNeeds_7 : decode cX5_forgetNeeds 7 = .ok (.bipush 13, 2) := by decide +kernel
theorem dX5_forgetNeeds_9 : decode cX5_forgetNeeds 9 = .ok (.imul, 1) := by decide +kernel
theorem dX5_forgetNeeds_10 : decode cX5_forgetNeeds 10 = .ok (.istore_n 1, 1) := by decide +kernel
theorem dX5_forgetNeeds_11 : decode cX5_forgetNeeds 11 = .ok (.iload_n 1, 1) := by decide +kernel
theorem dX5_forgetNeeds_12 : decode cX5_forgetNeeds 12 = .ok (.aload_n 0, 1) := by decide +kernel
theorem dX5_forgetNeeds_13 : decode cX5_forgetNeeds 13 = .ok (.getfield 22, 3) := by decide +kernel
theorem dX5_forgetNeeds_16 : decode cX5_forgetNeeds 16 = .ok (.iconst 1, 1) := by decide +kernel
theorem dX5_forgetNeeds_17 : decode cX5_forgetNeeds 17 = .ok (.iadd, 1) := by decide +kernel
theorem dX5_forgetNeeds_18 : decode cX5_forgetNeeds 18 = .ok (.bipush 13, 2) := by decide +kernel
theorem dX5_forgetNeeds_20 : decode cX5_forgetNeeds 20 = .ok (.imul, 1) := by decide +kernel
theorem dX5_forgetNeeds_21 : decode cX5_forgetNeeds 21 = .ok (.bipush 13, 2) := by decide +kernel
theorem dX5_forgetNeeds_23 : decode cX5_forgetNeeds 23 = .ok (.imul, 1) := by decide +kernel
theorem dX5_forgetNeeds_24 : decode cX5_forgetNeeds 24 = .ok (.if_icmp .ge 17, 3) := by decide +kernel
theorem dX5_forgetNeeds_27 : decode cX5_forgetNeeds 27 = .ok (.aload_n 0, 1) := by decide +kernel
theorem dX5_forgetNeeds_28 : decode cX5_forgetNeeds 28 = .ok (.getfield 15, 3) := by decide +kernel
theorem dX5_forgetNeeds_31 : decode cX5_forgetNeeds 31 = .ok (.iload_n 1, 1) := by decide +kernel
theorem dX5_forgetNeeds_32 : decode cX5_forgetNeeds 32 = .ok (.bipush 99, 2) := by decide +kernel
theorem dX5_forgetNeeds_34 : decode cX5_forgetNeeds 34 = .ok (.iastore, 1) := by decide +kernel
theorem dX5_forgetNeeds_35 : decode cX5_forgetNeeds 35 = .ok (.iinc 1 1, 3) := by decide +kernel
theorem dX5_forgetNeeds_38 : decode cX5_forgetNeeds 38 = .ok (.goto (-27), 3) := by decide +kernel
theorem dX5_forgetNeeds_41 : decode cX5_forgetNeeds 41 = .ok (.aload_n 0, 1) := by decide +kernel
theorem dX5_forgetNeeds_42 : decode cX5_forgetNeeds 42 = .ok (.getfield 22, 3) := by decide +kernel
theorem dX5_forgetNeeds_45 : decode cX5_forgetNeeds 45 = .ok (.bipush 13, 2) := by decide +kernel
theorem dX5_forgetNeeds_47 : decode cX5_forgetNeeds 47 = .ok (.imul, 1) := by decide +kernel
theorem dX5_forgetNeeds_48 : decode cX5_forgetNeeds 48 = .ok (.iconst 2, 1) := by decide +kernel
theorem dX5_forgetNeeds_49 : decode cX5_forgetNeeds 49 = .ok (.imul, 1) := by decide +kernel
theorem dX5_forgetNeeds_50 : decode cX5_forgetNeeds 50 = .ok (.istore_n 1, 1) := by decide +kernel
theorem dX5_forgetNeeds_51 : decode cX5_forgetNeeds 51 = .ok (.iload_n 1, 1) := by decide +kernel
theorem dX5_forgetNeeds_52 : decode cX5_forgetNeeds 52 = .ok (.aload_n 0, 1) := by decide +kernel
theorem dX5_forgetNeeds_53 : decode cX5_forgetNeeds 53 = .ok (.getfield 22, 3) := by decide +kernel
theorem dX5_forgetNeeds_56 : decode cX5_forgetNeeds 56 = .ok (.iconst 1, 1) := by decide +kernel
theorem dX5_forgetNeeds_57 : decode cX5_forgetNeeds 57 = .ok (.iadd, 1) := by decide +kernel
theorem dX5_forgetNeeds_58 : decode cX5_forgetNeeds 58 = .ok (.bipush 13, 2) := by decide +kernel
theorem dX5_forgetNeeds_60 : decode cX5_forgetNeeds 60 = .ok (.imul, 1) := by decide +kernel
theorem dX5_forgetNeeds_61 : decode cX5_forgetNeeds 61 = .ok (.iconst 2, 1) := by decide +kernel
theorem dX5_forgetNeeds_62 : decode cX5_forgetNeeds 62 = .ok (.imul, 1) := by decide +kernel
theorem dX5_forgetNeeds_63 : decode cX5_forgetNeeds 63 = .ok (.if_icmp .ge 17, 3) := by decide +kernel
theorem dX5_forgetNeeds_66 : decode cX5_forgetNeeds 66 = .ok (.aload_n 0, 1) := by decide +kernel
theorem dX5_forgetNeeds_67 : decode cX5_forgetNeeds 67 = .ok (.getfield 19, 3) := by decide +kernel
theorem dX5_forgetNeeds_70 : decode cX5_forgetNeeds 70 = .ok (.iload_n 1, 1) := by decide +kernel
theorem dX5_forgetNeeds_71 : decode cX5_forgetNeeds 71 = .ok (.bipush 99, 2) := by decide +kernel
theorem dX5_forgetNeeds_73 : decode cX5_forgetNeeds 73 = .ok (.iastore, 1) := by decide +kernel
theorem dX5_forgetNeeds_74 : decode cX5_forgetNeeds 74 = .ok (.iinc 1 1, 3) := by decide +kernel
theorem dX5_forgetNeeds_77 : decode cX5_forgetNeeds 77 = .ok (.goto (-26), 3) := by decide +kernel
theorem dX5_forgetNeeds_80 : decode cX5_forgetNeeds 80 = .ok (.return_, 1) := by decide +kernel
theorem dX5_needed_0 : decode cX5_needed 0 = .ok (.aload_n 0, 1) := by decide +kernel
theorem dX5_needed_1 : decode cX5_needed 1 = .ok (.getfield 36, 3) := by decide +kernel
theorem dX5_needed_4 : decode cX5_needed 4 = .ok (.ifCond .eq 19, 3) := by decide +kernel
theorem dX5_needed_7 : decode cX5_needed 7 = .ok (.aload_n 0, 1) := by decide +kernel
theorem dX5_needed_8 : decode cX5_needed 8 = .ok (.getfield 19, 3) := by decide +kernel
theorem dX5_needed_11 : decode cX5_needed 11 = .ok (.aload_n 0, 1) := by decide +kernel
theorem dX5_needed_12 : decode cX5_needed 12 = .ok (.aload_n 0, 1) := by decide +kernel
theorem dX5_needed_13 : decode cX5_needed 13 = .ok (.getfield 58, 3) := by decide +kernel
theorem dX5_needed_16 : decode cX5_needed 16 = .ok (.invokevirtual 64, 3) := by decide +kernel
theorem dX5_needed_19 : decode cX5_needed 19 = .ok (.iaload, 1) := by decide +kernel
theorem dX5_needed_20 : decode cX5_needed 20 = .ok (.goto 20, 3) := by decide +kernel
theorem dX5_needed_23 : decode cX5_needed 23 = .ok (.aload_n 0, 1) := by decide +kernel
theorem dX5_needed_24 : decode cX5_needed 24 = .ok (.getfield 15, 3) := by decide +kernel
theorem dX5_needed_27 : decode cX5_needed 27 = .ok (.aload_n 0, 1) := by decide +kernel
theorem dX5_needed_28 : decode cX5_needed 28 = .ok (.aload_n 0, 1) := by decide +kernel
theorem dX5_needed_29 : decode cX5_needed 29 = .ok (.getfield 58, 3) := by decide +kernel
theorem dX5_needed_32 : decode cX5_needed 32 = .ok (.aload_n 0, 1) := by decide +kernel
theorem dX5_needed_33 : decode cX5_needed 33 = .ok (.getfield 61, 3) := by decide +kernel
theorem dX5_needed_36 : decode cX5_needed 36 = .ok (.invokevirtual 67, 3) := by decide +kernel
theorem dX5_needed_39 : decode cX5_needed 39 = .ok (.iaload, 1) := by decide +kernel
theorem dX5_needed_40 : decode cX5_needed 40 = .ok (.ireturn, 1) := by decide +kernel
theorem dX5_choose_0 : decode cX5_choose 0 = .ok (.aload_n 0, 1) := by decide +kernel
theorem dX5_choose_1 : decode cX5_choose 1 = .ok (.iload_n 1, 1) := by decide +kernel
theorem dX5_choose_2 : decode cX5_choose 2 = .ok (.putfield 22, 3) := by decide +kernel
theorem dX5_choose_5 : decode cX5_choose 5 = .ok (.aload_n 0, 1) := by decide +kernel
theorem dX5_choose_6 : decode cX5_choose 6 = .ok (.getfield 11, 3) := by decide +kernel
theorem dX5_choose_9 : decode cX5_choose 9 = .ok (.aload_n 0, 1) := by decide +kernel
theorem dX5_choose_10 : decode cX5_choose 10 = .ok (.getfield 22, 3) := by decide +kernel
theorem dX5_choose_13 : decode cX5_choose 13 = .ok (.baload, 1) := by decide +kernel
theorem dX5_choose_14 : decode cX5_choose 14 = .ok (.ifCond .ne 31, 3) := by decide +kernel
theorem dX5_choose_17 : decode cX5_choose 17 = .ok (.aload_n 0, 1) := by decide +kernel
theorem dX5_choose_18 : decode cX5_choose 18 = .ok (.invokevirtual 26, 3) := by decide +kernel
theorem dX5_choose_21 : decode cX5_choose 21 = .ok (.aload_n 0, 1) := by decide +kernel
theorem dX5_choose_22 : decode cX5_choose 22 = .ok (.invokevirtual 29, 3) := by decide +kernel
theorem dX5_choose_25 : decode cX5_choose 25 = .ok (.aload_n 0, 1) := by decide +kernel
theorem dX5_choose_26 : decode cX5_choose 26 = .ok (.iconst 0, 1) := by decide +kernel
theorem dX5_choose_27 : decode cX5_choose 27 = .ok (.invokevirtual 32, 3) := by decide +kernel
theorem dX5_choose_30 : decode cX5_choose 30 = .ok (.aload_n 0, 1) := by decide +kernel
theorem dX5_choose_31 : decode cX5_choose 31 = .ok (.iconst 1, 1) := by decide +kernel
theorem dX5_choose_32 : decode cX5_choose 32 = .ok (.invokevirtual 32, 3) := by decide +kernel
theorem dX5_choose_35 : decode cX5_choose 35 = .ok (.aload_n 0, 1) := by decide +kernel
theorem dX5_choose_36 : decode cX5_choose 36 = .ok (.getfield 11, 3) := by decide +kernel
theorem dX5_choose_39 : decode cX5_choose 39 = .ok (.aload_n 0, 1) := by decide +kernel
theorem dX5_choose_40 : decode cX5_choose 40 = .ok (.getfield 22, 3) := by decide +kernel
theorem dX5_choose_43 : decode cX5_choose 43 = .ok (.iconst 1, 1) := by decide +kernel
theorem dX5_choose_44 : decode cX5_choose 44 = .ok (.bastore, 1) := by decide +kernel
theorem dX5_choose_45 : decode cX5_choose 45 = .ok (.aload_n 0, 1) := by decide +kernel
theorem dX5_choose_46 : decode cX5_choose 46 = .ok (.iload_n 2, 1) := by decide +kernel
theorem dX5_choose_47 : decode cX5_choose 47 = .ok (.iload_n 3, 1) := by decide +kernel
theorem dX5_choose_48 : decode cX5_choose 48 = .ok (.iand, 1) := by decide +kernel
theorem dX5_choose_49 : decode cX5_choose 49 = .ok (.ifCond .eq 7, 3) := by decide +kernel
theorem dX5_choose_52 : decode cX5_choose 52 = .ok (.iconst 1, 1) := by decide +kernel
theorem dX5_choose_53 : decode cX5_choose 53 = .ok (.goto 4, 3) := by decide +kernel
theorem dX5_choose_56 : decode cX5_choose 56 = .ok (.iconst 0, 1) := by decide +kernel
theorem dX5_choose_57 : decode cX5_choose 57 = .ok (.putfield 36, 3) := by decide +kernel
theorem dX5_choose_60 : decode cX5_choose 60 = .ok (.aload_n 0, 1) := by decide +kernel
theorem dX5_choose_61 : decode cX5_choose 61 = .ok (.iload 4, 2) := by decide +kernel
theorem dX5_choose_63 : decode cX5_choose 63 = .ok (.putfield 40, 3) := by decide +kernel
theorem dX5_choose_66 : decode cX5_choose 66 = .ok (.aload_n 0, 1) := by decide +kernel
theorem dX5_choose_67 : decode cX5_choose 67 = .ok (.iload_n 2, 1) := by decide +kernel
theorem dX5_choose_68 : decode cX5_choose 68 = .ok (.putfield 43, 3) := by decide +kernel
theorem dX5_choose_71 : decode cX5_choose 71 = .ok (.aload_n 0, 1) := by decide +kernel
theorem dX5_choose_72 : decode cX5_choose 72 = .ok (.aload_n 0, 1) := by decide +kernel
theorem dX5_choose_73 : decode cX5_choose 73 = .ok (.getfield 36, 3) := by decide +kernel
theorem dX5_choose_76 : decode cX5_choose 76 = .ok (.ifCond .eq 7, 3) := by decide +kernel
theorem dX5_choose_79 : decode cX5_choose 79 = .ok (.iconst 0, 1) := by decide +kernel
theorem dX5_choose_80 : decode cX5_choose 80 = .ok (.goto 4, 3) := by decide +kernel
theorem dX5_choose_83 : decode cX5_choose 83 = .ok (.iload_n 3, 1) := by decide +kernel
theorem dX5_choose_84 : decode cX5_choose 84 = .ok (.putfield 46, 3) := by decide +kernel
theorem dX5_choose_87 : decode cX5_choose 87 = .ok (.aload_n 0, 1) := by decide +kernel
theorem dX5_choose_88 : decode cX5_choose 88 = .ok (.iconst 1, 1) := by decide +kernel
theorem dX5_choose_89 : decode cX5_choose 89 = .ok (.aload_n 0, 1) := by decide +kernel
theorem dX5_choose_90 : decode cX5_choose 90 = .ok (.getfield 22, 3) := by decide +kernel
theorem dX5_choose_93 : decode cX5_choose 93 = .ok (.ishl, 1) := by decide +kernel
theorem dX5_choose_94 : decode cX5_choose 94 = .ok (.iconst 1, 1) := by decide +kernel
theorem dX5_choose_95 : decode cX5_choose 95 = .ok (.isub, 1) := by decide +kernel
theorem dX5_choose_96 : decode cX5_choose 96 = .ok (.iload_n 2, 1) := by decide +kernel
theorem dX5_choose_97 : decode cX5_choose 97 = .ok (.iload_n 3, 1) := by decide +kernel
theorem dX5_choose_98 : decode cX5_choose 98 = .ok (.ior, 1) := by decide +kernel
theorem dX5_choose_99 : decode cX5_choose 99 = .ok (.iconst (-1), 1) := by decide +kernel
theorem dX5_choose_100 : decode cX5_choose 100 = .ok (.ixor, 1) := by decide +kernel
theorem dX5_choose_101 : decode cX5_choose 101 = .ok (.iand, 1) := by decide +kernel
theorem dX5_choose_102 : decode cX5_choose 102 = .ok (.putfield 49, 3) := by decide +kernel
theorem dX5_choose_105 : decode cX5_choose 105 = .ok (.aload_n 0, 1) := by decide +kernel
theorem dX5_choose_106 : decode cX5_choose 106 = .ok (.aload_n 0, 1) := by decide +kernel
theorem dX5_choose_107 : decode cX5_choose 107 = .ok (.getfield 43, 3) := by decide +kernel
theorem dX5_choose_110 : decode cX5_choose 110 = .ok (.invokestatic 52, 3) := by decide +kernel
theorem dX5_choose_113 : decode cX5_choose 113 = .ok (.putfield 58, 3) := by decide +kernel
theorem dX5_choose_116 : decode cX5_choose 116 = .ok (.aload_n 0, 1) := by decide +kernel
theorem dX5_choose_117 : decode cX5_choose 117 = .ok (.aload_n 0, 1) := by decide +kernel
theorem dX5_choose_118 : decode cX5_choose 118 = .ok (.getfield 46, 3) := by decide +kernel
theorem dX5_choose_121 : decode cX5_choose 121 = .ok (.invokestatic 52, 3) := by decide +kernel
theorem dX5_choose_124 : decode cX5_choose 124 = .ok (.putfield 61, 3) := by decide +kernel
theorem dX5_choose_127 : decode cX5_choose 127 = .ok (.return_, 1) := by decide +kernel
theorem dX5_lowestWeighing_0 : decode cX5_lowestWeighing 0 = .ok (.iload_n 1, 1) := by decide +kernel
theorem dX5_lowestWeighing_1 : decode cX5_lowestWeighing 1 = .ok (.iload_n 3, 1) := by decide +kernel
theorem dX5_lowestWeighing_2 : decode cX5_lowestWeighing 2 = .ok (.iadd, 1) := by decide +kernel
theorem dX5_lowestWeighing_3 : decode cX5_lowestWeighing 3 = .ok (.iload_n 2, 1) := by decide +kernel
theorem dX5_lowestWeighing_4 : decode cX5_lowestWeighing 4 = .ok (.isub, 1) := by decide +kernel
theorem dX5_lowestWeighing_5 : decode cX5_lowestWeighing 5 = .ok (.iload 4, 2) := by decide +kernel
theorem dX5_lowestWeighing_7 : decode cX5_lowestWeighing 7 = .ok (.isub, 1) := by decide +kernel
theorem dX5_lowestWeighing_8 : decode cX5_lowestWeighing 8 = .ok (.istore 5, 2) := by decide +kernel
theorem dX5_lowestWeighing_10 : decode cX5_lowestWeighing 10 = .ok (.iload 5, 2) := by decide +kernel
theorem dX5_lowestWeighing_12 : decode cX5_lowestWeighing 12 = .ok (.invokestatic 78, 3) := by decide +kernel
theorem dX5_lowestWeighing_15 : decode cX5_lowestWeighing 15 = .ok (.aload_n 0, 1) := by decide +kernel
theorem dX5_lowestWeighing_16 : decode cX5_lowestWeighing 16 = .ok (.getfield 49, 3) := by decide +kernel
theorem dX5_lowestWeighing_19 : decode cX5_lowestWeighing 19 = .ok (.invokestatic 52, 3) := by decide +kernel
theorem dX5_lowestWeighing_22 : decode cX5_lowestWeighing 22 = .ok (.if_icmp .le 6, 3) := by decide +kernel
theorem dX5_lowestWeighing_25 : decode cX5_lowestWeighing 25 = .ok (.ldc 96, 2) := by decide +kernel
theorem dX5_lowestWeighing_27 : decode cX5_lowestWeighing 27 = .ok (.ireturn, 1) := by decide +kernel
theorem dX5_lowestWeighing_28 : decode cX5_lowestWeighing 28 = .ok (.aload_n 0, 1) := by decide +kernel
theorem dX5_lowestWeighing_29 : decode cX5_lowestWeighing 29 = .ok (.getfield 43, 3) := by decide +kernel
theorem dX5_lowestWeighing_32 : decode cX5_lowestWeighing 32 = .ok (.iload_n 1, 1) := by decide +kernel
theorem dX5_lowestWeighing_33 : decode cX5_lowestWeighing 33 = .ok (.invokestatic 100, 3) := by decide +kernel
theorem dX5_lowestWeighing_36 : decode cX5_lowestWeighing 36 = .ok (.aload_n 0, 1) := by decide +kernel
theorem dX5_lowestWeighing_37 : decode cX5_lowestWeighing 37 = .ok (.getfield 46, 3) := by decide +kernel
theorem dX5_lowestWeighing_40 : decode cX5_lowestWeighing 40 = .ok (.iload_n 3, 1) := by decide +kernel
theorem dX5_lowestWeighing_41 : decode cX5_lowestWeighing 41 = .ok (.invokestatic 100, 3) := by decide +kernel
theorem dX5_lowestWeighing_44 : decode cX5_lowestWeighing 44 = .ok (.ior, 1) := by decide +kernel
theorem dX5_lowestWeighing_45 : decode cX5_lowestWeighing 45 = .ok (.aload_n 0, 1) := by decide +kernel
theorem dX5_lowestWeighing_46 : decode cX5_lowestWeighing 46 = .ok (.getfield 49, 3) := by decide +kernel
theorem dX5_lowestWeighing_49 : decode cX5_lowestWeighing 49 = .ok (.iload 5, 2) := by decide +kernel
theorem dX5_lowestWeighing_51 : decode cX5_lowestWeighing 51 = .ok (.ineg, 1) := by decide +kernel
theorem dX5_lowestWeighing_52 : decode cX5_lowestWeighing 52 = .ok (.iconst 0, 1) := by decide +kernel
theorem dX5_lowestWeighing_53 : decode cX5_lowestWeighing 53 = .ok (.invokestatic 90, 3) := by decide +kernel
theorem dX5_lowestWeighing_56 : decode cX5_lowestWeighing 56 = .ok (.invokestatic 100, 3) := by decide +kernel
theorem dX5_lowestWeighing_59 : decode cX5_lowestWeighing 59 = .ok (.ior, 1) := by decide +kernel
theorem dX5_lowestWeighing_60 : decode cX5_lowestWeighing 60 = .ok (.istore 6, 2) := by decide +kernel
theorem dX5_lowestWeighing_62 : decode cX5_lowestWeighing 62 = .ok (.aload_n 0, 1) := by decide +kernel
theorem dX5_lowestWeighing_63 : decode cX5_lowestWeighing 63 = .ok (.getfield 43, 3) := by decide +kernel
theorem dX5_lowestWeighing_66 : decode cX5_lowestWeighing 66 = .ok (.iload 6, 2) := by decide +kernel
theorem dX5_lowestWeighing_68 : decode cX5_lowestWeighing 68 = .ok (.iconst (-1), 1) := by decide +kernel
theorem dX5_lowestWeighing_69 : decode cX5_lowestWeighing 69 = .ok (.ixor, 1) := by decide +kernel
theorem dX5_lowestWeighing_70 : decode cX5_lowestWeighing 70 = .ok (.iand, 1) := by decide +kernel
theorem dX5_lowestWeighing_71 : decode cX5_lowestWeighing 71 = .ok (.iload_n 2, 1) := by decide +kernel
theorem dX5_lowestWeighing_72 : decode cX5_lowestWeighing 72 = .ok (.invokestatic 100, 3) := by decide +kernel
theorem dX5_lowestWeighing_75 : decode cX5_lowestWeighing 75 = .ok (.aload_n 0, 1) := by decide +kernel
theorem dX5_lowestWeighing_76 : decode cX5_lowestWeighing 76 = .ok (.getfield 46, 3) := by decide +kernel
theorem dX5_lowestWeighing_79 : decode cX5_lowestWeighing 79 = .ok (.iload 6, 2) := by decide +kernel
theorem dX5_lowestWeighing_81 : decode cX5_lowestWeighing 81 = .ok (.iconst (-1), 1) := by decide +kernel
theorem dX5_lowestWeighing_82 : decode cX5_lowestWeighing 82 = .ok (.ixor, 1) := by decide +kernel
theorem dX5_lowestWeighing_83 : decode cX5_lowestWeighing 83 = .ok (.iand, 1) := by decide +kernel
theorem dX5_lowestWeighing_84 : decode cX5_lowestWeighing 84 = .ok (.iload 4, 2) := by decide +kernel
theorem dX5_lowestWeighing_86 : decode cX5_lowestWeighing 86 = .ok (.invokestatic 100, 3) := by decide +kernel
theorem dX5_lowestWeighing_89 : decode cX5_lowestWeighing 89 = .ok (.ior, 1) := by decide +kernel
theorem dX5_lowestWeighing_90 : decode cX5_lowestWeighing 90 = .ok (.aload_n 0, 1) := by decide +kernel
theorem dX5_lowestWeighing_91 : decode cX5_lowestWeighing 91 = .ok (.getfield 49, 3) := by decide +kernel
theorem dX5_lowestWeighing_94 : decode cX5_lowestWeighing 94 = .ok (.iload 6, 2) := by decide +kernel
theorem dX5_lowestWeighing_96 : decode cX5_lowestWeighing 96 = .ok (.iconst (-1), 1) := by decide +kernel
theorem dX5_lowestWeighing_97 : decode cX5_lowestWeighing 97 = .ok (.ixor, 1) := by decide +kernel
theorem dX5_lowestWeighing_98 : decode cX5_lowestWeighing 98 = .ok (.iand, 1) := by decide +kernel
theorem dX5_lowestWeighing_99 : decode cX5_lowestWeighing 99 = .ok (.iload 5, 2) := by decide +kernel
theorem dX5_lowestWeighing_101 : decode cX5_lowestWeighing 101 = .ok (.iconst 0, 1) := by decide +kernel
theorem dX5_lowestWeighing_102 : decode cX5_lowestWeighing 102 = .ok (.invokestatic 90, 3) := by decide +kernel
theorem dX5_lowestWeighing_105 : decode cX5_lowestWeighing 105 = .ok (.invokestatic 100, 3) := by decide +kernel
theorem dX5_lowestWeighing_108 : decode cX5_lowestWeighing 108 = .ok (.ior, 1) := by decide +kernel
theorem dX5_lowestWeighing_109 : decode cX5_lowestWeighing 109 = .ok (.istore 7, 2) := by decide +kernel
theorem dX5_lowestWeighing_111 : decode cX5_lowestWeighing 111 = .ok (.iconst 2, 1) := by decide +kernel
theorem dX5_lowestWeighing_112 : decode cX5_lowestWeighing 112 = .ok (.iload 6, 2) := by decide +kernel
theorem dX5_lowestWeighing_114 : decode cX5_lowestWeighing 114 = .ok (.invokestatic 52, 3) := by decide +kernel
theorem dX5_lowestWeighing_117 : decode cX5_lowestWeighing 117 = .ok (.imul, 1) := by decide +kernel
theorem dX5_lowestWeighing_118 : decode cX5_lowestWeighing 118 = .ok (.istore 8, 2) := by decide +kernel
theorem dX5_lowestWeighing_120 : decode cX5_lowestWeighing 120 = .ok (.iload 8, 2) := by decide +kernel
theorem dX5_lowestWeighing_122 : decode cX5_lowestWeighing 122 = .ok (.bipush 12, 2) := by decide +kernel
theorem dX5_lowestWeighing_124 : decode cX5_lowestWeighing 124 = .ok (.ishl, 1) := by decide +kernel
theorem dX5_lowestWeighing_125 : decode cX5_lowestWeighing 125 = .ok (.iload 6, 2) := by decide +kernel
theorem dX5_lowestWeighing_127 : decode cX5_lowestWeighing 127 = .ok (.ior, 1) := by decide +kernel
theorem dX5_lowestWeighing_128 : decode cX5_lowestWeighing 128 = .ok (.bipush 12, 2) := by decide +kernel
theorem dX5_lowestWeighing_130 : decode cX5_lowestWeighing 130 = .ok (.ishl, 1) := by decide +kernel
theorem dX5_lowestWeighing_131 : decode cX5_lowestWeighing 131 = .ok (.iload 7, 2) := by decide +kernel
theorem dX5_lowestWeighing_133 : decode cX5_lowestWeighing 133 = .ok (.ior, 1) := by decide +kernel
theorem dX5_lowestWeighing_134 : decode cX5_lowestWeighing 134 = .ok (.ireturn, 1) := by decide +kernel
theorem dX5_bestWeighing_0 : decode cX5_bestWeighing 0 = .ok (.aload_n 0, 1) := by decide +kernel
theorem dX5_bestWeighing_1 : decode cX5_bestWeighing 1 = .ok (.invokevirtual 93, 3) := by decide +kernel
theorem dX5_bestWeighing_4 : decode cX5_bestWeighing 4 = .ok (.istore_n 1, 1) := by decide +kernel
theorem dX5_bestWeighing_5 : decode cX5_bestWeighing 5 = .ok (.iload_n 1, 1) := by decide +kernel
theorem dX5_bestWeighing_6 : decode cX5_bestWeighing 6 = .ok (.ifCond .eq 9, 3) := by decide +kernel
theorem dX5_bestWeighing_9 : decode cX5_bestWeighing 9 = .ok (.iload_n 1, 1) := by decide +kernel
theorem dX5_bestWeighing_10 : decode cX5_bestWeighing 10 = .ok (.bipush 99, 2) := by decide +kernel
theorem dX5_bestWeighing_12 : decode cX5_bestWeighing 12 = .ok (.if_icmp .ne 6, 3) := by decide +kernel
theorem dX5_bestWeighing_15 : decode cX5_bestWeighing 15 = .ok (.ldc 96, 2) := by decide +kernel
theorem dX5_bestWeighing_17 : decode cX5_bestWeighing 17 = .ok (.ireturn, 1) := by decide +kernel
theorem dX5_bestWeighing_18 : decode cX5_bestWeighing 18 = .ok (.ldc 96, 2) := by decide +kernel
theorem dX5_bestWeighing_20 : decode cX5_bestWeighing 20 = .ok (.istore_n 2, 1) := by decide +kernel
theorem dX5_bestWeighing_21 : decode cX5_bestWeighing 21 = .ok (.iconst 0, 1) := by decide +kernel
theorem dX5_bestWeighing_22 : decode cX5_bestWeighing 22 = .ok (.istore_n 3, 1) := by decide +kernel
theorem dX5_bestWeighing_23 : decode cX5_bestWeighing 23 = .ok (.iload_n 3, 1) := by decide +kernel
theorem dX5_bestWeighing_24 : decode cX5_bestWeighing 24 = .ok (.aload_n 0, 1) := by decide +kernel
theorem dX5_bestWeighing_25 : decode cX5_bestWeighing 25 = .ok (.getfield 58, 3) := by decide +kernel
theorem dX5_bestWeighing_28 : decode cX5_bestWeighing 28 = .ok (.if_icmp .gt 99, 3) := by decide +kernel
theorem dX5_bestWeighing_31 : decode cX5_bestWeighing 31 = .ok (.iconst 0, 1) := by decide +kernel
theorem dX5_bestWeighing_32 : decode cX5_bestWeighing 32 = .ok (.istore 4, 2) := by decide +kernel
theorem dX5_bestWeighing_34 : decode cX5_bestWeighing 34 = .ok (.iload_n 3, 1) := by decide +kernel
theorem dX5_bestWeighing_35 : decode cX5_bestWeighing 35 = .ok (.iload 4, 2) := by decide +kernel
theorem dX5_bestWeighing_37 : decode cX5_bestWeighing 37 = .ok (.iadd, 1) := by decide +kernel
theorem dX5_bestWeighing_38 : decode cX5_bestWeighing 38 = .ok (.aload_n 0, 1) := by decide +kernel
theorem dX5_bestWeighing_39 : decode cX5_bestWeighing 39 = .ok (.getfield 58, 3) := by decide +kernel
theorem dX5_bestWeighing_42 : decode cX5_bestWeighing 42 = .ok (.if_icmp .gt 79, 3) := by decide +kernel
theorem dX5_bestWeighing_45 : decode cX5_bestWeighing 45 = .ok (.iconst 0, 1) := by decide +kernel
theorem dX5_bestWeighing_46 : decode cX5_bestWeighing 46 = .ok (.istore 5, 2) := by decide +kernel
theorem dX5_bestWeighing_48 : decode cX5_bestWeighing 48 = .ok (.iload 5, 2) := by decide +kernel
theorem dX5_bestWeighing_50 : decode cX5_bestWeighing 50 = .ok (.aload_n 0, 1) := by decide +kernel
theorem dX5_bestWeighing_51 : decode cX5_bestWeighing 51 = .ok (.getfield 61, 3) := by decide +kernel
theorem dX5_bestWeighing_54 : decode cX5_bestWeighing 54 = .ok (.if_icmp .gt 61, 3) := by decide +kernel
theorem dX5_bestWeighing_57 : decode cX5_bestWeighing 57 = .ok (.iconst 0, 1) := by decide +kernel
theorem dX5_bestWeighing_58 : decode cX5_bestWeighing 58 = .ok (.istore 6, 2) := by decide +kernel
theorem dX5_bestWeighing_60 : decode cX5_bestWeighing 60 = .ok (.iload 5, 2) := by decide +kernel
theorem dX5_bestWeighing_62 : decode cX5_bestWeighing 62 = .ok (.iload 6, 2) := by decide +kernel
theorem dX5_bestWeighing_64 : decode cX5_bestWeighing 64 = .ok (.iadd, 1) := by decide +kernel
theorem dX5_bestWeighing_65 : decode cX5_bestWeighing 65 = .ok (.aload_n 0, 1) := by decide +kernel
theorem dX5_bestWeighing_66 : decode cX5_bestWeighing 66 = .ok (.getfield 61, 3) := by decide +kernel
theorem dX5_bestWeighing_69 : decode cX5_bestWeighing 69 = .ok (.if_icmp .gt 40, 3) := by decide +kernel
theorem dX5_bestWeighing_72 : decode cX5_bestWeighing 72 = .ok (.aload_n 0, 1) := by decide +kernel
theorem dX5_bestWeighing_73 : decode cX5_bestWeighing 73 = .ok (.iload_n 3, 1) := by decide +kernel
theorem dX5_bestWeighing_74 : decode cX5_bestWeighing 74 = .ok (.iload 4, 2) := by decide +kernel
theorem dX5_bestWeighing_76 : decode cX5_bestWeighing 76 = .ok (.iload 5, 2) := by decide +kernel
theorem dX5_bestWeighing_78 : decode cX5_bestWeighing 78 = .ok (.iload 6, 2) := by decide +kernel
theorem dX5_bestWeighing_80 : decode cX5_bestWeighing 80 = .ok (.invokevirtual 83, 3) := by decide +kernel
theorem dX5_bestWeighing_83 : decode cX5_bestWeighing 83 = .ok (.iload_n 1, 1) := by decide +kernel
theorem dX5_bestWeighing_84 : decode cX5_bestWeighing 84 = .ok (.if_icmp .ge 19, 3) := by decide +kernel
theorem dX5_bestWeighing_87 : decode cX5_bestWeighing 87 = .ok (.iload_n 2, 1) := by decide +kernel
theorem dX5_bestWeighing_88 : decode cX5_bestWeighing 88 = .ok (.aload_n 0, 1) := by decide +kernel
theorem dX5_bestWeighing_89 : decode cX5_bestWeighing 89 = .ok (.iload_n 3, 1) := by decide +kernel
theorem dX5_bestWeighing_90 : decode cX5_bestWeighing 90 = .ok (.iload 4, 2) := by decide +kernel
theorem dX5_bestWeighing_92 : decode cX5_bestWeighing 92 = .ok (.iload 5, 2) := by decide +kernel
theorem dX5_bestWeighing_94 : decode cX5_bestWeighing 94 = .ok (.iload 6, 2) := by decide +kernel
theorem dX5_bestWeighing_96 : decode cX5_bestWeighing 96 = .ok (.invokevirtual 97, 3) := by decide +kernel
theorem dX5_bestWeighing_99 : decode cX5_bestWeighing 99 = .ok (.invokestatic 87, 3) := by decide +kernel
theorem dX5_bestWeighing_102 : decode cX5_bestWeighing 102 = .ok (.istore_n 2, 1) := by decide +kernel
theorem dX5_bestWeighing_103 : decode cX5_bestWeighing 103 = .ok (.iinc 6 1, 3) := by decide +kernel
theorem dX5_bestWeighing_106 : decode cX5_bestWeighing 106 = .ok (.goto (-46), 3) := by decide +kernel
theorem dX5_bestWeighing_109 : decode cX5_bestWeighing 109 = .ok (.iinc 5 1, 3) := by decide +kernel
theorem dX5_bestWeighing_112 : decode cX5_bestWeighing 112 = .ok (.goto (-64), 3) := by decide +kernel
theorem dX5_bestWeighing_115 : decode cX5_bestWeighing 115 = .ok (.iinc 4 1, 3) := by decide +kernel
theorem dX5_bestWeighing_118 : decode cX5_bestWeighing 118 = .ok (.goto (-84), 3) := by decide +kernel
theorem dX5_bestWeighing_121 : decode cX5_bestWeighing 121 = .ok (.iinc 3 1, 3) := by decide +kernel
theorem dX5_bestWeighing_124 : decode cX5_bestWeighing 124 = .ok (.goto (-101), 3) := by decide +kernel
theorem dX5_bestWeighing_127 : decode cX5_bestWeighing 127 = .ok (.iload_n 2, 1) := by decide +kernel
theorem dX5_bestWeighing_128 : decode cX5_bestWeighing 128 = .ok (.ireturn, 1) := by decide +kernel
def f_X5_oneMore_h14 (F : Nat) (t0 : Int32) (S : si_St) : Option (Int32 × si_St) :=
  some (t0, S)
def f_X5_oneMore (F : Nat) (x0 : Int32) (S : si_St) : Option (Int32 × si_St) :=
  if x0 = 99 then (f_X5_oneMore_h14 F 99 S) else (f_X5_oneMore_h14 F (x0 + 1) S)
def f_X5_leftPan (F : Nat) (x0 : Int32) (S : si_St) : Option (Int32 × si_St) :=
  some (((x0 >>> (12 &&& 31)) &&& 4095), S)
def f_X5_rightPan (F : Nat) (x0 : Int32) (S : si_St) : Option (Int32 × si_St) :=
  some ((x0 &&& 4095), S)
def f_X5_lowest_h4 (F : Nat) (r4 : Int32 → Int32 → Int32 → Int32 → si_St → Option (Int32 × si_St)) (x0 : Int32) (x1 : Int32) (x2 : Int32) (x3 : Int32) (S : si_St) : Option (Int32 × si_St) :=
  if x1 ≤ x3 then (some ((x0 &&& (x2 ^^^ (-1))), S)) else (Option.bind (some (x2 &&& (x2 - 1))) fun v1 => Option.bind (some (x3 + 1)) fun v2 => r4 x0 x1 v1 v2 S)
def f_X5_lowest_l4 (F : Nat) : Nat → Int32 → Int32 → Int32 → Int32 → si_St → Option (Int32 × si_St)
 | 0 => fun _ _ _ _ _ => none
 | n + 1 => fun x0 x1 x2 x3 S => f_X5_lowest_h4 F (f_X5_lowest_l4 F n) x0 x1 x2 x3 S
def f_X5_lowest (F : Nat) (x0 : Int32) (x1 : Int32) (S : si_St) : Option (Int32 × si_St) :=
  f_X5_lowest_l4 F F x0 x1 x0 0 S
def f_X5_splitAt (F : Nat) (x1 : Int32) (x2 : Int32) (S : si_St) : Option (Int32 × si_St) :=
  some ((((((S.1 65 3) * 13) + x1) * 13) + x2), S)
def f_X5_mixedAt (F : Nat) (x1 : Int32) (S : si_St) : Option (Int32 × si_St) :=
  some ((((((S.1 65 3) * 13) + x1) * 2) + (S.1 65 5)), S)
def f_X5_worst (F : Nat) (x1 : Int32) (x2 : Int32) (x3 : Int32) (x4 : Int32) (S : si_St) : Option (Int32 × si_St) :=
  if (S.1 65 4) = 0 then (Option.bind (f_X5_splitAt F (((S.1 65 6) - x1) - x2) (((S.1 65 7) - x3) - x4) S) fun q1 => Option.bind (si_rd q1.2 67 q1.1) fun v2 => Option.bind (f_X5_splitAt F x1 x4 q1.2) fun q3 => Option.bind (si_rd q3.2 67 q3.1) fun v4 => Option.bind (f_X5_splitAt F x2 x3 q3.2) fun q5 => Option.bind (si_rd q5.2 67 q5.1) fun v6 => some ((si_max v2 (si_max v4 v6)), q5.2)) else (Option.bind (f_X5_mixedAt F (((S.1 65 6) - x1) - x2) S) fun q7 => Option.bind (si_rd q7.2 68 q7.1) fun v8 => Option.bind (f_X5_splitAt F x1 x2 q7.2) fun q9 => Option.bind (si_rd q9.2 67 q9.1) fun v10 => some ((si_max v8 v10), q9.2))
def f_X5_leastWorst_h126 (F : Nat) (r20 : Int32 → Int32 → Int32 → si_St → Option (Int32 × si_St)) (x1 : Int32) (x2 : Int32) (x3 : Int32) (S : si_St) : Option (Int32 × si_St) :=
  Option.bind (some (x3 + 1)) fun v1 => r20 x1 x2 v1 S
def f_X5_leastWorst_h108 (F : Nat) (r20 : Int32 → Int32 → Int32 → si_St → Option (Int32 × si_St)) (r31 : Int32 → Int32 → Int32 → Int32 → si_St → Option (Int32 × si_St)) (r51 : Int32 → Int32 → Int32 → Int32 → Int32 → si_St → Option (Int32 × si_St)) (r63 : Int32 → Int32 → Int32 → Int32 → Int32 → Int32 → si_St → Option (Int32 × si_St)) (x1 : Int32) (x2 : Int32) (x3 : Int32) (x4 : Int32) (x5 : Int32) (x6 : Int32) (S : si_St) : Option (Int32 × si_St) :=
  Option.bind (some (x6 + 1)) fun v2 => r63 x1 x2 x3 x4 x5 v2 S
def f_X5_leastWorst_h63 (F : Nat) (r20 : Int32 → Int32 → Int32 → si_St → Option (Int32 × si_St)) (r31 : Int32 → Int32 → Int32 → Int32 → si_St → Option (Int32 × si_St)) (r51 : Int32 → Int32 → Int32 → Int32 → Int32 → si_St → Option (Int32 × si_St)) (r63 : Int32 → Int32 → Int32 → Int32 → Int32 → Int32 → si_St → Option (Int32 × si_St)) (x1 : Int32) (x2 : Int32) (x3 : Int32) (x4 : Int32) (x5 : Int32) (x6 : Int32) (S : si_St) : Option (Int32 × si_St) :=
  if (S.1 65 7) < (x5 + x6) then (Option.bind (some (x5 + 1)) fun v3 => r51 x1 x2 x3 x4 v3 S) else (if x1 < (si_abs (((x3 + x5) - x4) - x6)) then (f_X5_leastWorst_h108 F r20 r31 r51 r63 x1 x2 x3 x4 x5 x6 S) else (Option.bind (f_X5_worst F x3 x4 x5 x6 S) fun q4 => Option.bind (some (si_min x2 q4.1)) fun v5 => f_X5_leastWorst_h108 F r20 r31 r51 r63 x1 v5 x3 x4 x5 x6 q4.2))
def f_X5_leastWorst_l63 (F : Nat) (r20 : Int32 → Int32 → Int32 → si_St → Option (Int32 × si_St)) (r31 : Int32 → Int32 → Int32 → Int32 → si_St → Option (Int32 × si_St)) (r51 : Int32 → Int32 → Int32 → Int32 → Int32 → si_St → Option (Int32 × si_St)) : Nat → Int32 → Int32 → Int32 → Int32 → Int32 → Int32 → si_St → Option (Int32 × si_St)
 | 0 => fun _ _ _ _ _ _ _ => none
 | n + 1 => fun x1 x2 x3 x4 x5 x6 S => f_X5_leastWorst_h63 F r20 r31 r51 (f_X5_leastWorst_l63 F r20 r31 r51 n) x1 x2 x3 x4 x5 x6 S
def f_X5_leastWorst_h51 (F : Nat) (r20 : Int32 → Int32 → Int32 → si_St → Option (Int32 × si_St)) (r31 : Int32 → Int32 → Int32 → Int32 → si_St → Option (Int32 × si_St)) (r51 : Int32 → Int32 → Int32 → Int32 → Int32 → si_St → Option (Int32 × si_St)) (x1 : Int32) (x2 : Int32) (x3 : Int32) (x4 : Int32) (x5 : Int32) (S : si_St) : Option (Int32 × si_St) :=
  if (S.1 65 7) < x5 then (Option.bind (some (x4 + 1)) fun v6 => r31 x1 x2 x3 v6 S) else (f_X5_leastWorst_l63 F r20 r31 r51 F x1 x2 x3 x4 x5 0 S)
def f_X5_leastWorst_l51 (F : Nat) (r20 : Int32 → Int32 → Int32 → si_St → Option (Int32 × si_St)) (r31 : Int32 → Int32 → Int32 → Int32 → si_St → Option (Int32 × si_St)) : Nat → Int32 → Int32 → Int32 → Int32 → Int32 → si_St → Option (Int32 × si_St)
 | 0 => fun _ _ _ _ _ _ => none
 | n + 1 => fun x1 x2 x3 x4 x5 S => f_X5_leastWorst_h51 F r20 r31 (f_X5_leastWorst_l51 F r20 r31 n) x1 x2 x3 x4 x5 S
def f_X5_leastWorst_h31 (F : Nat) (r20 : Int32 → Int32 → Int32 → si_St → Option (Int32 × si_St)) (r31 : Int32 → Int32 → Int32 → Int32 → si_St → Option (Int32 × si_St)) (x1 : Int32) (x2 : Int32) (x3 : Int32) (x4 : Int32) (S : si_St) : Option (Int32 × si_St) :=
  if x3 < x4 then (f_X5_leastWorst_h126 F r20 x1 x2 x3 S) else (if (S.1 65 6) < (x3 + x4) then (f_X5_leastWorst_h126 F r20 x1 x2 x3 S) else (f_X5_leastWorst_l51 F r20 r31 F x1 x2 x3 x4 0 S))
def f_X5_leastWorst_l31 (F : Nat) (r20 : Int32 → Int32 → Int32 → si_St → Option (Int32 × si_St)) : Nat → Int32 → Int32 → Int32 → Int32 → si_St → Option (Int32 × si_St)
 | 0 => fun _ _ _ _ _ => none
 | n + 1 => fun x1 x2 x3 x4 S => f_X5_leastWorst_h31 F r20 (f_X5_leastWorst_l31 F r20 n) x1 x2 x3 x4 S
def f_X5_leastWorst_h20 (F : Nat) (r20 : Int32 → Int32 → Int32 → si_St → Option (Int32 × si_St)) (x1 : Int32) (x2 : Int32) (x3 : Int32) (S : si_St) : Option (Int32 × si_St) :=
  if (S.1 65 6) < x3 then (some (x2, S)) else (f_X5_leastWorst_l31 F r20 F x1 x2 x3 0 S)
def f_X5_leastWorst_l20 (F : Nat) : Nat → Int32 → Int32 → Int32 → si_St → Option (Int32 × si_St)
 | 0 => fun _ _ _ _ => none
 | n + 1 => fun x1 x2 x3 S => f_X5_leastWorst_h20 F (f_X5_leastWorst_l20 F n) x1 x2 x3 S
def f_X5_leastWorst (F : Nat) (S : si_St) : Option (Int32 × si_St) :=
  Option.bind (some (((S.1 65 3) - (S.1 65 6)) - (S.1 65 7))) fun v7 => f_X5_leastWorst_l20 F F v7 99 0 S
def f_X5_fillMixedNeeds_h54 (F : Nat) (r17 : Int32 → si_St → Option (si_St)) (x2 : Int32) (t0 : Int32) (t1 : Int32) (S : si_St) : Option (si_St) :=
  Option.bind (si_wr S 68 t1 t0) fun S1 => Option.bind (some (x2 + 1)) fun v2 => r17 v2 S1
def f_X5_fillMixedNeeds_h17 (F : Nat) (r17 : Int32 → si_St → Option (si_St)) (x2 : Int32) (S : si_St) : Option (si_St) :=
  if (S.1 65 3) < x2 then (some S) else (Option.bind (si_pt S 65 6 x2) fun S3 => Option.bind (f_X5_mixedAt F x2 S3) fun q4 => if x2 = 0 then (f_X5_fillMixedNeeds_h54 F r17 x2 0 q4.1 q4.2) else (Option.bind (f_X5_leastWorst F q4.2) fun q5 => Option.bind (f_X5_oneMore F q5.1 q5.2) fun q6 => f_X5_fillMixedNeeds_h54 F r17 x2 q6.1 q4.1 q6.2))
def f_X5_fillMixedNeeds_l17 (F : Nat) : Nat → Int32 → si_St → Option (si_St)
 | 0 => fun _ _ => none
 | n + 1 => fun x2 S => f_X5_fillMixedNeeds_h17 F (f_X5_fillMixedNeeds_l17 F n) x2 S
def f_X5_fillMixedNeeds (F : Nat) (x1 : Int32) (S : si_St) : Option (si_St) :=
  Option.bind (si_pz S 65 4 1) fun S7 => Option.bind (si_pt S7 65 5 x1) fun S8 => Option.bind (si_pt S8 65 7 0) fun S9 => f_X5_fillMixedNeeds_l17 F F 0 S9
def f_X5_fillSplitNeeds_h57 (F : Nat) (r12 : Int32 → si_St → Option (si_St)) (r22 : Int32 → Int32 → si_St → Option (si_St)) (x1 : Int32) (x2 : Int32) (t0 : Int32) (S : si_St) : Option (si_St) :=
  Option.bind (f_X5_splitAt F (S.1 65 6) (S.1 65 7) S) fun q1 => Option.bind (si_wr q1.2 67 q1.1 t0) fun S2 => Option.bind (f_X5_splitAt F (S2.1 65 7) (S2.1 65 6) S2) fun q3 => Option.bind (si_wr q3.2 67 q3.1 t0) fun S4 => Option.bind (some (x2 + 1)) fun v5 => r22 x1 v5 S4
def f_X5_fillSplitNeeds_h22 (F : Nat) (r12 : Int32 → si_St → Option (si_St)) (r22 : Int32 → Int32 → si_St → Option (si_St)) (x1 : Int32) (x2 : Int32) (S : si_St) : Option (si_St) :=
  if x1 < (2 * x2) then (Option.bind (some (x1 + 1)) fun v6 => r12 v6 S) else (Option.bind (si_pt S 65 6 (x1 - x2)) fun S7 => Option.bind (si_pt S7 65 7 x2) fun S8 => if 1 < x1 then (Option.bind (f_X5_leastWorst F S8) fun q9 => Option.bind (f_X5_oneMore F q9.1 q9.2) fun q10 => f_X5_fillSplitNeeds_h57 F r12 r22 x1 x2 q10.1 q10.2) else (f_X5_fillSplitNeeds_h57 F r12 r22 x1 x2 0 S8))
def f_X5_fillSplitNeeds_l22 (F : Nat) (r12 : Int32 → si_St → Option (si_St)) : Nat → Int32 → Int32 → si_St → Option (si_St)
 | 0 => fun _ _ _ => none
 | n + 1 => fun x1 x2 S => f_X5_fillSplitNeeds_h22 F r12 (f_X5_fillSplitNeeds_l22 F r12 n) x1 x2 S
def f_X5_fillSplitNeeds_h12 (F : Nat) (r12 : Int32 → si_St → Option (si_St)) (x1 : Int32) (S : si_St) : Option (si_St) :=
  if (S.1 65 3) < x1 then (some S) else (f_X5_fillSplitNeeds_l22 F r12 F x1 0 S)
def f_X5_fillSplitNeeds_l12 (F : Nat) : Nat → Int32 → si_St → Option (si_St)
 | 0 => fun _ _ => none
 | n + 1 => fun x1 S => f_X5_fillSplitNeeds_h12 F (f_X5_fillSplitNeeds_l12 F n) x1 S
def f_X5_fillSplitNeeds (F : Nat) (S : si_St) : Option (si_St) :=
  Option.bind (si_pz S 65 4 0) fun S11 => Option.bind (si_pt S11 65 5 0) fun S12 => f_X5_fillSplitNeeds_l12 F F 0 S12
def f_X5_forgetNeeds_h51 (F : Nat) (r51 : Int32 → si_St → Option (si_St)) (x1 : Int32) (S : si_St) : Option (si_St) :=
  if ((((S.1 65 3) + 1) * 13) * 2) ≤ x1 then (some S) else (Option.bind (si_wr S 68 x1 99) fun S1 => Option.bind (some (x1 + 1)) fun v2 => r51 v2 S1)
def f_X5_forgetNeeds_l51 (F : Nat) : Nat → Int32 → si_St → Option (si_St)
 | 0 => fun _ _ => none
 | n + 1 => fun x1 S => f_X5_forgetNeeds_h51 F (f_X5_forgetNeeds_l51 F n) x1 S
def f_X5_forgetNeeds_h11 (F : Nat) (r11 : Int32 → si_St → Option (si_St)) (x1 : Int32) (S : si_St) : Option (si_St) :=
  if ((((S.1 65 3) + 1) * 13) * 13) ≤ x1 then (Option.bind (some (((S.1 65 3) * 13) * 2)) fun v3 => f_X5_forgetNeeds_l51 F F v3 S) else (Option.bind (si_wr S 67 x1 99) fun S4 => Option.bind (some (x1 + 1)) fun v5 => r11 v5 S4)
def f_X5_forgetNeeds_l11 (F : Nat) : Nat → Int32 → si_St → Option (si_St)
 | 0 => fun _ _ => none
 | n + 1 => fun x1 S => f_X5_forgetNeeds_h11 F (f_X5_forgetNeeds_l11 F n) x1 S
def f_X5_forgetNeeds (F : Nat) (S : si_St) : Option (si_St) :=
  Option.bind (some (((S.1 65 3) * 13) * 13)) fun v6 => f_X5_forgetNeeds_l11 F F v6 S
def f_X5_needed_h40 (F : Nat) (t0 : Int32) (S : si_St) : Option (Int32 × si_St) :=
  some (t0, S)
def f_X5_needed (F : Nat) (S : si_St) : Option (Int32 × si_St) :=
  if (S.1 65 4) = 0 then (Option.bind (f_X5_splitAt F (S.1 65 6) (S.1 65 7) S) fun q1 => Option.bind (si_rd q1.2 67 q1.1) fun v2 => f_X5_needed_h40 F v2 q1.2) else (Option.bind (f_X5_mixedAt F (S.1 65 6) S) fun q3 => Option.bind (si_rd q3.2 68 q3.1) fun v4 => f_X5_needed_h40 F v4 q3.2)
def f_X5_choose_h84 (F : Nat) (x2 : Int32) (x3 : Int32) (t0 : Int32) (S : si_St) : Option (si_St) :=
  Option.bind (si_pt S 65 9 t0) fun S1 => Option.bind (si_pt S1 65 10 (((1 <<< ((S1.1 65 3) &&& 31)) - 1) &&& ((x2 ||| x3) ^^^ (-1)))) fun S2 => Option.bind (f_J6_bitCount_0f7a4 F (S2.1 65 8) S2) fun q3 => Option.bind (si_pt q3.2 65 6 q3.1) fun S4 => Option.bind (f_J6_bitCount_0f7a4 F (S4.1 65 9) S4) fun q5 => Option.bind (si_pt q5.2 65 7 q5.1) fun S6 => some S6
def f_X5_choose_h57 (F : Nat) (x2 : Int32) (x3 : Int32) (x4 : Int32) (t0 : Int32) (S : si_St) : Option (si_St) :=
  Option.bind (si_pz S 65 4 t0) fun S7 => Option.bind (si_pt S7 65 5 x4) fun S8 => Option.bind (si_pt S8 65 8 x2) fun S9 => if (S9.1 65 4) = 0 then (f_X5_choose_h84 F x2 x3 x3 S9) else (f_X5_choose_h84 F x2 x3 0 S9)
def f_X5_choose_h45 (F : Nat) (x2 : Int32) (x3 : Int32) (x4 : Int32) (S : si_St) : Option (si_St) :=
  if (x2 &&& x3) = 0 then (f_X5_choose_h57 F x2 x3 x4 0 S) else (f_X5_choose_h57 F x2 x3 x4 1 S)
def f_X5_choose (F : Nat) (x1 : Int32) (x2 : Int32) (x3 : Int32) (x4 : Int32) (S : si_St) : Option (si_St) :=
  Option.bind (si_pt S 65 3 x1) fun S10 => Option.bind (si_rd S10 66 (S10.1 65 3)) fun v11 => if v11 = 0 then (Option.bind (f_X5_forgetNeeds F S10) fun S12 => Option.bind (f_X5_fillSplitNeeds F S12) fun S13 => Option.bind (f_X5_fillMixedNeeds F 0 S13) fun S14 => Option.bind (f_X5_fillMixedNeeds F 1 S14) fun S15 => Option.bind (si_wz S15 66 (S15.1 65 3) 1) fun S16 => f_X5_choose_h45 F x2 x3 x4 S16) else (f_X5_choose_h45 F x2 x3 x4 S10)
def f_X5_lowestWeighing (F : Nat) (x1 : Int32) (x2 : Int32) (x3 : Int32) (x4 : Int32) (S : si_St) : Option (Int32 × si_St) :=
  Option.bind (some (((x1 + x3) - x2) - x4)) fun v1 => Option.bind (f_J6_bitCount_0f7a4 F (S.1 65 10) S) fun q2 => if (si_abs v1) ≤ q2.1 then (Option.bind (f_X5_lowest F (q2.2.1 65 8) x1 q2.2) fun q3 => Option.bind (f_X5_lowest F (q3.2.1 65 9) x3 q3.2) fun q4 => Option.bind (f_X5_lowest F (q4.2.1 65 10) (si_max (-v1) 0) q4.2) fun q5 => Option.bind (some ((q3.1 ||| q4.1) ||| q5.1)) fun v6 => Option.bind (f_X5_lowest F ((q5.2.1 65 8) &&& (v6 ^^^ (-1))) x2 q5.2) fun q7 => Option.bind (f_X5_lowest F ((q7.2.1 65 9) &&& (v6 ^^^ (-1))) x4 q7.2) fun q8 => Option.bind (f_X5_lowest F ((q8.2.1 65 10) &&& (v6 ^^^ (-1))) (si_max v1 0) q8.2) fun q9 => Option.bind (some ((q7.1 ||| q8.1) ||| q9.1)) fun v10 => Option.bind (f_J6_bitCount_0f7a4 F v6 q9.2) fun q11 => Option.bind (some (2 * q11.1)) fun v12 => some (((((v12 <<< (12 &&& 31)) ||| v6) <<< (12 &&& 31)) ||| v10), q11.2)) else (some (268435456, q2.2))
def f_X5_bestWeighing_h15 (F : Nat) (S : si_St) : Option (Int32 × si_St) :=
  some (268435456, S)
def f_X5_bestWeighing_h103 (F : Nat) (r23 : Int32 → Int32 → Int32 → si_St → Option (Int32 × si_St)) (r34 : Int32 → Int32 → Int32 → Int32 → si_St → Option (Int32 × si_St)) (r48 : Int32 → Int32 → Int32 → Int32 → Int32 → si_St → Option (Int32 × si_St)) (r60 : Int32 → Int32 → Int32 → Int32 → Int32 → Int32 → si_St → Option (Int32 × si_St)) (x1 : Int32) (x2 : Int32) (x3 : Int32) (x4 : Int32) (x5 : Int32) (x6 : Int32) (S : si_St) : Option (Int32 × si_St) :=
  Option.bind (some (x6 + 1)) fun v1 => r60 x1 x2 x3 x4 x5 v1 S
def f_X5_bestWeighing_h60 (F : Nat) (r23 : Int32 → Int32 → Int32 → si_St → Option (Int32 × si_St)) (r34 : Int32 → Int32 → Int32 → Int32 → si_St → Option (Int32 × si_St)) (r48 : Int32 → Int32 → Int32 → Int32 → Int32 → si_St → Option (Int32 × si_St)) (r60 : Int32 → Int32 → Int32 → Int32 → Int32 → Int32 → si_St → Option (Int32 × si_St)) (x1 : Int32) (x2 : Int32) (x3 : Int32) (x4 : Int32) (x5 : Int32) (x6 : Int32) (S : si_St) : Option (Int32 × si_St) :=
  if (S.1 65 7) < (x5 + x6) then (Option.bind (some (x5 + 1)) fun v2 => r48 x1 x2 x3 x4 v2 S) else (Option.bind (f_X5_worst F x3 x4 x5 x6 S) fun q3 => if x1 ≤ q3.1 then (f_X5_bestWeighing_h103 F r23 r34 r48 r60 x1 x2 x3 x4 x5 x6 q3.2) else (Option.bind (f_X5_lowestWeighing F x3 x4 x5 x6 q3.2) fun q4 => Option.bind (some (si_min x2 q4.1)) fun v5 => f_X5_bestWeighing_h103 F r23 r34 r48 r60 x1 v5 x3 x4 x5 x6 q4.2))
def f_X5_bestWeighing_l60 (F : Nat) (r23 : Int32 → Int32 → Int32 → si_St → Option (Int32 × si_St)) (r34 : Int32 → Int32 → Int32 → Int32 → si_St → Option (Int32 × si_St)) (r48 : Int32 → Int32 → Int32 → Int32 → Int32 → si_St → Option (Int32 × si_St)) : Nat → Int32 → Int32 → Int32 → Int32 → Int32 → Int32 → si_St → Option (Int32 × si_St)
 | 0 => fun _ _ _ _ _ _ _ => none
 | n + 1 => fun x1 x2 x3 x4 x5 x6 S => f_X5_bestWeighing_h60 F r23 r34 r48 (f_X5_bestWeighing_l60 F r23 r34 r48 n) x1 x2 x3 x4 x5 x6 S
def f_X5_bestWeighing_h48 (F : Nat) (r23 : Int32 → Int32 → Int32 → si_St → Option (Int32 × si_St)) (r34 : Int32 → Int32 → Int32 → Int32 → si_St → Option (Int32 × si_St)) (r48 : Int32 → Int32 → Int32 → Int32 → Int32 → si_St → Option (Int32 × si_St)) (x1 : Int32) (x2 : Int32) (x3 : Int32) (x4 : Int32) (x5 : Int32) (S : si_St) : Option (Int32 × si_St) :=
  if (S.1 65 7) < x5 then (Option.bind (some (x4 + 1)) fun v6 => r34 x1 x2 x3 v6 S) else (f_X5_bestWeighing_l60 F r23 r34 r48 F x1 x2 x3 x4 x5 0 S)
def f_X5_bestWeighing_l48 (F : Nat) (r23 : Int32 → Int32 → Int32 → si_St → Option (Int32 × si_St)) (r34 : Int32 → Int32 → Int32 → Int32 → si_St → Option (Int32 × si_St)) : Nat → Int32 → Int32 → Int32 → Int32 → Int32 → si_St → Option (Int32 × si_St)
 | 0 => fun _ _ _ _ _ _ => none
 | n + 1 => fun x1 x2 x3 x4 x5 S => f_X5_bestWeighing_h48 F r23 r34 (f_X5_bestWeighing_l48 F r23 r34 n) x1 x2 x3 x4 x5 S
def f_X5_bestWeighing_h34 (F : Nat) (r23 : Int32 → Int32 → Int32 → si_St → Option (Int32 × si_St)) (r34 : Int32 → Int32 → Int32 → Int32 → si_St → Option (Int32 × si_St)) (x1 : Int32) (x2 : Int32) (x3 : Int32) (x4 : Int32) (S : si_St) : Option (Int32 × si_St) :=
  if (S.1 65 6) < (x3 + x4) then (Option.bind (some (x3 + 1)) fun v7 => r23 x1 x2 v7 S) else (f_X5_bestWeighing_l48 F r23 r34 F x1 x2 x3 x4 0 S)
def f_X5_bestWeighing_l34 (F : Nat) (r23 : Int32 → Int32 → Int32 → si_St → Option (Int32 × si_St)) : Nat → Int32 → Int32 → Int32 → Int32 → si_St → Option (Int32 × si_St)
 | 0 => fun _ _ _ _ _ => none
 | n + 1 => fun x1 x2 x3 x4 S => f_X5_bestWeighing_h34 F r23 (f_X5_bestWeighing_l34 F r23 n) x1 x2 x3 x4 S
def f_X5_bestWeighing_h23 (F : Nat) (r23 : Int32 → Int32 → Int32 → si_St → Option (Int32 × si_St)) (x1 : Int32) (x2 : Int32) (x3 : Int32) (S : si_St) : Option (Int32 × si_St) :=
  if (S.1 65 6) < x3 then (some (x2, S)) else (f_X5_bestWeighing_l34 F r23 F x1 x2 x3 0 S)
def f_X5_bestWeighing_l23 (F : Nat) : Nat → Int32 → Int32 → Int32 → si_St → Option (Int32 × si_St)
 | 0 => fun _ _ _ _ => none
 | n + 1 => fun x1 x2 x3 S => f_X5_bestWeighing_h23 F (f_X5_bestWeighing_l23 F n) x1 x2 x3 S
def f_X5_bestWeighing (F : Nat) (S : si_St) : Option (Int32 × si_St) :=
  Option.bind (f_X5_needed F S) fun q8 => if q8.1 = 0 then (f_X5_bestWeighing_h15 F q8.2) else (if q8.1 = 99 then (f_X5_bestWeighing_h15 F q8.2) else (f_X5_bestWeighing_l23 F F q8.1 268435456 0 q8.2))
abbrev rm_X5_oneMore : Room := { frames := 0, cells := 0, slots := 0, locals := 0 }
set_option maxHeartbeats 4000000 in
set_option maxRecDepth 100000 in
theorem c_X5_oneMore (l : Launch) (E : si_Ev) (F : Nat) (x0 : Int32) (S : si_St) (o : Int32 × si_St) (hf : f_X5_oneMore F x0 S = some o) : si_Mi l E yX5_oneMore cX5_oneMore 1 (some .int) rm_X5_oneMore [.int x0] S o := by
  refine si_ofWi (plainFor_of_name (by decide +kernel)) (Nat.le_of_ble_eq_true rfl) ?_
  intro p e s m args below meth c ls Q A X hw hA hl hret
  have hl : lv_has ls 1 [(0, .int x0)] := hl
  have B14 : ∀ (t0 : Int32) (S : si_St) (H : Heap) (locs : List Loc) (ls : Array Slot), f_X5_oneMore_h14 F t0 S = some o → si_Ws E A s.heap S H locs → lv_has ls 1 [] → W p l e rm_X5_oneMore s m args below meth c H locs 0 0 Q (F0 m 14 ls [.int t0]) := by
    intro t0  S H locs ls hf hw hl
    unfold f_X5_oneMore_h14 at hf
    exact hret _ _ _ _ _ _ hf hw dX5_oneMore_14
  unfold f_X5_oneMore at hf
  refine lv_iload_n X.1 X.2.1 dX5_oneMore_0 rfl (lv_at hl 0 rfl) ?_
  refine lv_bipush (v := 99) X.1 X.2.1 dX5_oneMore_1 (by decide) ?_
  refine lv_icmp_ne (tgt := 11) X.1 X.2.1 dX5_oneMore_3 (by decide) (fun c3 => ?_) (fun c3 => ?_)
  · have hf := si_in c3 hf
    refine lv_iload_n X.1 X.2.1 dX5_oneMore_11 rfl (lv_at hl 0 rfl) ?_
    refine lv_iconst (v := 1) X.1 X.2.1 dX5_oneMore_12 (by decide) ?_
    refine lv_iadd X.1 X.2.1 dX5_oneMore_13 ?_
    exact B14 _ _ _ _ _ hf hw (lv_sub hl [] rfl)
  · have hf := si_ip c3 hf
    refine lv_bipush (v := 99) X.1 X.2.1 dX5_oneMore_6 (by decide) ?_
    refine lv_goto (tgt := 14) X.1 X.2.1 dX5_oneMore_8 (by decide) ?_
    exact B14 _ _ _ _ _ hf hw (lv_sub hl [] rfl)
abbrev rm_X5_leftPan : Room := { frames := 0, cells := 0, slots := 0, locals := 0 }
set_option maxHeartbeats 4000000 in
set_option maxRecDepth 100000 in
theorem c_X5_leftPan (l : Launch) (E : si_Ev) (F : Nat) (x0 : Int32) (S : si_St) (o : Int32 × si_St) (hf : f_X5_leftPan F x0 S = some o) : si_Mi l E yX5_leftPan cX5_leftPan 1 (some .int) rm_X5_leftPan [.int x0] S o := by
  refine si_ofWi (plainFor_of_name (by decide +kernel)) (Nat.le_of_ble_eq_true rfl) ?_
  intro p e s m args below meth c ls Q A X hw hA hl hret
  have hl : lv_has ls 1 [(0, .int x0)] := hl
  unfold f_X5_leftPan at hf
  refine lv_iload_n X.1 X.2.1 dX5_leftPan_0 rfl (lv_at hl 0 rfl) ?_
  refine lv_bipush (v := 12) X.1 X.2.1 dX5_leftPan_1 (by decide) ?_
  refine lv_ishr X.1 X.2.1 dX5_leftPan_3 ?_
  refine lv_sipush (v := 4095) X.1 X.2.1 dX5_leftPan_4 (by decide) ?_
  refine lv_iand X.1 X.2.1 dX5_leftPan_7 ?_
  exact hret _ _ _ _ _ _ hf hw dX5_leftPan_8
abbrev rm_X5_rightPan : Room := { frames := 0, cells := 0, slots := 0, locals := 0 }
set_option maxHeartbeats 4000000 in
set_option maxRecDepth 100000 in
theorem c_X5_rightPan (l : Launch) (E : si_Ev) (F : Nat) (x0 : Int32) (S : si_St) (o : Int32 × si_St) (hf : f_X5_rightPan F x0 S = some o) : si_Mi l E yX5_rightPan cX5_rightPan 1 (some .int) rm_X5_rightPan [.int x0] S o := by
  refine si_ofWi (plainFor_of_name (by decide +kernel)) (Nat.le_of_ble_eq_true rfl) ?_
  intro p e s m args below meth c ls Q A X hw hA hl hret
  have hl : lv_has ls 1 [(0, .int x0)] := hl
  unfold f_X5_rightPan at hf
  refine lv_iload_n X.1 X.2.1 dX5_rightPan_0 rfl (lv_at hl 0 rfl) ?_
  refine lv_sipush (v := 4095) X.1 X.2.1 dX5_rightPan_1 (by decide) ?_
  refine lv_iand X.1 X.2.1 dX5_rightPan_4 ?_
  exact hret _ _ _ _ _ _ hf hw dX5_rightPan_5
abbrev rm_X5_lowest : Room := { frames := 0, cells := 0, slots := 0, locals := 0 }
set_option maxHeartbeats 4000000 in
set_option maxRecDepth 100000 in
theorem c_X5_lowest (l : Launch) (E : si_Ev) (F : Nat) (x0 : Int32) (x1 : Int32) (S : si_St) (o : Int32 × si_St) (hf : f_X5_lowest F x0 x1 S = some o) : si_Mi l E yX5_lowest cX5_lowest 4 (some .int) rm_X5_lowest [.int x0, .int x1] S o := by
  refine si_ofWi (plainFor_of_name (by decide +kernel)) (Nat.le_of_ble_eq_true rfl) ?_
  intro p e s m args below meth c ls Q A X hw hA hl hret
  have hl : lv_has ls 4 [(0, .int x0), (1, .int x1)] := hl
  have B4 : ∀ (n4 : Nat) (x0 : Int32) (x1 : Int32) (x2 : Int32) (x3 : Int32) (S : si_St) (H : Heap) (locs : List Loc) (ls : Array Slot), f_X5_lowest_l4 F n4 x0 x1 x2 x3 S = some o → si_Ws E A s.heap S H locs → lv_has ls 4 [(0, .int x0), (1, .int x1), (2, .int x2), (3, .int x3)] → W p l e rm_X5_lowest s m args below meth c H locs 0 0 Q (F0 m 4 ls []) := by
    intro n4
    induction n4 with
    | zero => intro x0 x1 x2 x3  S H locs ls hf; cases hf
    | succ n4 ih4 =>
      intro x0 x1 x2 x3  S H locs ls hf hw hl
      have hf : f_X5_lowest_h4 F (f_X5_lowest_l4 F n4) x0 x1 x2 x3 S = some o := hf
      unfold f_X5_lowest_h4 at hf
      refine lv_iload_n X.1 X.2.1 dX5_lowest_4 rfl (lv_at hl 3 rfl) ?_
      refine lv_iload_n X.1 X.2.1 dX5_lowest_5 rfl (lv_at hl 1 rfl) ?_
      refine lv_icmp_ge (tgt := 21) X.1 X.2.1 dX5_lowest_6 (by decide) (fun c6 => ?_) (fun c6 => ?_)
      · have hf := si_ip c6 hf
        refine lv_iload_n X.1 X.2.1 dX5_lowest_21 rfl (lv_at hl 0 rfl) ?_
        refine lv_iload_n X.1 X.2.1 dX5_lowest_22 rfl (lv_at hl 2 rfl) ?_
        refine lv_iconst (v := (-1)) X.1 X.2.1 dX5_lowest_23 (by decide) ?_
        refine lv_ixor X.1 X.2.1 dX5_lowest_24 ?_
        refine lv_iand X.1 X.2.1 dX5_lowest_25 ?_
        exact hret _ _ _ _ _ _ hf hw dX5_lowest_26
      · have hf := si_in c6 hf
        refine lv_iload_n X.1 X.2.1 dX5_lowest_9 rfl (lv_at hl 2 rfl) ?_
        refine lv_iload_n X.1 X.2.1 dX5_lowest_10 rfl (lv_at hl 2 rfl) ?_
        refine lv_iconst (v := 1) X.1 X.2.1 dX5_lowest_11 (by decide) ?_
        refine lv_isub X.1 X.2.1 dX5_lowest_12 ?_
        refine lv_iand X.1 X.2.1 dX5_lowest_13 ?_
        obtain ⟨v1, ev1, hf⟩ := si_ob hf
        refine si_nmI ev1 ?_
        refine lv_istore_n (lv' := [(2, .int v1), (0, .int x0), (1, .int x1), (3, .int x3)]) X.1 X.2.1 dX5_lowest_14 rfl hl (by decide) rfl (fun ls hl => ?_)
        obtain ⟨v2, ev2, hf⟩ := si_ob hf
        refine lv_iinc (v := v2) (lv' := [(3, .int v2), (2, .int v1), (0, .int x0), (1, .int x1)]) X.1 X.2.1 dX5_lowest_15 hl (k := 3) rfl (Option.some.inj ev2) (by decide) rfl (fun ls hl => ?_)
        refine lv_goto (tgt := 4) X.1 X.2.1 dX5_lowest_18 (by decide) ?_
        exact ih4 _ _ _ _ _ _ _ _ hf hw (lv_sub hl [2, 3, 1, 0] rfl)
  unfold f_X5_lowest at hf
  refine lv_iload_n X.1 X.2.1 dX5_lowest_0 rfl (lv_at hl 0 rfl) ?_
  refine lv_istore_n (lv' := [(2, .int x0), (0, .int x0), (1, .int x1)]) X.1 X.2.1 dX5_lowest_1 rfl hl (by decide) rfl (fun ls hl => ?_)
  refine lv_iconst (v := 0) X.1 X.2.1 dX5_lowest_2 (by decide) ?_
  refine lv_istore_n (lv' := [(3, .int 0), (2, .int x0), (0, .int x0), (1, .int x1)]) X.1 X.2.1 dX5_lowest_3 rfl hl (by decide) rfl (fun ls hl => ?_)
  exact B4 F _ _ _ _ _ _ _ _ hf hw (lv_sub hl [2, 3, 1, 0] rfl)
abbrev rm_X5_splitAt : Room := { frames := 0, cells := 0, slots := 0, locals := 0 }
set_option maxHeartbeats 4000000 in
set_option maxRecDepth 100000 in
theorem c_X5_splitAt (l : Launch) (E : si_Ev) (F : Nat) (x1 : Int32) (x2 : Int32) (S : si_St) (o : Int32 × si_St) (hf : f_X5_splitAt F x1 x2 S = some o) : si_Mi l E yX5_splitAt cX5_splitAt 3 (some .int) rm_X5_splitAt [.ref (E.2.1 65), .int x1, .int x2] S o := by
  refine si_ofWi (plainFor_of_name (by decide +kernel)) (Nat.le_of_ble_eq_true rfl) ?_
  intro p e s m args below meth c ls Q A X hw hA hl hret
  have hl : lv_has ls 3 [(0, .ref (E.2.1 65)), (1, .int x1), (2, .int x2)] := hl
  unfold f_X5_splitAt at hf
  refine lv_aload_n X.1 X.2.1 dX5_splitAt_0 rfl (lv_at hl 0 rfl) ?_
  refine si_getI X hw si_cl5 3 (by decide) gf_RX5_22 rfl rfl rfl dX5_splitAt_1 ?_
  refine lv_bipush (v := 13) X.1 X.2.1 dX5_splitAt_4 (by decide) ?_
  refine lv_imul X.1 X.2.1 dX5_splitAt_6 ?_
  refine lv_iload_n X.1 X.2.1 dX5_splitAt_7 rfl (lv_at hl 1 rfl) ?_
  refine lv_iadd X.1 X.2.1 dX5_splitAt_8 ?_
  refine lv_bipush (v := 13) X.1 X.2.1 dX5_splitAt_9 (by decide) ?_
  refine lv_imul X.1 X.2.1 dX5_splitAt_11 ?_
  refine lv_iload_n X.1 X.2.1 dX5_splitAt_12 rfl (lv_at hl 2 rfl) ?_
  refine lv_iadd X.1 X.2.1 dX5_splitAt_13 ?_
  exact hret _ _ _ _ _ _ hf hw dX5_splitAt_14
abbrev rm_X5_mixedAt : Room := { frames := 0, cells := 0, slots := 0, locals := 0 }
set_option maxHeartbeats 4000000 in
set_option maxRecDepth 100000 in
theorem c_X5_mixedAt (l : Launch) (E : si_Ev) (F : Nat) (x1 : Int32) (S : si_St) (o : Int32 × si_St) (hf : f_X5_mixedAt F x1 S = some o) : si_Mi l E yX5_mixedAt cX5_mixedAt 2 (some .int) rm_X5_mixedAt [.ref (E.2.1 65), .int x1] S o := by
  refine si_ofWi (plainFor_of_name (by decide +kernel)) (Nat.le_of_ble_eq_true rfl) ?_
  intro p e s m args below meth c ls Q A X hw hA hl hret
  have hl : lv_has ls 2 [(0, .ref (E.2.1 65)), (1, .int x1)] := hl
  unfold f_X5_mixedAt at hf
  refine lv_aload_n X.1 X.2.1 dX5_mixedAt_0 rfl (lv_at hl 0 rfl) ?_
  refine si_getI X hw si_cl5 3 (by decide) gf_RX5_22 rfl rfl rfl dX5_mixedAt_1 ?_
  refine lv_bipush (v := 13) X.1 X.2.1 dX5_mixedAt_4 (by decide) ?_
  refine lv_imul X.1 X.2.1 dX5_mixedAt_6 ?_
  refine lv_iload_n X.1 X.2.1 dX5_mixedAt_7 rfl (lv_at hl 1 rfl) ?_
  refine lv_iadd X.1 X.2.1 dX5_mixedAt_8 ?_
  refine lv_iconst (v := 2) X.1 X.2.1 dX5_mixedAt_9 (by decide) ?_
  refine lv_imul X.1 X.2.1 dX5_mixedAt_10 ?_
  refine lv_aload_n X.1 X.2.1 dX5_mixedAt_11 rfl (lv_at hl 0 rfl) ?_
  refine si_getI X hw si_cl5 5 (by decide) gf_RX5_40 rfl rfl rfl dX5_mixedAt_12 ?_
  refine lv_iadd X.1 X.2.1 dX5_mixedAt_15 ?_
  exact hret _ _ _ _ _ _ hf hw dX5_mixedAt_16
abbrev rm_X5_worst : Room := { frames := 1, cells := 0, slots := 0, locals := 23 }
set_option maxHeartbeats 4000000 in
set_option maxRecDepth 100000 in
theorem c_X5_worst (l : Launch) (E : si_Ev) (F : Nat) (x1 : Int32) (x2 : Int32) (x3 : Int32) (x4 : Int32) (S : si_St) (o : Int32 × si_St) (hf : f_X5_worst F x1 x2 x3 x4 S = some o) : si_Mi l E yX5_worst cX5_worst 8 (some .int) rm_X5_worst [.ref (E.2.1 65), .int x1, .int x2, .int x3, .int x4] S o := by
  refine si_ofWi (plainFor_of_name (by decide +kernel)) (Nat.le_of_ble_eq_true rfl) ?_
  intro p e s m args below meth c ls Q A X hw hA hl hret
  have hl : lv_has ls 8 [(0, .ref (E.2.1 65)), (1, .int x1), (2, .int x2), (3, .int x3), (4, .int x4)] := hl
  unfold f_X5_worst at hf
  refine lv_aload_n X.1 X.2.1 dX5_worst_0 rfl (lv_at hl 0 rfl) ?_
  refine si_getI X hw si_cl5 4 (by decide) gf_RX5_36 rfl rfl rfl dX5_worst_1 ?_
  refine lv_if_eq (tgt := 43) X.1 X.2.1 dX5_worst_4 (by decide) (fun c4 => ?_) (fun c4 => ?_)
  · have hf := si_ip c4 hf
    refine lv_aload_n X.1 X.2.1 dX5_worst_43 rfl (lv_at hl 0 rfl) ?_
    refine si_getR (k' := 67) (d := 2) X hw si_cl5 1 (by decide) gf_RX5_15 rfl rfl rfl (by decide) rfl dX5_worst_44 ?_
    refine lv_aload_n X.1 X.2.1 dX5_worst_47 rfl (lv_at hl 0 rfl) ?_
    refine lv_aload_n X.1 X.2.1 dX5_worst_48 rfl (lv_at hl 0 rfl) ?_
    refine si_getI X hw si_cl5 6 (by decide) gf_RX5_58 rfl rfl rfl dX5_worst_49 ?_
    refine lv_iload_n X.1 X.2.1 dX5_worst_52 rfl (lv_at hl 1 rfl) ?_
    refine lv_isub X.1 X.2.1 dX5_worst_53 ?_
    refine lv_iload_n X.1 X.2.1 dX5_worst_54 rfl (lv_at hl 2 rfl) ?_
    refine lv_isub X.1 X.2.1 dX5_worst_55 ?_
    refine lv_aload_n X.1 X.2.1 dX5_worst_56 rfl (lv_at hl 0 rfl) ?_
    refine si_getI X hw si_cl5 7 (by decide) gf_RX5_61 rfl rfl rfl dX5_worst_57 ?_
    refine lv_iload_n X.1 X.2.1 dX5_worst_60 rfl (lv_at hl 3 rfl) ?_
    refine lv_isub X.1 X.2.1 dX5_worst_61 ?_
    refine lv_iload X.1 X.2.1 dX5_worst_62 (lv_at hl 4 rfl) ?_
    refine lv_isub X.1 X.2.1 dX5_worst_64 ?_
    obtain ⟨q1, eq1, hf⟩ := si_ob hf
    refine si_cVi [.int (((S.1 65 6) - x1) - x2), .int (((S.1 65 7) - x3) - x4)] cal_X5_splitAt gm_RX5_67 X hw hA hl.1 (c_X5_splitAt l E F (((S.1 65 6) - x1) - x2) (((S.1 65 7) - x3) - x4) S q1 eq1) si_cl5 rfl ⟨⟨rfl, rfl⟩, Nat.le_of_ble_eq_true rfl, Nat.le_of_ble_eq_true rfl⟩ rfl rfl (Nat.le_of_ble_eq_true rfl) ⟨Nat.zero_le _, Nat.zero_le _⟩ dX5_worst_65 (fun H locs hw => ?_)
    obtain ⟨v2, ev2, hf⟩ := si_ob hf
    refine si_iald X hw rfl ev2 dX5_worst_68 ?_
    refine lv_istore (lv' := [(5, .int v2), (0, .ref (E.2.1 65)), (1, .int x1), (2, .int x2), (3, .int x3), (4, .int x4)]) X.1 X.2.1 dX5_worst_69 hl (by decide) rfl (fun ls hl => ?_)
    refine lv_aload_n X.1 X.2.1 dX5_worst_71 rfl (lv_at hl 1 rfl) ?_
    refine si_getR (k' := 67) (d := 2) X hw si_cl5 1 (by decide) gf_RX5_15 rfl rfl rfl (by decide) rfl dX5_worst_72 ?_
    refine lv_aload_n X.1 X.2.1 dX5_worst_75 rfl (lv_at hl 1 rfl) ?_
    refine lv_iload_n X.1 X.2.1 dX5_worst_76 rfl (lv_at hl 2 rfl) ?_
    refine lv_iload X.1 X.2.1 dX5_worst_77 (lv_at hl 5 rfl) ?_
    obtain ⟨q3, eq3, hf⟩ := si_ob hf
    refine si_cVi [.int x1, .int x4] cal_X5_splitAt gm_RX5_67 X hw hA hl.1 (c_X5_splitAt l E F x1 x4 q1.2 q3 eq3) si_cl5 rfl ⟨⟨rfl, rfl⟩, Nat.le_of_ble_eq_true rfl, Nat.le_of_ble_eq_true rfl⟩ rfl rfl (Nat.le_of_ble_eq_true rfl) ⟨Nat.zero_le _, Nat.zero_le _⟩ dX5_worst_79 (fun H locs hw => ?_)
    obtain ⟨v4, ev4, hf⟩ := si_ob hf
    refine si_iald X hw rfl ev4 dX5_worst_82 ?_
    refine lv_istore (lv' := [(6, .int v4), (5, .int v2), (0, .ref (E.2.1 65)), (1, .int x1), (2, .int x2), (3, .int x3), (4, .int x4)]) X.1 X.2.1 dX5_worst_83 hl (by decide) rfl (fun ls hl => ?_)
    refine lv_aload_n X.1 X.2.1 dX5_worst_85 rfl (lv_at hl 2 rfl) ?_
    refine si_getR (k' := 67) (d := 2) X hw si_cl5 1 (by decide) gf_RX5_15 rfl rfl rfl (by decide) rfl dX5_worst_86 ?_
    refine lv_aload_n X.1 X.2.1 dX5_worst_89 rfl (lv_at hl 2 rfl) ?_
    refine lv_iload_n X.1 X.2.1 dX5_worst_90 rfl (lv_at hl 4 rfl) ?_
    refine lv_iload_n X.1 X.2.1 dX5_worst_91 rfl (lv_at hl 5 rfl) ?_
    obtain ⟨q5, eq5, hf⟩ := si_ob hf
    refine si_cVi [.int x2, .int x3] cal_X5_splitAt gm_RX5_67 X hw hA hl.1 (c_X5_splitAt l E F x2 x3 q3.2 q5 eq5) si_cl5 rfl ⟨⟨rfl, rfl⟩, Nat.le_of_ble_eq_true rfl, Nat.le_of_ble_eq_true rfl⟩ rfl rfl (Nat.le_of_ble_eq_true rfl) ⟨Nat.zero_le _, Nat.zero_le _⟩ dX5_worst_92 (fun H locs hw => ?_)
    obtain ⟨v6, ev6, hf⟩ := si_ob hf
    refine si_iald X hw rfl ev6 dX5_worst_95 ?_
    refine lv_istore (lv' := [(7, .int v6), (6, .int v4), (5, .int v2), (0, .ref (E.2.1 65)), (1, .int x1), (2, .int x2), (3, .int x3), (4, .int x4)]) X.1 X.2.1 dX5_worst_96 hl (by decide) rfl (fun ls hl => ?_)
    refine lv_iload X.1 X.2.1 dX5_worst_98 (lv_at hl 2 rfl) ?_
    refine lv_iload X.1 X.2.1 dX5_worst_100 (lv_at hl 1 rfl) ?_
    refine lv_iload X.1 X.2.1 dX5_worst_102 (lv_at hl 0 rfl) ?_
    refine si_mmax hl.1 X (Nat.le_of_ble_eq_true rfl) (Nat.le_of_ble_eq_true rfl) gm_RX5_90 ⟨Nat.zero_le _, Nat.zero_le _⟩ dX5_worst_104 ?_
    refine si_mmax hl.1 X (Nat.le_of_ble_eq_true rfl) (Nat.le_of_ble_eq_true rfl) gm_RX5_90 ⟨Nat.zero_le _, Nat.zero_le _⟩ dX5_worst_107 ?_
    exact hret _ _ _ _ _ _ hf hw dX5_worst_110
  · have hf := si_in c4 hf
    refine lv_aload_n X.1 X.2.1 dX5_worst_7 rfl (lv_at hl 0 rfl) ?_
    refine si_getR (k' := 68) (d := 3) X hw si_cl5 2 (by decide) gf_RX5_19 rfl rfl rfl (by decide) rfl dX5_worst_8 ?_
    refine lv_aload_n X.1 X.2.1 dX5_worst_11 rfl (lv_at hl 0 rfl) ?_
    refine lv_aload_n X.1 X.2.1 dX5_worst_12 rfl (lv_at hl 0 rfl) ?_
    refine si_getI X hw si_cl5 6 (by decide) gf_RX5_58 rfl rfl rfl dX5_worst_13 ?_
    refine lv_iload_n X.1 X.2.1 dX5_worst_16 rfl (lv_at hl 1 rfl) ?_
    refine lv_isub X.1 X.2.1 dX5_worst_17 ?_
    refine lv_iload_n X.1 X.2.1 dX5_worst_18 rfl (lv_at hl 2 rfl) ?_
    refine lv_isub X.1 X.2.1 dX5_worst_19 ?_
    obtain ⟨q7, eq7, hf⟩ := si_ob hf
    refine si_cVi [.int (((S.1 65 6) - x1) - x2)] cal_X5_mixedAt gm_RX5_64 X hw hA hl.1 (c_X5_mixedAt l E F (((S.1 65 6) - x1) - x2) S q7 eq7) si_cl5 rfl ⟨⟨rfl, rfl⟩, Nat.le_of_ble_eq_true rfl, Nat.le_of_ble_eq_true rfl⟩ rfl rfl (Nat.le_of_ble_eq_true rfl) ⟨Nat.zero_le _, Nat.zero_le _⟩ dX5_worst_20 (fun H locs hw => ?_)
    obtain ⟨v8, ev8, hf⟩ := si_ob hf
    refine si_iald X hw rfl ev8 dX5_worst_23 ?_
    refine lv_istore (lv' := [(5, .int v8), (0, .ref (E.2.1 65)), (1, .int x1), (2, .int x2), (3, .int x3), (4, .int x4)]) X.1 X.2.1 dX5_worst_24 hl (by decide) rfl (fun ls hl => ?_)
    refine lv_iload X.1 X.2.1 dX5_worst_26 (lv_at hl 0 rfl) ?_
    refine lv_aload_n X.1 X.2.1 dX5_worst_28 rfl (lv_at hl 1 rfl) ?_
    refine si_getR (k' := 67) (d := 2) X hw si_cl5 1 (by decide) gf_RX5_15 rfl rfl rfl (by decide) rfl dX5_worst_29 ?_
    refine lv_aload_n X.1 X.2.1 dX5_worst_32 rfl (lv_at hl 1 rfl) ?_
    refine lv_iload_n X.1 X.2.1 dX5_worst_33 rfl (lv_at hl 2 rfl) ?_
    refine lv_iload_n X.1 X.2.1 dX5_worst_34 rfl (lv_at hl 3 rfl) ?_
    obtain ⟨q9, eq9, hf⟩ := si_ob hf
    refine si_cVi [.int x1, .int x2] cal_X5_splitAt gm_RX5_67 X hw hA hl.1 (c_X5_splitAt l E F x1 x2 q7.2 q9 eq9) si_cl5 rfl ⟨⟨rfl, rfl⟩, Nat.le_of_ble_eq_true rfl, Nat.le_of_ble_eq_true rfl⟩ rfl rfl (Nat.le_of_ble_eq_true rfl) ⟨Nat.zero_le _, Nat.zero_le _⟩ dX5_worst_35 (fun H locs hw => ?_)
    obtain ⟨v10, ev10, hf⟩ := si_ob hf
    refine si_iald X hw rfl ev10 dX5_worst_38 ?_
    refine si_mmax hl.1 X (Nat.le_of_ble_eq_true rfl) (Nat.le_of_ble_eq_true rfl) gm_RX5_90 ⟨Nat.zero_le _, Nat.zero_le _⟩ dX5_worst_39 ?_
    exact hret _ _ _ _ _ _ hf hw dX5_worst_42
abbrev rm_X5_leastWorst : Room := { frames := 2, cells := 0, slots := 0, locals := 50 }
set_option maxHeartbeats 4000000 in
set_option maxRecDepth 100000 in
theorem c_X5_leastWorst (l : Launch) (E : si_Ev) (F : Nat) (S : si_St) (o : Int32 × si_St) (hf : f_X5_leastWorst F S = some o) : si_Mi l E yX5_leastWorst cX5_leastWorst 7 (some .int) rm_X5_leastWorst [.ref (E.2.1 65)] S o := by
  refine si_ofWi (plainFor_of_name (by decide +kernel)) (Nat.le_of_ble_eq_true rfl) ?_
  intro p e s m args below meth c ls Q A X hw hA hl hret
  have hl : lv_has ls 7 [(0, .ref (E.2.1 65))] := hl
  have B20 : ∀ (n20 : Nat) (x1 : Int32) (x2 : Int32) (x3 : Int32) (S : si_St) (H : Heap) (locs : List Loc) (ls : Array Slot), f_X5_leastWorst_l20 F n20 x1 x2 x3 S = some o → si_Ws E A s.heap S H locs → lv_has ls 7 [(0, .ref (E.2.1 65)), (1, .int x1), (2, .int x2), (3, .int x3)] → W p l e rm_X5_leastWorst s m args below meth c H locs 0 0 Q (F0 m 20 ls []) := by
    intro n20
    induction n20 with
    | zero => intro x1 x2 x3  S H locs ls hf; cases hf
    | succ n20 ih20 =>
      have B126 : ∀ (x1 : Int32) (x2 : Int32) (x3 : Int32) (S : si_St) (H : Heap) (locs : List Loc) (ls : Array Slot), f_X5_leastWorst_h126 F (f_X5_leastWorst_l20 F n20) x1 x2 x3 S = some o → si_Ws E A s.heap S H locs → lv_has ls 7 [(0, .ref (E.2.1 65)), (1, .int x1), (2, .int x2), (3, .int x3)] → W p l e rm_X5_leastWorst s m args below meth c H locs 0 0 Q (F0 m 126 ls []) := by
        intro x1 x2 x3  S H locs ls hf hw hl
        unfold f_X5_leastWorst_h126 at hf
        obtain ⟨v1, ev1, hf⟩ := si_ob hf
        refine lv_iinc (v := v1) (lv' := [(3, .int v1), (0, .ref (E.2.1 65)), (1, .int x1), (2, .int x2)]) X.1 X.2.1 dX5_leastWorst_126 hl (k := 3) rfl (Option.some.inj ev1) (by decide) rfl (fun ls hl => ?_)
        refine lv_goto (tgt := 20) X.1 X.2.1 dX5_leastWorst_129 (by decide) ?_
        exact ih20 _ _ _ _ _ _ _ hf hw (lv_sub hl [1, 2, 3, 0] rfl)
      have B31 : ∀ (n31 : Nat) (x1 : Int32) (x2 : Int32) (x3 : Int32) (x4 : Int32) (S : si_St) (H : Heap) (locs : List Loc) (ls : Array Slot), f_X5_leastWorst_l31 F (f_X5_leastWorst_l20 F n20) n31 x1 x2 x3 x4 S = some o → si_Ws E A s.heap S H locs → lv_has ls 7 [(0, .ref (E.2.1 65)), (1, .int x1), (2, .int x2), (3, .int x3), (4, .int x4)] → W p l e rm_X5_leastWorst s m args below meth c H locs 0 0 Q (F0 m 31 ls []) := by
        intro n31
        induction n31 with
        | zero => intro x1 x2 x3 x4  S H locs ls hf; cases hf
        | succ n31 ih31 =>
          have B51 : ∀ (n51 : Nat) (x1 : Int32) (x2 : Int32) (x3 : Int32) (x4 : Int32) (x5 : Int32) (S : si_St) (H : Heap) (locs : List Loc) (ls : Array Slot), f_X5_leastWorst_l51 F (f_X5_leastWorst_l20 F n20) (f_X5_leastWorst_l31 F (f_X5_leastWorst_l20 F n20) n31) n51 x1 x2 x3 x4 x5 S = some o → si_Ws E A s.heap S H locs → lv_has ls 7 [(0, .ref (E.2.1 65)), (1, .int x1), (2, .int x2), (3, .int x3), (4, .int x4), (5, .int x5)] → W p l e rm_X5_leastWorst s m args below meth c H locs 0 0 Q (F0 m 51 ls []) := by
            intro n51
            induction n51 with
            | zero => intro x1 x2 x3 x4 x5  S H locs ls hf; cases hf
            | succ n51 ih51 =>
              have B63 : ∀ (n63 : Nat) (x1 : Int32) (x2 : Int32) (x3 : Int32) (x4 : Int32) (x5 : Int32) (x6 : Int32) (S : si_St) (H : Heap) (locs : List Loc) (ls : Array Slot), f_X5_leastWorst_l63 F (f_X5_leastWorst_l20 F n20) (f_X5_leastWorst_l31 F (f_X5_leastWorst_l20 F n20) n31) (f_X5_leastWorst_l51 F (f_X5_leastWorst_l20 F n20) (f_X5_leastWorst_l31 F (f_X5_leastWorst_l20 F n20) n31) n51) n63 x1 x2 x3 x4 x5 x6 S = some o → si_Ws E A s.heap S H locs → lv_has ls 7 [(0, .ref (E.2.1 65)), (1, .int x1), (2, .int x2), (3, .int x3), (4, .int x4), (5, .int x5), (6, .int x6)] → W p l e rm_X5_leastWorst s m args below meth c H locs 0 0 Q (F0 m 63 ls []) := by
                intro n63
                induction n63 with
                | zero => intro x1 x2 x3 x4 x5 x6  S H locs ls hf; cases hf
                | succ n63 ih63 =>
                  have B108 : ∀ (x1 : Int32) (x2 : Int32) (x3 : Int32) (x4 : Int32) (x5 : Int32) (x6 : Int32) (S : si_St) (H : Heap) (locs : List Loc) (ls : Array Slot), f_X5_leastWorst_h108 F (f_X5_leastWorst_l20 F n20) (f_X5_leastWorst_l31 F (f_X5_leastWorst_l20 F n20) n31) (f_X5_leastWorst_l51 F (f_X5_leastWorst_l20 F n20) (f_X5_leastWorst_l31 F (f_X5_leastWorst_l20 F n20) n31) n51) (f_X5_leastWorst_l63 F (f_X5_leastWorst_l20 F n20) (f_X5_leastWorst_l31 F (f_X5_leastWorst_l20 F n20) n31) (f_X5_leastWorst_l51 F (f_X5_leastWorst_l20 F n20) (f_X5_leastWorst_l31 F (f_X5_leastWorst_l20 F n20) n31) n51) n63) x1 x2 x3 x4 x5 x6 S = some o → si_Ws E A s.heap S H locs → lv_has ls 7 [(0, .ref (E.2.1 65)), (1, .int x1), (2, .int x2), (3, .int x3), (4, .int x4), (5, .int x5), (6, .int x6)] → W p l e rm_X5_leastWorst s m args below meth c H locs 0 0 Q (F0 m 108 ls []) := by
                    intro x1 x2 x3 x4 x5 x6  S H locs ls hf hw hl
                    unfold f_X5_leastWorst_h108 at hf
                    obtain ⟨v2, ev2, hf⟩ := si_ob hf
                    refine lv_iinc (v := v2) (lv' := [(6, .int v2), (0, .ref (E.2.1 65)), (1, .int x1), (2, .int x2), (3, .int x3), (4, .int x4), (5, .int x5)]) X.1 X.2.1 dX5_leastWorst_108 hl (k := 6) rfl (Option.some.inj ev2) (by decide) rfl (fun ls hl => ?_)
                    refine lv_goto (tgt := 63) X.1 X.2.1 dX5_leastWorst_111 (by decide) ?_
                    exact ih63 _ _ _ _ _ _ _ _ _ _ hf hw (lv_sub hl [1, 2, 3, 4, 5, 6, 0] rfl)
                  intro x1 x2 x3 x4 x5 x6  S H locs ls hf hw hl
                  have hf : f_X5_leastWorst_h63 F (f_X5_leastWorst_l20 F n20) (f_X5_leastWorst_l31 F (f_X5_leastWorst_l20 F n20) n31) (f_X5_leastWorst_l51 F (f_X5_leastWorst_l20 F n20) (f_X5_leastWorst_l31 F (f_X5_leastWorst_l20 F n20) n31) n51) (f_X5_leastWorst_l63 F (f_X5_leastWorst_l20 F n20) (f_X5_leastWorst_l31 F (f_X5_leastWorst_l20 F n20) n31) (f_X5_leastWorst_l51 F (f_X5_leastWorst_l20 F n20) (f_X5_leastWorst_l31 F (f_X5_leastWorst_l20 F n20) n31) n51) n63) x1 x2 x3 x4 x5 x6 S = some o := hf
                  unfold f_X5_leastWorst_h63 at hf
                  refine lv_iload X.1 X.2.1 dX5_leastWorst_63 (lv_at hl 5 rfl) ?_
                  refine lv_iload X.1 X.2.1 dX5_leastWorst_65 (lv_at hl 6 rfl) ?_
                  refine lv_iadd X.1 X.2.1 dX5_leastWorst_67 ?_
                  refine lv_aload_n X.1 X.2.1 dX5_leastWorst_68 rfl (lv_at hl 0 rfl) ?_
                  refine si_getI X hw si_cl5 7 (by decide) gf_RX5_61 rfl rfl rfl dX5_leastWorst_69 ?_
                  refine lv_icmp_gt (tgt := 114) X.1 X.2.1 dX5_leastWorst_72 (by decide) (fun c72 => ?_) (fun c72 => ?_)
                  · have hf := si_ip c72 hf
                    obtain ⟨v3, ev3, hf⟩ := si_ob hf
                    refine lv_iinc (v := v3) (lv' := [(5, .int v3), (0, .ref (E.2.1 65)), (1, .int x1), (2, .int x2), (3, .int x3), (4, .int x4), (6, .int x6)]) X.1 X.2.1 dX5_leastWorst_114 hl (k := 5) rfl (Option.some.inj ev3) (by decide) rfl (fun ls hl => ?_)
                    refine lv_goto (tgt := 51) X.1 X.2.1 dX5_leastWorst_117 (by decide) ?_
                    exact ih51 _ _ _ _ _ _ _ _ _ hf hw (lv_sub hl [1, 2, 3, 4, 5, 0] rfl)
                  · have hf := si_in c72 hf
                    refine lv_iload_n X.1 X.2.1 dX5_leastWorst_75 rfl (lv_at hl 3 rfl) ?_
                    refine lv_iload X.1 X.2.1 dX5_leastWorst_76 (lv_at hl 5 rfl) ?_
                    refine lv_iadd X.1 X.2.1 dX5_leastWorst_78 ?_
                    refine lv_iload X.1 X.2.1 dX5_leastWorst_79 (lv_at hl 4 rfl) ?_
                    refine lv_isub X.1 X.2.1 dX5_leastWorst_81 ?_
                    refine lv_iload X.1 X.2.1 dX5_leastWorst_82 (lv_at hl 6 rfl) ?_
                    refine lv_isub X.1 X.2.1 dX5_leastWorst_84 ?_
                    refine si_mabs hl.1 X (Nat.le_of_ble_eq_true rfl) (Nat.le_of_ble_eq_true rfl) gm_RX5_78 ⟨Nat.zero_le _, Nat.zero_le _⟩ dX5_leastWorst_85 ?_
                    refine lv_iload_n X.1 X.2.1 dX5_leastWorst_88 rfl (lv_at hl 1 rfl) ?_
                    refine lv_icmp_gt (tgt := 108) X.1 X.2.1 dX5_leastWorst_89 (by decide) (fun c89 => ?_) (fun c89 => ?_)
                    · have hf := si_ip c89 hf
                      exact B108 _ _ _ _ _ _ _ _ _ _ hf hw (lv_sub hl [0, 1, 2, 3, 4, 5, 6] rfl)
                    · have hf := si_in c89 hf
                      refine lv_iload_n X.1 X.2.1 dX5_leastWorst_92 rfl (lv_at hl 2 rfl) ?_
                      refine lv_aload_n X.1 X.2.1 dX5_leastWorst_93 rfl (lv_at hl 0 rfl) ?_
                      refine lv_iload_n X.1 X.2.1 dX5_leastWorst_94 rfl (lv_at hl 3 rfl) ?_
                      refine lv_iload X.1 X.2.1 dX5_leastWorst_95 (lv_at hl 4 rfl) ?_
                      refine lv_iload X.1 X.2.1 dX5_leastWorst_97 (lv_at hl 5 rfl) ?_
                      refine lv_iload X.1 X.2.1 dX5_leastWorst_99 (lv_at hl 6 rfl) ?_
                      obtain ⟨q4, eq4, hf⟩ := si_ob hf
                      refine si_cVi [.int x3, .int x4, .int x5, .int x6] cal_X5_worst gm_RX5_83 X hw hA hl.1 (c_X5_worst l E F x3 x4 x5 x6 S q4 eq4) si_cl5 rfl ⟨⟨rfl, rfl⟩, Nat.le_of_ble_eq_true rfl, Nat.le_of_ble_eq_true rfl⟩ rfl rfl (Nat.le_of_ble_eq_true rfl) ⟨Nat.zero_le _, Nat.zero_le _⟩ dX5_leastWorst_101 (fun H locs hw => ?_)
                      refine si_mmin hl.1 X (Nat.le_of_ble_eq_true rfl) (Nat.le_of_ble_eq_true rfl) gm_RX5_87 ⟨Nat.zero_le _, Nat.zero_le _⟩ dX5_leastWorst_104 ?_
                      obtain ⟨v5, ev5, hf⟩ := si_ob hf
                      refine si_nmI ev5 ?_
                      refine lv_istore_n (lv' := [(2, .int v5), (0, .ref (E.2.1 65)), (1, .int x1), (3, .int x3), (4, .int x4), (5, .int x5), (6, .int x6)]) X.1 X.2.1 dX5_leastWorst_107 rfl hl (by decide) rfl (fun ls hl => ?_)
                      exact B108 _ _ _ _ _ _ _ _ _ _ hf hw (lv_sub hl [1, 2, 0, 3, 4, 5, 6] rfl)
              intro x1 x2 x3 x4 x5  S H locs ls hf hw hl
              have hf : f_X5_leastWorst_h51 F (f_X5_leastWorst_l20 F n20) (f_X5_leastWorst_l31 F (f_X5_leastWorst_l20 F n20) n31) (f_X5_leastWorst_l51 F (f_X5_leastWorst_l20 F n20) (f_X5_leastWorst_l31 F (f_X5_leastWorst_l20 F n20) n31) n51) x1 x2 x3 x4 x5 S = some o := hf
              unfold f_X5_leastWorst_h51 at hf
              refine lv_iload X.1 X.2.1 dX5_leastWorst_51 (lv_at hl 5 rfl) ?_
              refine lv_aload_n X.1 X.2.1 dX5_leastWorst_53 rfl (lv_at hl 0 rfl) ?_
              refine si_getI X hw si_cl5 7 (by decide) gf_RX5_61 rfl rfl rfl dX5_leastWorst_54 ?_
              refine lv_icmp_gt (tgt := 120) X.1 X.2.1 dX5_leastWorst_57 (by decide) (fun c57 => ?_) (fun c57 => ?_)
              · have hf := si_ip c57 hf
                obtain ⟨v6, ev6, hf⟩ := si_ob hf
                refine lv_iinc (v := v6) (lv' := [(4, .int v6), (0, .ref (E.2.1 65)), (1, .int x1), (2, .int x2), (3, .int x3), (5, .int x5)]) X.1 X.2.1 dX5_leastWorst_120 hl (k := 4) rfl (Option.some.inj ev6) (by decide) rfl (fun ls hl => ?_)
                refine lv_goto (tgt := 31) X.1 X.2.1 dX5_leastWorst_123 (by decide) ?_
                exact ih31 _ _ _ _ _ _ _ _ hf hw (lv_sub hl [1, 2, 3, 4, 0] rfl)
              · have hf := si_in c57 hf
                refine lv_iconst (v := 0) X.1 X.2.1 dX5_leastWorst_60 (by decide) ?_
                refine lv_istore (lv' := [(6, .int 0), (0, .ref (E.2.1 65)), (1, .int x1), (2, .int x2), (3, .int x3), (4, .int x4), (5, .int x5)]) X.1 X.2.1 dX5_leastWorst_61 hl (by decide) rfl (fun ls hl => ?_)
                exact B63 F _ _ _ _ _ _ _ _ _ _ hf hw (lv_sub hl [1, 2, 3, 4, 5, 6, 0] rfl)
          intro x1 x2 x3 x4  S H locs ls hf hw hl
          have hf : f_X5_leastWorst_h31 F (f_X5_leastWorst_l20 F n20) (f_X5_leastWorst_l31 F (f_X5_leastWorst_l20 F n20) n31) x1 x2 x3 x4 S = some o := hf
          unfold f_X5_leastWorst_h31 at hf
          refine lv_iload X.1 X.2.1 dX5_leastWorst_31 (lv_at hl 4 rfl) ?_
          refine lv_iload_n X.1 X.2.1 dX5_leastWorst_33 rfl (lv_at hl 3 rfl) ?_
          refine lv_icmp_gt (tgt := 126) X.1 X.2.1 dX5_leastWorst_34 (by decide) (fun c34 => ?_) (fun c34 => ?_)
          · have hf := si_ip c34 hf
            exact B126 _ _ _ _ _ _ _ hf hw (lv_sub hl [0, 1, 2, 3] rfl)
          · have hf := si_in c34 hf
            refine lv_iload_n X.1 X.2.1 dX5_leastWorst_37 rfl (lv_at hl 3 rfl) ?_
            refine lv_iload X.1 X.2.1 dX5_leastWorst_38 (lv_at hl 4 rfl) ?_
            refine lv_iadd X.1 X.2.1 dX5_leastWorst_40 ?_
            refine lv_aload_n X.1 X.2.1 dX5_leastWorst_41 rfl (lv_at hl 0 rfl) ?_
            refine si_getI X hw si_cl5 6 (by decide) gf_RX5_58 rfl rfl rfl dX5_leastWorst_42 ?_
            refine lv_icmp_gt (tgt := 126) X.1 X.2.1 dX5_leastWorst_45 (by decide) (fun c45 => ?_) (fun c45 => ?_)
            · have hf := si_ip c45 hf
              exact B126 _ _ _ _ _ _ _ hf hw (lv_sub hl [0, 1, 2, 3] rfl)
            · have hf := si_in c45 hf
              refine lv_iconst (v := 0) X.1 X.2.1 dX5_leastWorst_48 (by decide) ?_
              refine lv_istore (lv' := [(5, .int 0), (0, .ref (E.2.1 65)), (1, .int x1), (2, .int x2), (3, .int x3), (4, .int x4)]) X.1 X.2.1 dX5_leastWorst_49 hl (by decide) rfl (fun ls hl => ?_)
              exact B51 F _ _ _ _ _ _ _ _ _ hf hw (lv_sub hl [1, 2, 3, 4, 5, 0] rfl)
      intro x1 x2 x3  S H locs ls hf hw hl
      have hf : f_X5_leastWorst_h20 F (f_X5_leastWorst_l20 F n20) x1 x2 x3 S = some o := hf
      unfold f_X5_leastWorst_h20 at hf
      refine lv_iload_n X.1 X.2.1 dX5_leastWorst_20 rfl (lv_at hl 3 rfl) ?_
      refine lv_aload_n X.1 X.2.1 dX5_leastWorst_21 rfl (lv_at hl 0 rfl) ?_
      refine si_getI X hw si_cl5 6 (by decide) gf_RX5_58 rfl rfl rfl dX5_leastWorst_22 ?_
      refine lv_icmp_gt (tgt := 132) X.1 X.2.1 dX5_leastWorst_25 (by decide) (fun c25 => ?_) (fun c25 => ?_)
      · have hf := si_ip c25 hf
        refine lv_iload_n X.1 X.2.1 dX5_leastWorst_132 rfl (lv_at hl 2 rfl) ?_
        exact hret _ _ _ _ _ _ hf hw dX5_leastWorst_133
      · have hf := si_in c25 hf
        refine lv_iconst (v := 0) X.1 X.2.1 dX5_leastWorst_28 (by decide) ?_
        refine lv_istore (lv' := [(4, .int 0), (0, .ref (E.2.1 65)), (1, .int x1), (2, .int x2), (3, .int x3)]) X.1 X.2.1 dX5_leastWorst_29 hl (by decide) rfl (fun ls hl => ?_)
        exact B31 F _ _ _ _ _ _ _ _ hf hw (lv_sub hl [1, 2, 3, 4, 0] rfl)
  unfold f_X5_leastWorst at hf
  refine lv_aload_n X.1 X.2.1 dX5_leastWorst_0 rfl (lv_at hl 0 rfl) ?_
  refine si_getI X hw si_cl5 3 (by decide) gf_RX5_22 rfl rfl rfl dX5_leastWorst_1 ?_
  refine lv_aload_n X.1 X.2.1 dX5_leastWorst_4 rfl (lv_at hl 0 rfl) ?_
  refine si_getI X hw si_cl5 6 (by decide) gf_RX5_58 rfl rfl rfl dX5_leastWorst_5 ?_
  refine lv_isub X.1 X.2.1 dX5_leastWorst_8 ?_
  refine lv_aload_n X.1 X.2.1 dX5_leastWorst_9 rfl (lv_at hl 0 rfl) ?_
  refine si_getI X hw si_cl5 7 (by decide) gf_RX5_61 rfl rfl rfl dX5_leastWorst_10 ?_
  refine lv_isub X.1 X.2.1 dX5_leastWorst_13 ?_
  obtain ⟨v7, ev7, hf⟩ := si_ob hf
  refine si_nmI ev7 ?_
  refine lv_istore_n (lv' := [(1, .int v7), (0, .ref (E.2.1 65))]) X.1 X.2.1 dX5_leastWorst_14 rfl hl (by decide) rfl (fun ls hl => ?_)
  refine lv_bipush (v := 99) X.1 X.2.1 dX5_leastWorst_15 (by decide) ?_
  refine lv_istore_n (lv' := [(2, .int 99), (1, .int v7), (0, .ref (E.2.1 65))]) X.1 X.2.1 dX5_leastWorst_17 rfl hl (by decide) rfl (fun ls hl => ?_)
  refine lv_iconst (v := 0) X.1 X.2.1 dX5_leastWorst_18 (by decide) ?_
  refine lv_istore_n (lv' := [(3, .int 0), (2, .int 99), (1, .int v7), (0, .ref (E.2.1 65))]) X.1 X.2.1 dX5_leastWorst_19 rfl hl (by decide) rfl (fun ls hl => ?_)
  exact B20 F _ _ _ _ _ _ _ hf hw (lv_sub hl [3, 2, 1, 0] rfl)
abbrev rm_X5_fillMixedNeeds : Room := { frames := 3, cells := 0, slots := 0, locals := 76 }
set_option maxHeartbeats 4000000 in
set_option maxRecDepth 100000 in
theorem c_X5_fillMixedNeeds (l : Launch) (E : si_Ev) (F : Nat) (x1 : Int32) (S : si_St) (o : si_St) (hf : f_X5_fillMixedNeeds F x1 S = some o) : si_Mv l E yX5_fillMixedNeeds cX5_fillMixedNeeds 3 rm_X5_fillMixedNeeds [.ref (E.2.1 65), .int x1] S o := by
  refine si_ofWv (plainFor_of_name (by decide +kernel)) (Nat.le_of_ble_eq_true rfl) ?_
  intro p e s m args below meth c ls Q A X hw hA hl hret
  have hl : lv_has ls 3 [(0, .ref (E.2.1 65)), (1, .int x1)] := hl
  have B17 : ∀ (n17 : Nat) (x2 : Int32) (S : si_St) (H : Heap) (locs : List Loc) (ls : Array Slot), f_X5_fillMixedNeeds_l17 F n17 x2 S = some o → si_Ws E A s.heap S H locs → lv_has ls 3 [(0, .ref (E.2.1 65)), (2, .int x2)] → W p l e rm_X5_fillMixedNeeds s m args below meth c H locs 0 0 Q (F0 m 17 ls []) := by
    intro n17
    induction n17 with
    | zero => intro x2  S H locs ls hf; cases hf
    | succ n17 ih17 =>
      have B54 : ∀ (x2 : Int32) (t0 : Int32) (t1 : Int32) (S : si_St) (H : Heap) (locs : List Loc) (ls : Array Slot), f_X5_fillMixedNeeds_h54 F (f_X5_fillMixedNeeds_l17 F n17) x2 t0 t1 S = some o → si_Ws E A s.heap S H locs → lv_has ls 3 [(0, .ref (E.2.1 65)), (2, .int x2)] → W p l e rm_X5_fillMixedNeeds s m args below meth c H locs 0 0 Q (F0 m 54 ls [.int t0, .int t1, .ref (E.2.1 68)]) := by
        intro x2 t0 t1  S H locs ls hf hw hl
        unfold f_X5_fillMixedNeeds_h54 at hf
        obtain ⟨S1, eS1, hf⟩ := si_ob hf
        refine si_iast X hw rfl eS1 dX5_fillMixedNeeds_54 (fun H locs hw => ?_)
        obtain ⟨v2, ev2, hf⟩ := si_ob hf
        refine lv_iinc (v := v2) (lv' := [(2, .int v2), (0, .ref (E.2.1 65))]) X.1 X.2.1 dX5_fillMixedNeeds_55 hl (k := 1) rfl (Option.some.inj ev2) (by decide) rfl (fun ls hl => ?_)
        refine lv_goto (tgt := 17) X.1 X.2.1 dX5_fillMixedNeeds_58 (by decide) ?_
        exact ih17 _ _ _ _ _ hf hw (lv_sub hl [1, 0] rfl)
      intro x2  S H locs ls hf hw hl
      have hf : f_X5_fillMixedNeeds_h17 F (f_X5_fillMixedNeeds_l17 F n17) x2 S = some o := hf
      unfold f_X5_fillMixedNeeds_h17 at hf
      refine lv_iload_n X.1 X.2.1 dX5_fillMixedNeeds_17 rfl (lv_at hl 1 rfl) ?_
      refine lv_aload_n X.1 X.2.1 dX5_fillMixedNeeds_18 rfl (lv_at hl 0 rfl) ?_
      refine si_getI X hw si_cl5 3 (by decide) gf_RX5_22 rfl rfl rfl dX5_fillMixedNeeds_19 ?_
      refine lv_icmp_gt (tgt := 61) X.1 X.2.1 dX5_fillMixedNeeds_22 (by decide) (fun c22 => ?_) (fun c22 => ?_)
      · have hf := si_ip c22 hf
        exact hret _ _ _ _ _ hf hw dX5_fillMixedNeeds_61
      · have hf := si_in c22 hf
        refine lv_aload_n X.1 X.2.1 dX5_fillMixedNeeds_25 rfl (lv_at hl 0 rfl) ?_
        refine lv_iload_n X.1 X.2.1 dX5_fillMixedNeeds_26 rfl (lv_at hl 1 rfl) ?_
        obtain ⟨S3, eS3, hf⟩ := si_ob hf
        refine si_ptI X hw si_cl5 6 (by decide) gf_RX5_58 rfl rfl rfl rfl rfl eS3 dX5_fillMixedNeeds_27 (fun H locs hw => ?_)
        refine lv_aload_n X.1 X.2.1 dX5_fillMixedNeeds_30 rfl (lv_at hl 0 rfl) ?_
        refine si_getR (k' := 68) (d := 3) X hw si_cl5 2 (by decide) gf_RX5_19 rfl rfl rfl (by decide) rfl dX5_fillMixedNeeds_31 ?_
        refine lv_aload_n X.1 X.2.1 dX5_fillMixedNeeds_34 rfl (lv_at hl 0 rfl) ?_
        refine lv_iload_n X.1 X.2.1 dX5_fillMixedNeeds_35 rfl (lv_at hl 1 rfl) ?_
        obtain ⟨q4, eq4, hf⟩ := si_ob hf
        refine si_cVi [.int x2] cal_X5_mixedAt gm_RX5_64 X hw hA hl.1 (c_X5_mixedAt l E F x2 S3 q4 eq4) si_cl5 rfl ⟨⟨rfl, rfl⟩, Nat.le_of_ble_eq_true rfl, Nat.le_of_ble_eq_true rfl⟩ rfl rfl (Nat.le_of_ble_eq_true rfl) ⟨Nat.zero_le _, Nat.zero_le _⟩ dX5_fillMixedNeeds_36 (fun H locs hw => ?_)
        refine lv_iload_n X.1 X.2.1 dX5_fillMixedNeeds_39 rfl (lv_at hl 1 rfl) ?_
        refine lv_if_ne (tgt := 47) X.1 X.2.1 dX5_fillMixedNeeds_40 (by decide) (fun c40 => ?_) (fun c40 => ?_)
        · have hf := si_in c40 hf
          refine lv_aload_n X.1 X.2.1 dX5_fillMixedNeeds_47 rfl (lv_at hl 0 rfl) ?_
          obtain ⟨q5, eq5, hf⟩ := si_ob hf
          refine si_cVi [] cal_X5_leastWorst gm_RX5_71 X hw hA hl.1 (c_X5_leastWorst l E F q4.2 q5 eq5) si_cl5 rfl ⟨⟨rfl, rfl⟩, Nat.le_of_ble_eq_true rfl, Nat.le_of_ble_eq_true rfl⟩ rfl rfl (Nat.le_of_ble_eq_true rfl) ⟨Nat.zero_le _, Nat.zero_le _⟩ dX5_fillMixedNeeds_48 (fun H locs hw => ?_)
          obtain ⟨q6, eq6, hf⟩ := si_ob hf
          refine si_cSi [.int q5.1] cal_X5_oneMore gm_RX5_75 X hw hA hl.1 (c_X5_oneMore l E F q5.1 q5.2 q6 eq6) ⟨⟨rfl, rfl⟩, Nat.le_of_ble_eq_true rfl, Nat.le_of_ble_eq_true rfl⟩ rfl rfl (Nat.le_of_ble_eq_true rfl) ⟨Nat.zero_le _, Nat.zero_le _⟩ dX5_fillMixedNeeds_51 (fun H locs hw => ?_)
          exact B54 _ _ _ _ _ _ _ hf hw (lv_sub hl [0, 1] rfl)
        · have hf := si_ip c40 hf
          refine lv_iconst (v := 0) X.1 X.2.1 dX5_fillMixedNeeds_43 (by decide) ?_
          refine lv_goto (tgt := 54) X.1 X.2.1 dX5_fillMixedNeeds_44 (by decide) ?_
          exact B54 _ _ _ _ _ _ _ hf hw (lv_sub hl [0, 1] rfl)
  unfold f_X5_fillMixedNeeds at hf
  refine lv_aload_n X.1 X.2.1 dX5_fillMixedNeeds_0 rfl (lv_at hl 0 rfl) ?_
  refine lv_iconst (v := 1) X.1 X.2.1 dX5_fillMixedNeeds_1 (by decide) ?_
  obtain ⟨S7, eS7, hf⟩ := si_ob hf
  refine si_ptZ X hw si_cl5 4 (by decide) gf_RX5_36 rfl rfl rfl rfl rfl eS7 dX5_fillMixedNeeds_2 (fun H locs hw => ?_)
  refine lv_aload_n X.1 X.2.1 dX5_fillMixedNeeds_5 rfl (lv_at hl 0 rfl) ?_
  refine lv_iload_n X.1 X.2.1 dX5_fillMixedNeeds_6 rfl (lv_at hl 1 rfl) ?_
  obtain ⟨S8, eS8, hf⟩ := si_ob hf
  refine si_ptI X hw si_cl5 5 (by decide) gf_RX5_40 rfl rfl rfl rfl rfl eS8 dX5_fillMixedNeeds_7 (fun H locs hw => ?_)
  refine lv_aload_n X.1 X.2.1 dX5_fillMixedNeeds_10 rfl (lv_at hl 0 rfl) ?_
  refine lv_iconst (v := 0) X.1 X.2.1 dX5_fillMixedNeeds_11 (by decide) ?_
  obtain ⟨S9, eS9, hf⟩ := si_ob hf
  refine si_ptI X hw si_cl5 7 (by decide) gf_RX5_61 rfl rfl rfl rfl rfl eS9 dX5_fillMixedNeeds_12 (fun H locs hw => ?_)
  refine lv_iconst (v := 0) X.1 X.2.1 dX5_fillMixedNeeds_15 (by decide) ?_
  refine lv_istore_n (lv' := [(2, .int 0), (0, .ref (E.2.1 65)), (1, .int x1)]) X.1 X.2.1 dX5_fillMixedNeeds_16 rfl hl (by decide) rfl (fun ls hl => ?_)
  exact B17 F _ _ _ _ _ hf hw (lv_sub hl [1, 0] rfl)
abbrev rm_X5_fillSplitNeeds : Room := { frames := 3, cells := 0, slots := 0, locals := 76 }
set_option maxHeartbeats 4000000 in
set_option maxRecDepth 100000 in
theorem c_X5_fillSplitNeeds (l : Launch) (E : si_Ev) (F : Nat) (S : si_St) (o : si_St) (hf : f_X5_fillSplitNeeds F S = some o) : si_Mv l E yX5_fillSplitNeeds cX5_fillSplitNeeds 4 rm_X5_fillSplitNeeds [.ref (E.2.1 65)] S o := by
  refine si_ofWv (plainFor_of_name (by decide +kernel)) (Nat.le_of_ble_eq_true rfl) ?_
  intro p e s m args below meth c ls Q A X hw hA hl hret
  have hl : lv_has ls 4 [(0, .ref (E.2.1 65))] := hl
  have B12 : ∀ (n12 : Nat) (x1 : Int32) (S : si_St) (H : Heap) (locs : List Loc) (ls : Array Slot), f_X5_fillSplitNeeds_l12 F n12 x1 S = some o → si_Ws E A s.heap S H locs → lv_has ls 4 [(0, .ref (E.2.1 65)), (1, .int x1)] → W p l e rm_X5_fillSplitNeeds s m args below meth c H locs 0 0 Q (F0 m 12 ls []) := by
    intro n12
    induction n12 with
    | zero => intro x1  S H locs ls hf; cases hf
    | succ n12 ih12 =>
      have B22 : ∀ (n22 : Nat) (x1 : Int32) (x2 : Int32) (S : si_St) (H : Heap) (locs : List Loc) (ls : Array Slot), f_X5_fillSplitNeeds_l22 F (f_X5_fillSplitNeeds_l12 F n12) n22 x1 x2 S = some o → si_Ws E A s.heap S H locs → lv_has ls 4 [(0, .ref (E.2.1 65)), (1, .int x1), (2, .int x2)] → W p l e rm_X5_fillSplitNeeds s m args below meth c H locs 0 0 Q (F0 m 22 ls []) := by
        intro n22
        induction n22 with
        | zero => intro x1 x2  S H locs ls hf; cases hf
        | succ n22 ih22 =>
          have B57 : ∀ (x1 : Int32) (x2 : Int32) (t0 : Int32) (S : si_St) (H : Heap) (locs : List Loc) (ls : Array Slot), f_X5_fillSplitNeeds_h57 F (f_X5_fillSplitNeeds_l12 F n12) (f_X5_fillSplitNeeds_l22 F (f_X5_fillSplitNeeds_l12 F n12) n22) x1 x2 t0 S = some o → si_Ws E A s.heap S H locs → lv_has ls 4 [(0, .ref (E.2.1 65)), (1, .int x1), (2, .int x2)] → W p l e rm_X5_fillSplitNeeds s m args below meth c H locs 0 0 Q (F0 m 57 ls [.int t0]) := by
            intro x1 x2 t0  S H locs ls hf hw hl
            unfold f_X5_fillSplitNeeds_h57 at hf
            refine lv_istore_n (lv' := [(3, .int t0), (0, .ref (E.2.1 65)), (1, .int x1), (2, .int x2)]) X.1 X.2.1 dX5_fillSplitNeeds_57 rfl hl (by decide) rfl (fun ls hl => ?_)
            refine lv_aload_n X.1 X.2.1 dX5_fillSplitNeeds_58 rfl (lv_at hl 1 rfl) ?_
            refine si_getR (k' := 67) (d := 2) X hw si_cl5 1 (by decide) gf_RX5_15 rfl rfl rfl (by decide) rfl dX5_fillSplitNeeds_59 ?_
            refine lv_aload_n X.1 X.2.1 dX5_fillSplitNeeds_62 rfl (lv_at hl 1 rfl) ?_
            refine lv_aload_n X.1 X.2.1 dX5_fillSplitNeeds_63 rfl (lv_at hl 1 rfl) ?_
            refine si_getI X hw si_cl5 6 (by decide) gf_RX5_58 rfl rfl rfl dX5_fillSplitNeeds_64 ?_
            refine lv_aload_n X.1 X.2.1 dX5_fillSplitNeeds_67 rfl (lv_at hl 1 rfl) ?_
            refine si_getI X hw si_cl5 7 (by decide) gf_RX5_61 rfl rfl rfl dX5_fillSplitNeeds_68 ?_
            obtain ⟨q1, eq1, hf⟩ := si_ob hf
            refine si_cVi [.int (S.1 65 6), .int (S.1 65 7)] cal_X5_splitAt gm_RX5_67 X hw hA hl.1 (c_X5_splitAt l E F (S.1 65 6) (S.1 65 7) S q1 eq1) si_cl5 rfl ⟨⟨rfl, rfl⟩, Nat.le_of_ble_eq_true rfl, Nat.le_of_ble_eq_true rfl⟩ rfl rfl (Nat.le_of_ble_eq_true rfl) ⟨Nat.zero_le _, Nat.zero_le _⟩ dX5_fillSplitNeeds_71 (fun H locs hw => ?_)
            refine lv_iload_n X.1 X.2.1 dX5_fillSplitNeeds_74 rfl (lv_at hl 0 rfl) ?_
            obtain ⟨S2, eS2, hf⟩ := si_ob hf
            refine si_iast X hw rfl eS2 dX5_fillSplitNeeds_75 (fun H locs hw => ?_)
            refine lv_aload_n X.1 X.2.1 dX5_fillSplitNeeds_76 rfl (lv_at hl 1 rfl) ?_
            refine si_getR (k' := 67) (d := 2) X hw si_cl5 1 (by decide) gf_RX5_15 rfl rfl rfl (by decide) rfl dX5_fillSplitNeeds_77 ?_
            refine lv_aload_n X.1 X.2.1 dX5_fillSplitNeeds_80 rfl (lv_at hl 1 rfl) ?_
            refine lv_aload_n X.1 X.2.1 dX5_fillSplitNeeds_81 rfl (lv_at hl 1 rfl) ?_
            refine si_getI X hw si_cl5 7 (by decide) gf_RX5_61 rfl rfl rfl dX5_fillSplitNeeds_82 ?_
            refine lv_aload_n X.1 X.2.1 dX5_fillSplitNeeds_85 rfl (lv_at hl 1 rfl) ?_
            refine si_getI X hw si_cl5 6 (by decide) gf_RX5_58 rfl rfl rfl dX5_fillSplitNeeds_86 ?_
            obtain ⟨q3, eq3, hf⟩ := si_ob hf
            refine si_cVi [.int (S2.1 65 7), .int (S2.1 65 6)] cal_X5_splitAt gm_RX5_67 X hw hA hl.1 (c_X5_splitAt l E F (S2.1 65 7) (S2.1 65 6) S2 q3 eq3) si_cl5 rfl ⟨⟨rfl, rfl⟩, Nat.le_of_ble_eq_true rfl, Nat.le_of_ble_eq_true rfl⟩ rfl rfl (Nat.le_of_ble_eq_true rfl) ⟨Nat.zero_le _, Nat.zero_le _⟩ dX5_fillSplitNeeds_89 (fun H locs hw => ?_)
            refine lv_iload_n X.1 X.2.1 dX5_fillSplitNeeds_92 rfl (lv_at hl 0 rfl) ?_
            obtain ⟨S4, eS4, hf⟩ := si_ob hf
            refine si_iast X hw rfl eS4 dX5_fillSplitNeeds_93 (fun H locs hw => ?_)
            obtain ⟨v5, ev5, hf⟩ := si_ob hf
            refine lv_iinc (v := v5) (lv' := [(2, .int v5), (3, .int t0), (0, .ref (E.2.1 65)), (1, .int x1)]) X.1 X.2.1 dX5_fillSplitNeeds_94 hl (k := 3) rfl (Option.some.inj ev5) (by decide) rfl (fun ls hl => ?_)
            refine lv_goto (tgt := 22) X.1 X.2.1 dX5_fillSplitNeeds_97 (by decide) ?_
            exact ih22 _ _ _ _ _ _ hf hw (lv_sub hl [2, 3, 0] rfl)
          intro x1 x2  S H locs ls hf hw hl
          have hf : f_X5_fillSplitNeeds_h22 F (f_X5_fillSplitNeeds_l12 F n12) (f_X5_fillSplitNeeds_l22 F (f_X5_fillSplitNeeds_l12 F n12) n22) x1 x2 S = some o := hf
          unfold f_X5_fillSplitNeeds_h22 at hf
          refine lv_iconst (v := 2) X.1 X.2.1 dX5_fillSplitNeeds_22 (by decide) ?_
          refine lv_iload_n X.1 X.2.1 dX5_fillSplitNeeds_23 rfl (lv_at hl 2 rfl) ?_
          refine lv_imul X.1 X.2.1 dX5_fillSplitNeeds_24 ?_
          refine lv_iload_n X.1 X.2.1 dX5_fillSplitNeeds_25 rfl (lv_at hl 1 rfl) ?_
          refine lv_icmp_gt (tgt := 100) X.1 X.2.1 dX5_fillSplitNeeds_26 (by decide) (fun c26 => ?_) (fun c26 => ?_)
          · have hf := si_ip c26 hf
            obtain ⟨v6, ev6, hf⟩ := si_ob hf
            refine lv_iinc (v := v6) (lv' := [(1, .int v6), (0, .ref (E.2.1 65)), (2, .int x2)]) X.1 X.2.1 dX5_fillSplitNeeds_100 hl (k := 1) rfl (Option.some.inj ev6) (by decide) rfl (fun ls hl => ?_)
            refine lv_goto (tgt := 12) X.1 X.2.1 dX5_fillSplitNeeds_103 (by decide) ?_
            exact ih12 _ _ _ _ _ hf hw (lv_sub hl [1, 0] rfl)
          · have hf := si_in c26 hf
            refine lv_aload_n X.1 X.2.1 dX5_fillSplitNeeds_29 rfl (lv_at hl 0 rfl) ?_
            refine lv_iload_n X.1 X.2.1 dX5_fillSplitNeeds_30 rfl (lv_at hl 1 rfl) ?_
            refine lv_iload_n X.1 X.2.1 dX5_fillSplitNeeds_31 rfl (lv_at hl 2 rfl) ?_
            refine lv_isub X.1 X.2.1 dX5_fillSplitNeeds_32 ?_
            obtain ⟨S7, eS7, hf⟩ := si_ob hf
            refine si_ptI X hw si_cl5 6 (by decide) gf_RX5_58 rfl rfl rfl rfl rfl eS7 dX5_fillSplitNeeds_33 (fun H locs hw => ?_)
            refine lv_aload_n X.1 X.2.1 dX5_fillSplitNeeds_36 rfl (lv_at hl 0 rfl) ?_
            refine lv_iload_n X.1 X.2.1 dX5_fillSplitNeeds_37 rfl (lv_at hl 2 rfl) ?_
            obtain ⟨S8, eS8, hf⟩ := si_ob hf
            refine si_ptI X hw si_cl5 7 (by decide) gf_RX5_61 rfl rfl rfl rfl rfl eS8 dX5_fillSplitNeeds_38 (fun H locs hw => ?_)
            refine lv_iload_n X.1 X.2.1 dX5_fillSplitNeeds_41 rfl (lv_at hl 1 rfl) ?_
            refine lv_iconst (v := 1) X.1 X.2.1 dX5_fillSplitNeeds_42 (by decide) ?_
            refine lv_icmp_gt (tgt := 50) X.1 X.2.1 dX5_fillSplitNeeds_43 (by decide) (fun c43 => ?_) (fun c43 => ?_)
            · have hf := si_ip c43 hf
              refine lv_aload_n X.1 X.2.1 dX5_fillSplitNeeds_50 rfl (lv_at hl 0 rfl) ?_
              obtain ⟨q9, eq9, hf⟩ := si_ob hf
              refine si_cVi [] cal_X5_leastWorst gm_RX5_71 X hw hA hl.1 (c_X5_leastWorst l E F S8 q9 eq9) si_cl5 rfl ⟨⟨rfl, rfl⟩, Nat.le_of_ble_eq_true rfl, Nat.le_of_ble_eq_true rfl⟩ rfl rfl (Nat.le_of_ble_eq_true rfl) ⟨Nat.zero_le _, Nat.zero_le _⟩ dX5_fillSplitNeeds_51 (fun H locs hw => ?_)
              obtain ⟨q10, eq10, hf⟩ := si_ob hf
              refine si_cSi [.int q9.1] cal_X5_oneMore gm_RX5_75 X hw hA hl.1 (c_X5_oneMore l E F q9.1 q9.2 q10 eq10) ⟨⟨rfl, rfl⟩, Nat.le_of_ble_eq_true rfl, Nat.le_of_ble_eq_true rfl⟩ rfl rfl (Nat.le_of_ble_eq_true rfl) ⟨Nat.zero_le _, Nat.zero_le _⟩ dX5_fillSplitNeeds_54 (fun H locs hw => ?_)
              exact B57 _ _ _ _ _ _ _ hf hw (lv_sub hl [0, 1, 2] rfl)
            · have hf := si_in c43 hf
              refine lv_iconst (v := 0) X.1 X.2.1 dX5_fillSplitNeeds_46 (by decide) ?_
              refine lv_goto (tgt := 57) X.1 X.2.1 dX5_fillSplitNeeds_47 (by decide) ?_
              exact B57 _ _ _ _ _ _ _ hf hw (lv_sub hl [0, 1, 2] rfl)
      intro x1  S H locs ls hf hw hl
      have hf : f_X5_fillSplitNeeds_h12 F (f_X5_fillSplitNeeds_l12 F n12) x1 S = some o := hf
      unfold f_X5_fillSplitNeeds_h12 at hf
      refine lv_iload_n X.1 X.2.1 dX5_fillSplitNeeds_12 rfl (lv_at hl 1 rfl) ?_
      refine lv_aload_n X.1 X.2.1 dX5_fillSplitNeeds_13 rfl (lv_at hl 0 rfl) ?_
      refine si_getI X hw si_cl5 3 (by decide) gf_RX5_22 rfl rfl rfl dX5_fillSplitNeeds_14 ?_
      refine lv_icmp_gt (tgt := 106) X.1 X.2.1 dX5_fillSplitNeeds_17 (by decide) (fun c17 => ?_) (fun c17 => ?_)
      · have hf := si_ip c17 hf
        exact hret _ _ _ _ _ hf hw dX5_fillSplitNeeds_106
      · have hf := si_in c17 hf
        refine lv_iconst (v := 0) X.1 X.2.1 dX5_fillSplitNeeds_20 (by decide) ?_
        refine lv_istore_n (lv' := [(2, .int 0), (0, .ref (E.2.1 65)), (1, .int x1)]) X.1 X.2.1 dX5_fillSplitNeeds_21 rfl hl (by decide) rfl (fun ls hl => ?_)
        exact B22 F _ _ _ _ _ _ hf hw (lv_sub hl [1, 2, 0] rfl)
  unfold f_X5_fillSplitNeeds at hf
  refine lv_aload_n X.1 X.2.1 dX5_fillSplitNeeds_0 rfl (lv_at hl 0 rfl) ?_
  refine lv_iconst (v := 0) X.1 X.2.1 dX5_fillSplitNeeds_1 (by decide) ?_
  obtain ⟨S11, eS11, hf⟩ := si_ob hf
  refine si_ptZ X hw si_cl5 4 (by decide) gf_RX5_36 rfl rfl rfl rfl rfl eS11 dX5_fillSplitNeeds_2 (fun H locs hw => ?_)
  refine lv_aload_n X.1 X.2.1 dX5_fillSplitNeeds_5 rfl (lv_at hl 0 rfl) ?_
  refine lv_iconst (v := 0) X.1 X.2.1 dX5_fillSplitNeeds_6 (by decide) ?_
  obtain ⟨S12, eS12, hf⟩ := si_ob hf
  refine si_ptI X hw si_cl5 5 (by decide) gf_RX5_40 rfl rfl rfl rfl rfl eS12 dX5_fillSplitNeeds_7 (fun H locs hw => ?_)
  refine lv_iconst (v := 0) X.1 X.2.1 dX5_fillSplitNeeds_10 (by decide) ?_
  refine lv_istore_n (lv' := [(1, .int 0), (0, .ref (E.2.1 65))]) X.1 X.2.1 dX5_fillSplitNeeds_11 rfl hl (by decide) rfl (fun ls hl => ?_)
  exact B12 F _ _ _ _ _ hf hw (lv_sub hl [1, 0] rfl)
abbrev rm_X5_forgetNeeds : Room := { frames := 0, cells := 0, slots := 0, locals := 0 }
set_option maxHeartbeats 4000000 in
set_option maxRecDepth 100000 in
theorem c_X5_forgetNeeds (l : Launch) (E : si_Ev) (F : Nat) (S : si_St) (o : si_St) (hf : f_X5_forgetNeeds F S = some o) : si_Mv l E yX5_forgetNeeds cX5_forgetNeeds 2 rm_X5_forgetNeeds [.ref (E.2.1 65)] S o := by
  refine si_ofWv (plainFor_of_name (by decide +kernel)) (Nat.le_of_ble_eq_true rfl) ?_
  intro p e s m args below meth c ls Q A X hw hA hl hret
  have hl : lv_has ls 2 [(0, .ref (E.2.1 65))] := hl
  have B51 : ∀ (n51 : Nat) (x1 : Int32) (S : si_St) (H : Heap) (locs : List Loc) (ls : Array Slot), f_X5_forgetNeeds_l51 F n51 x1 S = some o → si_Ws E A s.heap S H locs → lv_has ls 2 [(0, .ref (E.2.1 65)), (1, .int x1)] → W p l e rm_X5_forgetNeeds s m args below meth c H locs 0 0 Q (F0 m 51 ls []) := by
    intro n51
    induction n51 with
    | zero => intro x1  S H locs ls hf; cases hf
    | succ n51 ih51 =>
      intro x1  S H locs ls hf hw hl
      have hf : f_X5_forgetNeeds_h51 F (f_X5_forgetNeeds_l51 F n51) x1 S = some o := hf
      unfold f_X5_forgetNeeds_h51 at hf
      refine lv_iload_n X.1 X.2.1 dX5_forgetNeeds_51 rfl (lv_at hl 1 rfl) ?_
      refine lv_aload_n X.1 X.2.1 dX5_forgetNeeds_52 rfl (lv_at hl 0 rfl) ?_
      refine si_getI X hw si_cl5 3 (by decide) gf_RX5_22 rfl rfl rfl dX5_forgetNeeds_53 ?_
      refine lv_iconst (v := 1) X.1 X.2.1 dX5_forgetNeeds_56 (by decide) ?_
      refine lv_iadd X.1 X.2.1 dX5_forgetNeeds_57 ?_
      refine lv_bipush (v := 13) X.1 X.2.1 dX5_forgetNeeds_58 (by decide) ?_
      refine lv_imul X.1 X.2.1 dX5_forgetNeeds_60 ?_
      refine lv_iconst (v := 2) X.1 X.2.1 dX5_forgetNeeds_61 (by decide) ?_
      refine lv_imul X.1 X.2.1 dX5_forgetNeeds_62 ?_
      refine lv_icmp_ge (tgt := 80) X.1 X.2.1 dX5_forgetNeeds_63 (by decide) (fun c63 => ?_) (fun c63 => ?_)
      · have hf := si_ip c63 hf
        exact hret _ _ _ _ _ hf hw dX5_forgetNeeds_80
      · have hf := si_in c63 hf
        refine lv_aload_n X.1 X.2.1 dX5_forgetNeeds_66 rfl (lv_at hl 0 rfl) ?_
        refine si_getR (k' := 68) (d := 3) X hw si_cl5 2 (by decide) gf_RX5_19 rfl rfl rfl (by decide) rfl dX5_forgetNeeds_67 ?_
        refine lv_iload_n X.1 X.2.1 dX5_forgetNeeds_70 rfl (lv_at hl 1 rfl) ?_
        refine lv_bipush (v := 99) X.1 X.2.1 dX5_forgetNeeds_71 (by decide) ?_
        obtain ⟨S1, eS1, hf⟩ := si_ob hf
        refine si_iast X hw rfl eS1 dX5_forgetNeeds_73 (fun H locs hw => ?_)
        obtain ⟨v2, ev2, hf⟩ := si_ob hf
        refine lv_iinc (v := v2) (lv' := [(1, .int v2), (0, .ref (E.2.1 65))]) X.1 X.2.1 dX5_forgetNeeds_74 hl (k := 1) rfl (Option.some.inj ev2) (by decide) rfl (fun ls hl => ?_)
        refine lv_goto (tgt := 51) X.1 X.2.1 dX5_forgetNeeds_77 (by decide) ?_
        exact ih51 _ _ _ _ _ hf hw (lv_sub hl [1, 0] rfl)
  have B11 : ∀ (n11 : Nat) (x1 : Int32) (S : si_St) (H : Heap) (locs : List Loc) (ls : Array Slot), f_X5_forgetNeeds_l11 F n11 x1 S = some o → si_Ws E A s.heap S H locs → lv_has ls 2 [(0, .ref (E.2.1 65)), (1, .int x1)] → W p l e rm_X5_forgetNeeds s m args below meth c H locs 0 0 Q (F0 m 11 ls []) := by
    intro n11
    induction n11 with
    | zero => intro x1  S H locs ls hf; cases hf
    | succ n11 ih11 =>
      intro x1  S H locs ls hf hw hl
      have hf : f_X5_forgetNeeds_h11 F (f_X5_forgetNeeds_l11 F n11) x1 S = some o := hf
      unfold f_X5_forgetNeeds_h11 at hf
      refine lv_iload_n X.1 X.2.1 dX5_forgetNeeds_11 rfl (lv_at hl 1 rfl) ?_
      refine lv_aload_n X.1 X.2.1 dX5_forgetNeeds_12 rfl (lv_at hl 0 rfl) ?_
      refine si_getI X hw si_cl5 3 (by decide) gf_RX5_22 rfl rfl rfl dX5_forgetNeeds_13 ?_
      refine lv_iconst (v := 1) X.1 X.2.1 dX5_forgetNeeds_16 (by decide) ?_
      refine lv_iadd X.1 X.2.1 dX5_forgetNeeds_17 ?_
      refine lv_bipush (v := 13) X.1 X.2.1 dX5_forgetNeeds_18 (by decide) ?_
      refine lv_imul X.1 X.2.1 dX5_forgetNeeds_20 ?_
      refine lv_bipush (v := 13) X.1 X.2.1 dX5_forgetNeeds_21 (by decide) ?_
      refine lv_imul X.1 X.2.1 dX5_forgetNeeds_23 ?_
      refine lv_icmp_ge (tgt := 41) X.1 X.2.1 dX5_forgetNeeds_24 (by decide) (fun c24 => ?_) (fun c24 => ?_)
      · have hf := si_ip c24 hf
        refine lv_aload_n X.1 X.2.1 dX5_forgetNeeds_41 rfl (lv_at hl 0 rfl) ?_
        refine si_getI X hw si_cl5 3 (by decide) gf_RX5_22 rfl rfl rfl dX5_forgetNeeds_42 ?_
        refine lv_bipush (v := 13) X.1 X.2.1 dX5_forgetNeeds_45 (by decide) ?_
        refine lv_imul X.1 X.2.1 dX5_forgetNeeds_47 ?_
        refine lv_iconst (v := 2) X.1 X.2.1 dX5_forgetNeeds_48 (by decide) ?_
        refine lv_imul X.1 X.2.1 dX5_forgetNeeds_49 ?_
        obtain ⟨v3, ev3, hf⟩ := si_ob hf
        refine si_nmI ev3 ?_
        refine lv_istore_n (lv' := [(1, .int v3), (0, .ref (E.2.1 65))]) X.1 X.2.1 dX5_forgetNeeds_50 rfl hl (by decide) rfl (fun ls hl => ?_)
        exact B51 F _ _ _ _ _ hf hw (lv_sub hl [1, 0] rfl)
      · have hf := si_in c24 hf
        refine lv_aload_n X.1 X.2.1 dX5_forgetNeeds_27 rfl (lv_at hl 0 rfl) ?_
        refine si_getR (k' := 67) (d := 2) X hw si_cl5 1 (by decide) gf_RX5_15 rfl rfl rfl (by decide) rfl dX5_forgetNeeds_28 ?_
        refine lv_iload_n X.1 X.2.1 dX5_forgetNeeds_31 rfl (lv_at hl 1 rfl) ?_
        refine lv_bipush (v := 99) X.1 X.2.1 dX5_forgetNeeds_32 (by decide) ?_
        obtain ⟨S4, eS4, hf⟩ := si_ob hf
        refine si_iast X hw rfl eS4 dX5_forgetNeeds_34 (fun H locs hw => ?_)
        obtain ⟨v5, ev5, hf⟩ := si_ob hf
        refine lv_iinc (v := v5) (lv' := [(1, .int v5), (0, .ref (E.2.1 65))]) X.1 X.2.1 dX5_forgetNeeds_35 hl (k := 1) rfl (Option.some.inj ev5) (by decide) rfl (fun ls hl => ?_)
        refine lv_goto (tgt := 11) X.1 X.2.1 dX5_forgetNeeds_38 (by decide) ?_
        exact ih11 _ _ _ _ _ hf hw (lv_sub hl [1, 0] rfl)
  unfold f_X5_forgetNeeds at hf
  refine lv_aload_n X.1 X.2.1 dX5_forgetNeeds_0 rfl (lv_at hl 0 rfl) ?_
  refine si_getI X hw si_cl5 3 (by decide) gf_RX5_22 rfl rfl rfl dX5_forgetNeeds_1 ?_
  refine lv_bipush (v := 13) X.1 X.2.1 dX5_forgetNeeds_4 (by decide) ?_
  refine lv_imul X.1 X.2.1 dX5_forgetNeeds_6 ?_
  refine lv_bipush (v := 13) X.1 X.2.1 dX5_forgetNeeds_7 (by decide) ?_
  refine lv_imul X.1 X.2.1 dX5_forgetNeeds_9 ?_
  obtain ⟨v6, ev6, hf⟩ := si_ob hf
  refine si_nmI ev6 ?_
  refine lv_istore_n (lv' := [(1, .int v6), (0, .ref (E.2.1 65))]) X.1 X.2.1 dX5_forgetNeeds_10 rfl hl (by decide) rfl (fun ls hl => ?_)
  exact B11 F _ _ _ _ _ hf hw (lv_sub hl [1, 0] rfl)
abbrev rm_X5_needed : Room := { frames := 1, cells := 0, slots := 0, locals := 22 }
set_option maxHeartbeats 4000000 in
set_option maxRecDepth 100000 in
theorem c_X5_needed (l : Launch) (E : si_Ev) (F : Nat) (S : si_St) (o : Int32 × si_St) (hf : f_X5_needed F S = some o) : si_Mi l E yX5_needed cX5_needed 1 (some .int) rm_X5_needed [.ref (E.2.1 65)] S o := by
  refine si_ofWi (plainFor_of_name (by decide +kernel)) (Nat.le_of_ble_eq_true rfl) ?_
  intro p e s m args below meth c ls Q A X hw hA hl hret
  have hl : lv_has ls 1 [(0, .ref (E.2.1 65))] := hl
  have B40 : ∀ (t0 : Int32) (S : si_St) (H : Heap) (locs : List Loc) (ls : Array Slot), f_X5_needed_h40 F t0 S = some o → si_Ws E A s.heap S H locs → lv_has ls 1 [] → W p l e rm_X5_needed s m args below meth c H locs 0 0 Q (F0 m 40 ls [.int t0]) := by
    intro t0  S H locs ls hf hw hl
    unfold f_X5_needed_h40 at hf
    exact hret _ _ _ _ _ _ hf hw dX5_needed_40
  unfold f_X5_needed at hf
  refine lv_aload_n X.1 X.2.1 dX5_needed_0 rfl (lv_at hl 0 rfl) ?_
  refine si_getI X hw si_cl5 4 (by decide) gf_RX5_36 rfl rfl rfl dX5_needed_1 ?_
  refine lv_if_eq (tgt := 23) X.1 X.2.1 dX5_needed_4 (by decide) (fun c4 => ?_) (fun c4 => ?_)
  · have hf := si_ip c4 hf
    refine lv_aload_n X.1 X.2.1 dX5_needed_23 rfl (lv_at hl 0 rfl) ?_
    refine si_getR (k' := 67) (d := 2) X hw si_cl5 1 (by decide) gf_RX5_15 rfl rfl rfl (by decide) rfl dX5_needed_24 ?_
    refine lv_aload_n X.1 X.2.1 dX5_needed_27 rfl (lv_at hl 0 rfl) ?_
    refine lv_aload_n X.1 X.2.1 dX5_needed_28 rfl (lv_at hl 0 rfl) ?_
    refine si_getI X hw si_cl5 6 (by decide) gf_RX5_58 rfl rfl rfl dX5_needed_29 ?_
    refine lv_aload_n X.1 X.2.1 dX5_needed_32 rfl (lv_at hl 0 rfl) ?_
    refine si_getI X hw si_cl5 7 (by decide) gf_RX5_61 rfl rfl rfl dX5_needed_33 ?_
    obtain ⟨q1, eq1, hf⟩ := si_ob hf
    refine si_cVi [.int (S.1 65 6), .int (S.1 65 7)] cal_X5_splitAt gm_RX5_67 X hw hA hl.1 (c_X5_splitAt l E F (S.1 65 6) (S.1 65 7) S q1 eq1) si_cl5 rfl ⟨⟨rfl, rfl⟩, Nat.le_of_ble_eq_true rfl, Nat.le_of_ble_eq_true rfl⟩ rfl rfl (Nat.le_of_ble_eq_true rfl) ⟨Nat.zero_le _, Nat.zero_le _⟩ dX5_needed_36 (fun H locs hw => ?_)
    obtain ⟨v2, ev2, hf⟩ := si_ob hf
    refine si_iald X hw rfl ev2 dX5_needed_39 ?_
    exact B40 _ _ _ _ _ hf hw (lv_sub hl [] rfl)
  · have hf := si_in c4 hf
    refine lv_aload_n X.1 X.2.1 dX5_needed_7 rfl (lv_at hl 0 rfl) ?_
    refine si_getR (k' := 68) (d := 3) X hw si_cl5 2 (by decide) gf_RX5_19 rfl rfl rfl (by decide) rfl dX5_needed_8 ?_
    refine lv_aload_n X.1 X.2.1 dX5_needed_11 rfl (lv_at hl 0 rfl) ?_
    refine lv_aload_n X.1 X.2.1 dX5_needed_12 rfl (lv_at hl 0 rfl) ?_
    refine si_getI X hw si_cl5 6 (by decide) gf_RX5_58 rfl rfl rfl dX5_needed_13 ?_
    obtain ⟨q3, eq3, hf⟩ := si_ob hf
    refine si_cVi [.int (S.1 65 6)] cal_X5_mixedAt gm_RX5_64 X hw hA hl.1 (c_X5_mixedAt l E F (S.1 65 6) S q3 eq3) si_cl5 rfl ⟨⟨rfl, rfl⟩, Nat.le_of_ble_eq_true rfl, Nat.le_of_ble_eq_true rfl⟩ rfl rfl (Nat.le_of_ble_eq_true rfl) ⟨Nat.zero_le _, Nat.zero_le _⟩ dX5_needed_16 (fun H locs hw => ?_)
    obtain ⟨v4, ev4, hf⟩ := si_ob hf
    refine si_iald X hw rfl ev4 dX5_needed_19 ?_
    refine lv_goto (tgt := 40) X.1 X.2.1 dX5_needed_20 (by decide) ?_
    exact B40 _ _ _ _ _ hf hw (lv_sub hl [] rfl)
abbrev rm_X5_choose : Room := { frames := 4, cells := 0, slots := 0, locals := 99 }
set_option maxHeartbeats 4000000 in
set_option maxRecDepth 100000 in
theorem c_X5_choose (l : Launch) (E : si_Ev) (F : Nat) (x1 : Int32) (x2 : Int32) (x3 : Int32) (x4 : Int32) (S : si_St) (o : si_St) (hf : f_X5_choose F x1 x2 x3 x4 S = some o) : si_Mv l E yX5_choose cX5_choose 5 rm_X5_choose [.ref (E.2.1 65), .int x1, .int x2, .int x3, .int x4] S o := by
  refine si_ofWv (plainFor_of_name (by decide +kernel)) (Nat.le_of_ble_eq_true rfl) ?_
  intro p e s m args below meth c ls Q A X hw hA hl hret
  have hl : lv_has ls 5 [(0, .ref (E.2.1 65)), (1, .int x1), (2, .int x2), (3, .int x3), (4, .int x4)] := hl
  have B84 : ∀ (x2 : Int32) (x3 : Int32) (t0 : Int32) (S : si_St) (H : Heap) (locs : List Loc) (ls : Array Slot), f_X5_choose_h84 F x2 x3 t0 S = some o → si_Ws E A s.heap S H locs → lv_has ls 5 [(0, .ref (E.2.1 65)), (2, .int x2), (3, .int x3)] → W p l e rm_X5_choose s m args below meth c H locs 0 0 Q (F0 m 84 ls [.int t0, .ref (E.2.1 65)]) := by
    intro x2 x3 t0  S H locs ls hf hw hl
    unfold f_X5_choose_h84 at hf
    obtain ⟨S1, eS1, hf⟩ := si_ob hf
    refine si_ptI X hw si_cl5 9 (by decide) gf_RX5_46 rfl rfl rfl rfl rfl eS1 dX5_choose_84 (fun H locs hw => ?_)
    refine lv_aload_n X.1 X.2.1 dX5_choose_87 rfl (lv_at hl 0 rfl) ?_
    refine lv_iconst (v := 1) X.1 X.2.1 dX5_choose_88 (by decide) ?_
    refine lv_aload_n X.1 X.2.1 dX5_choose_89 rfl (lv_at hl 0 rfl) ?_
    refine si_getI X hw si_cl5 3 (by decide) gf_RX5_22 rfl rfl rfl dX5_choose_90 ?_
    refine lv_ishl X.1 X.2.1 dX5_choose_93 ?_
    refine lv_iconst (v := 1) X.1 X.2.1 dX5_choose_94 (by decide) ?_
    refine lv_isub X.1 X.2.1 dX5_choose_95 ?_
    refine lv_iload_n X.1 X.2.1 dX5_choose_96 rfl (lv_at hl 1 rfl) ?_
    refine lv_iload_n X.1 X.2.1 dX5_choose_97 rfl (lv_at hl 2 rfl) ?_
    refine lv_ior X.1 X.2.1 dX5_choose_98 ?_
    refine lv_iconst (v := (-1)) X.1 X.2.1 dX5_choose_99 (by decide) ?_
    refine lv_ixor X.1 X.2.1 dX5_choose_100 ?_
    refine lv_iand X.1 X.2.1 dX5_choose_101 ?_
    obtain ⟨S2, eS2, hf⟩ := si_ob hf
    refine si_ptI X hw si_cl5 10 (by decide) gf_RX5_49 rfl rfl rfl rfl rfl eS2 dX5_choose_102 (fun H locs hw => ?_)
    refine lv_aload_n X.1 X.2.1 dX5_choose_105 rfl (lv_at hl 0 rfl) ?_
    refine lv_aload_n X.1 X.2.1 dX5_choose_106 rfl (lv_at hl 0 rfl) ?_
    refine si_getI X hw si_cl5 8 (by decide) gf_RX5_43 rfl rfl rfl dX5_choose_107 ?_
    obtain ⟨q3, eq3, hf⟩ := si_ob hf
    refine si_cSi [.int (S2.1 65 8)] cal_J6_bitCount_0f7a4 gm_RX5_52 X hw hA hl.1 (c_J6_bitCount_0f7a4 l E F (S2.1 65 8) S2 q3 eq3) ⟨⟨rfl, rfl⟩, Nat.le_of_ble_eq_true rfl, Nat.le_of_ble_eq_true rfl⟩ rfl rfl (Nat.le_of_ble_eq_true rfl) ⟨Nat.zero_le _, Nat.zero_le _⟩ dX5_choose_110 (fun H locs hw => ?_)
    obtain ⟨S4, eS4, hf⟩ := si_ob hf
    refine si_ptI X hw si_cl5 6 (by decide) gf_RX5_58 rfl rfl rfl rfl rfl eS4 dX5_choose_113 (fun H locs hw => ?_)
    refine lv_aload_n X.1 X.2.1 dX5_choose_116 rfl (lv_at hl 0 rfl) ?_
    refine lv_aload_n X.1 X.2.1 dX5_choose_117 rfl (lv_at hl 0 rfl) ?_
    refine si_getI X hw si_cl5 9 (by decide) gf_RX5_46 rfl rfl rfl dX5_choose_118 ?_
    obtain ⟨q5, eq5, hf⟩ := si_ob hf
    refine si_cSi [.int (S4.1 65 9)] cal_J6_bitCount_0f7a4 gm_RX5_52 X hw hA hl.1 (c_J6_bitCount_0f7a4 l E F (S4.1 65 9) S4 q5 eq5) ⟨⟨rfl, rfl⟩, Nat.le_of_ble_eq_true rfl, Nat.le_of_ble_eq_true rfl⟩ rfl rfl (Nat.le_of_ble_eq_true rfl) ⟨Nat.zero_le _, Nat.zero_le _⟩ dX5_choose_121 (fun H locs hw => ?_)
    obtain ⟨S6, eS6, hf⟩ := si_ob hf
    refine si_ptI X hw si_cl5 7 (by decide) gf_RX5_61 rfl rfl rfl rfl rfl eS6 dX5_choose_124 (fun H locs hw => ?_)
    exact hret _ _ _ _ _ hf hw dX5_choose_127
  have B57 : ∀ (x2 : Int32) (x3 : Int32) (x4 : Int32) (t0 : Int32) (S : si_St) (H : Heap) (locs : List Loc) (ls : Array Slot), f_X5_choose_h57 F x2 x3 x4 t0 S = some o → si_Ws E A s.heap S H locs → lv_has ls 5 [(0, .ref (E.2.1 65)), (2, .int x2), (3, .int x3), (4, .int x4)] → W p l e rm_X5_choose s m args below meth c H locs 0 0 Q (F0 m 57 ls [.int t0, .ref (E.2.1 65)]) := by
    intro x2 x3 x4 t0  S H locs ls hf hw hl
    unfold f_X5_choose_h57 at hf
    obtain ⟨S7, eS7, hf⟩ := si_ob hf
    refine si_ptZ X hw si_cl5 4 (by decide) gf_RX5_36 rfl rfl rfl rfl rfl eS7 dX5_choose_57 (fun H locs hw => ?_)
    refine lv_aload_n X.1 X.2.1 dX5_choose_60 rfl (lv_at hl 0 rfl) ?_
    refine lv_iload X.1 X.2.1 dX5_choose_61 (lv_at hl 3 rfl) ?_
    obtain ⟨S8, eS8, hf⟩ := si_ob hf
    refine si_ptI X hw si_cl5 5 (by decide) gf_RX5_40 rfl rfl rfl rfl rfl eS8 dX5_choose_63 (fun H locs hw => ?_)
    refine lv_aload_n X.1 X.2.1 dX5_choose_66 rfl (lv_at hl 0 rfl) ?_
    refine lv_iload_n X.1 X.2.1 dX5_choose_67 rfl (lv_at hl 1 rfl) ?_
    obtain ⟨S9, eS9, hf⟩ := si_ob hf
    refine si_ptI X hw si_cl5 8 (by decide) gf_RX5_43 rfl rfl rfl rfl rfl eS9 dX5_choose_68 (fun H locs hw => ?_)
    refine lv_aload_n X.1 X.2.1 dX5_choose_71 rfl (lv_at hl 0 rfl) ?_
    refine lv_aload_n X.1 X.2.1 dX5_choose_72 rfl (lv_at hl 0 rfl) ?_
    refine si_getI X hw si_cl5 4 (by decide) gf_RX5_36 rfl rfl rfl dX5_choose_73 ?_
    refine lv_if_eq (tgt := 83) X.1 X.2.1 dX5_choose_76 (by decide) (fun c76 => ?_) (fun c76 => ?_)
    · have hf := si_ip c76 hf
      refine lv_iload_n X.1 X.2.1 dX5_choose_83 rfl (lv_at hl 2 rfl) ?_
      exact B84 _ _ _ _ _ _ _ hf hw (lv_sub hl [0, 1, 2] rfl)
    · have hf := si_in c76 hf
      refine lv_iconst (v := 0) X.1 X.2.1 dX5_choose_79 (by decide) ?_
      refine lv_goto (tgt := 84) X.1 X.2.1 dX5_choose_80 (by decide) ?_
      exact B84 _ _ _ _ _ _ _ hf hw (lv_sub hl [0, 1, 2] rfl)
  have B45 : ∀ (x2 : Int32) (x3 : Int32) (x4 : Int32) (S : si_St) (H : Heap) (locs : List Loc) (ls : Array Slot), f_X5_choose_h45 F x2 x3 x4 S = some o → si_Ws E A s.heap S H locs → lv_has ls 5 [(0, .ref (E.2.1 65)), (2, .int x2), (3, .int x3), (4, .int x4)] → W p l e rm_X5_choose s m args below meth c H locs 0 0 Q (F0 m 45 ls []) := by
    intro x2 x3 x4  S H locs ls hf hw hl
    unfold f_X5_choose_h45 at hf
    refine lv_aload_n X.1 X.2.1 dX5_choose_45 rfl (lv_at hl 0 rfl) ?_
    refine lv_iload_n X.1 X.2.1 dX5_choose_46 rfl (lv_at hl 1 rfl) ?_
    refine lv_iload_n X.1 X.2.1 dX5_choose_47 rfl (lv_at hl 2 rfl) ?_
    refine lv_iand X.1 X.2.1 dX5_choose_48 ?_
    refine lv_if_eq (tgt := 56) X.1 X.2.1 dX5_choose_49 (by decide) (fun c49 => ?_) (fun c49 => ?_)
    · have hf := si_ip c49 hf
      refine lv_iconst (v := 0) X.1 X.2.1 dX5_choose_56 (by decide) ?_
      exact B57 _ _ _ _ _ _ _ _ hf hw (lv_sub hl [0, 1, 2, 3] rfl)
    · have hf := si_in c49 hf
      refine lv_iconst (v := 1) X.1 X.2.1 dX5_choose_52 (by decide) ?_
      refine lv_goto (tgt := 57) X.1 X.2.1 dX5_choose_53 (by decide) ?_
      exact B57 _ _ _ _ _ _ _ _ hf hw (lv_sub hl [0, 1, 2, 3] rfl)
  unfold f_X5_choose at hf
  refine lv_aload_n X.1 X.2.1 dX5_choose_0 rfl (lv_at hl 0 rfl) ?_
  refine lv_iload_n X.1 X.2.1 dX5_choose_1 rfl (lv_at hl 1 rfl) ?_
  obtain ⟨S10, eS10, hf⟩ := si_ob hf
  refine si_ptI X hw si_cl5 3 (by decide) gf_RX5_22 rfl rfl rfl rfl rfl eS10 dX5_choose_2 (fun H locs hw => ?_)
  refine lv_aload_n X.1 X.2.1 dX5_choose_5 rfl (lv_at hl 0 rfl) ?_
  refine si_getR (k' := 66) (d := 1) X hw si_cl5 0 (by decide) gf_RX5_11 rfl rfl rfl (by decide) rfl dX5_choose_6 ?_
  refine lv_aload_n X.1 X.2.1 dX5_choose_9 rfl (lv_at hl 0 rfl) ?_
  refine si_getI X hw si_cl5 3 (by decide) gf_RX5_22 rfl rfl rfl dX5_choose_10 ?_
  obtain ⟨v11, ev11, hf⟩ := si_ob hf
  refine si_zald X hw rfl ev11 dX5_choose_13 ?_
  refine lv_if_ne (tgt := 45) X.1 X.2.1 dX5_choose_14 (by decide) (fun c14 => ?_) (fun c14 => ?_)
  · have hf := si_in c14 hf
    exact B45 _ _ _ _ _ _ _ hf hw (lv_sub hl [0, 2, 3, 4] rfl)
  · have hf := si_ip c14 hf
    refine lv_aload_n X.1 X.2.1 dX5_choose_17 rfl (lv_at hl 0 rfl) ?_
    obtain ⟨S12, eS12, hf⟩ := si_ob hf
    refine si_cVv [] cal_X5_forgetNeeds gm_RX5_26 X hw hA hl.1 (c_X5_forgetNeeds l E F S10 S12 eS12) si_cl5 rfl ⟨⟨rfl, rfl⟩, Nat.le_of_ble_eq_true rfl, Nat.le_of_ble_eq_true rfl⟩ rfl rfl (Nat.le_of_ble_eq_true rfl) ⟨Nat.zero_le _, Nat.zero_le _⟩ dX5_choose_18 (fun H locs hw => ?_)
    refine lv_aload_n X.1 X.2.1 dX5_choose_21 rfl (lv_at hl 0 rfl) ?_
    obtain ⟨S13, eS13, hf⟩ := si_ob hf
    refine si_cVv [] cal_X5_fillSplitNeeds gm_RX5_29 X hw hA hl.1 (c_X5_fillSplitNeeds l E F S12 S13 eS13) si_cl5 rfl ⟨⟨rfl, rfl⟩, Nat.le_of_ble_eq_true rfl, Nat.le_of_ble_eq_true rfl⟩ rfl rfl (Nat.le_of_ble_eq_true rfl) ⟨Nat.zero_le _, Nat.zero_le _⟩ dX5_choose_22 (fun H locs hw => ?_)
    refine lv_aload_n X.1 X.2.1 dX5_choose_25 rfl (lv_at hl 0 rfl) ?_
    refine lv_iconst (v := 0) X.1 X.2.1 dX5_choose_26 (by decide) ?_
    obtain ⟨S14, eS14, hf⟩ := si_ob hf
    refine si_cVv [.int 0] cal_X5_fillMixedNeeds gm_RX5_32 X hw hA hl.1 (c_X5_fillMixedNeeds l E F 0 S13 S14 eS14) si_cl5 rfl ⟨⟨rfl, rfl⟩, Nat.le_of_ble_eq_true rfl, Nat.le_of_ble_eq_true rfl⟩ rfl rfl (Nat.le_of_ble_eq_true rfl) ⟨Nat.zero_le _, Nat.zero_le _⟩ dX5_choose_27 (fun H locs hw => ?_)
    refine lv_aload_n X.1 X.2.1 dX5_choose_30 rfl (lv_at hl 0 rfl) ?_
    refine lv_iconst (v := 1) X.1 X.2.1 dX5_choose_31 (by decide) ?_
    obtain ⟨S15, eS15, hf⟩ := si_ob hf
    refine si_cVv [.int 1] cal_X5_fillMixedNeeds gm_RX5_32 X hw hA hl.1 (c_X5_fillMixedNeeds l E F 1 S14 S15 eS15) si_cl5 rfl ⟨⟨rfl, rfl⟩, Nat.le_of_ble_eq_true rfl, Nat.le_of_ble_eq_true rfl⟩ rfl rfl (Nat.le_of_ble_eq_true rfl) ⟨Nat.zero_le _, Nat.zero_le _⟩ dX5_choose_32 (fun H locs hw => ?_)
    refine lv_aload_n X.1 X.2.1 dX5_choose_35 rfl (lv_at hl 0 rfl) ?_
    refine si_getR (k' := 66) (d := 1) X hw si_cl5 0 (by decide) gf_RX5_11 rfl rfl rfl (by decide) rfl dX5_choose_36 ?_
    refine lv_aload_n X.1 X.2.1 dX5_choose_39 rfl (lv_at hl 0 rfl) ?_
    refine si_getI X hw si_cl5 3 (by decide) gf_RX5_22 rfl rfl rfl dX5_choose_40 ?_
    refine lv_iconst (v := 1) X.1 X.2.1 dX5_choose_43 (by decide) ?_
    obtain ⟨S16, eS16, hf⟩ := si_ob hf
    refine si_wzst X hw rfl eS16 dX5_choose_44 (fun H locs hw => ?_)
    exact B45 _ _ _ _ _ _ _ hf hw (lv_sub hl [0, 2, 3, 4] rfl)
abbrev rm_X5_lowestWeighing : Room := { frames := 1, cells := 0, slots := 0, locals := 23 }
set_option maxHeartbeats 4000000 in
set_option maxRecDepth 100000 in
theorem c_X5_lowestWeighing (l : Launch) (E : si_Ev) (F : Nat) (x1 : Int32) (x2 : Int32) (x3 : Int32) (x4 : Int32) (S : si_St) (o : Int32 × si_St) (hf : f_X5_lowestWeighing F x1 x2 x3 x4 S = some o) : si_Mi l E yX5_lowestWeighing cX5_lowestWeighing 9 (some .int) rm_X5_lowestWeighing [.ref (E.2.1 65), .int x1, .int x2, .int x3, .int x4] S o := by
  refine si_ofWi (plainFor_of_name (by decide +kernel)) (Nat.le_of_ble_eq_true rfl) ?_
  intro p e s m args below meth c ls Q A X hw hA hl hret
  have hl : lv_has ls 9 [(0, .ref (E.2.1 65)), (1, .int x1), (2, .int x2), (3, .int x3), (4, .int x4)] := hl
  unfold f_X5_lowestWeighing at hf
  refine lv_iload_n X.1 X.2.1 dX5_lowestWeighing_0 rfl (lv_at hl 1 rfl) ?_
  refine lv_iload_n X.1 X.2.1 dX5_lowestWeighing_1 rfl (lv_at hl 3 rfl) ?_
  refine lv_iadd X.1 X.2.1 dX5_lowestWeighing_2 ?_
  refine lv_iload_n X.1 X.2.1 dX5_lowestWeighing_3 rfl (lv_at hl 2 rfl) ?_
  refine lv_isub X.1 X.2.1 dX5_lowestWeighing_4 ?_
  refine lv_iload X.1 X.2.1 dX5_lowestWeighing_5 (lv_at hl 4 rfl) ?_
  refine lv_isub X.1 X.2.1 dX5_lowestWeighing_7 ?_
  obtain ⟨v1, ev1, hf⟩ := si_ob hf
  refine si_nmI ev1 ?_
  refine lv_istore (lv' := [(5, .int v1), (0, .ref (E.2.1 65)), (1, .int x1), (2, .int x2), (3, .int x3), (4, .int x4)]) X.1 X.2.1 dX5_lowestWeighing_8 hl (by decide) rfl (fun ls hl => ?_)
  refine lv_iload X.1 X.2.1 dX5_lowestWeighing_10 (lv_at hl 0 rfl) ?_
  refine si_mabs hl.1 X (Nat.le_of_ble_eq_true rfl) (Nat.le_of_ble_eq_true rfl) gm_RX5_78 ⟨Nat.zero_le _, Nat.zero_le _⟩ dX5_lowestWeighing_12 ?_
  refine lv_aload_n X.1 X.2.1 dX5_lowestWeighing_15 rfl (lv_at hl 1 rfl) ?_
  refine si_getI X hw si_cl5 10 (by decide) gf_RX5_49 rfl rfl rfl dX5_lowestWeighing_16 ?_
  obtain ⟨q2, eq2, hf⟩ := si_ob hf
  refine si_cSi [.int (S.1 65 10)] cal_J6_bitCount_0f7a4 gm_RX5_52 X hw hA hl.1 (c_J6_bitCount_0f7a4 l E F (S.1 65 10) S q2 eq2) ⟨⟨rfl, rfl⟩, Nat.le_of_ble_eq_true rfl, Nat.le_of_ble_eq_true rfl⟩ rfl rfl (Nat.le_of_ble_eq_true rfl) ⟨Nat.zero_le _, Nat.zero_le _⟩ dX5_lowestWeighing_19 (fun H locs hw => ?_)
  refine lv_icmp_le (tgt := 28) X.1 X.2.1 dX5_lowestWeighing_22 (by decide) (fun c22 => ?_) (fun c22 => ?_)
  · have hf := si_ip c22 hf
    refine lv_aload_n X.1 X.2.1 dX5_lowestWeighing_28 rfl (lv_at hl 1 rfl) ?_
    refine si_getI X hw si_cl5 8 (by decide) gf_RX5_43 rfl rfl rfl dX5_lowestWeighing_29 ?_
    refine lv_iload_n X.1 X.2.1 dX5_lowestWeighing_32 rfl (lv_at hl 2 rfl) ?_
    obtain ⟨q3, eq3, hf⟩ := si_ob hf
    refine si_cSi [.int (q2.2.1 65 8), .int x1] cal_X5_lowest gm_RX5_100 X hw hA hl.1 (c_X5_lowest l E F (q2.2.1 65 8) x1 q2.2 q3 eq3) ⟨⟨rfl, rfl⟩, Nat.le_of_ble_eq_true rfl, Nat.le_of_ble_eq_true rfl⟩ rfl rfl (Nat.le_of_ble_eq_true rfl) ⟨Nat.zero_le _, Nat.zero_le _⟩ dX5_lowestWeighing_33 (fun H locs hw => ?_)
    refine lv_aload_n X.1 X.2.1 dX5_lowestWeighing_36 rfl (lv_at hl 1 rfl) ?_
    refine si_getI X hw si_cl5 9 (by decide) gf_RX5_46 rfl rfl rfl dX5_lowestWeighing_37 ?_
    refine lv_iload_n X.1 X.2.1 dX5_lowestWeighing_40 rfl (lv_at hl 4 rfl) ?_
    obtain ⟨q4, eq4, hf⟩ := si_ob hf
    refine si_cSi [.int (q3.2.1 65 9), .int x3] cal_X5_lowest gm_RX5_100 X hw hA hl.1 (c_X5_lowest l E F (q3.2.1 65 9) x3 q3.2 q4 eq4) ⟨⟨rfl, rfl⟩, Nat.le_of_ble_eq_true rfl, Nat.le_of_ble_eq_true rfl⟩ rfl rfl (Nat.le_of_ble_eq_true rfl) ⟨Nat.zero_le _, Nat.zero_le _⟩ dX5_lowestWeighing_41 (fun H locs hw => ?_)
    refine lv_ior X.1 X.2.1 dX5_lowestWeighing_44 ?_
    refine lv_aload_n X.1 X.2.1 dX5_lowestWeighing_45 rfl (lv_at hl 1 rfl) ?_
    refine si_getI X hw si_cl5 10 (by decide) gf_RX5_49 rfl rfl rfl dX5_lowestWeighing_46 ?_
    refine lv_iload X.1 X.2.1 dX5_lowestWeighing_49 (lv_at hl 0 rfl) ?_
    refine lv_ineg X.1 X.2.1 dX5_lowestWeighing_51 ?_
    refine lv_iconst (v := 0) X.1 X.2.1 dX5_lowestWeighing_52 (by decide) ?_
    refine si_mmax hl.1 X (Nat.le_of_ble_eq_true rfl) (Nat.le_of_ble_eq_true rfl) gm_RX5_90 ⟨Nat.zero_le _, Nat.zero_le _⟩ dX5_lowestWeighing_53 ?_
    obtain ⟨q5, eq5, hf⟩ := si_ob hf
    refine si_cSi [.int (q4.2.1 65 10), .int (si_max (-v1) 0)] cal_X5_lowest gm_RX5_100 X hw hA hl.1 (c_X5_lowest l E F (q4.2.1 65 10) (si_max (-v1) 0) q4.2 q5 eq5) ⟨⟨rfl, rfl⟩, Nat.le_of_ble_eq_true rfl, Nat.le_of_ble_eq_true rfl⟩ rfl rfl (Nat.le_of_ble_eq_true rfl) ⟨Nat.zero_le _, Nat.zero_le _⟩ dX5_lowestWeighing_56 (fun H locs hw => ?_)
    refine lv_ior X.1 X.2.1 dX5_lowestWeighing_59 ?_
    obtain ⟨v6, ev6, hf⟩ := si_ob hf
    refine si_nmI ev6 ?_
    refine lv_istore (lv' := [(6, .int v6), (5, .int v1), (0, .ref (E.2.1 65)), (1, .int x1), (2, .int x2), (3, .int x3), (4, .int x4)]) X.1 X.2.1 dX5_lowestWeighing_60 hl (by decide) rfl (fun ls hl => ?_)
    refine lv_aload_n X.1 X.2.1 dX5_lowestWeighing_62 rfl (lv_at hl 2 rfl) ?_
    refine si_getI X hw si_cl5 8 (by decide) gf_RX5_43 rfl rfl rfl dX5_lowestWeighing_63 ?_
    refine lv_iload X.1 X.2.1 dX5_lowestWeighing_66 (lv_at hl 0 rfl) ?_
    refine lv_iconst (v := (-1)) X.1 X.2.1 dX5_lowestWeighing_68 (by decide) ?_
    refine lv_ixor X.1 X.2.1 dX5_lowestWeighing_69 ?_
    refine lv_iand X.1 X.2.1 dX5_lowestWeighing_70 ?_
    refine lv_iload_n X.1 X.2.1 dX5_lowestWeighing_71 rfl (lv_at hl 4 rfl) ?_
    obtain ⟨q7, eq7, hf⟩ := si_ob hf
    refine si_cSi [.int ((q5.2.1 65 8) &&& (v6 ^^^ (-1))), .int x2] cal_X5_lowest gm_RX5_100 X hw hA hl.1 (c_X5_lowest l E F ((q5.2.1 65 8) &&& (v6 ^^^ (-1))) x2 q5.2 q7 eq7) ⟨⟨rfl, rfl⟩, Nat.le_of_ble_eq_true rfl, Nat.le_of_ble_eq_true rfl⟩ rfl rfl (Nat.le_of_ble_eq_true rfl) ⟨Nat.zero_le _, Nat.zero_le _⟩ dX5_lowestWeighing_72 (fun H locs hw => ?_)
    refine lv_aload_n X.1 X.2.1 dX5_lowestWeighing_75 rfl (lv_at hl 2 rfl) ?_
    refine si_getI X hw si_cl5 9 (by decide) gf_RX5_46 rfl rfl rfl dX5_lowestWeighing_76 ?_
    refine lv_iload X.1 X.2.1 dX5_lowestWeighing_79 (lv_at hl 0 rfl) ?_
    refine lv_iconst (v := (-1)) X.1 X.2.1 dX5_lowestWeighing_81 (by decide) ?_
    refine lv_ixor X.1 X.2.1 dX5_lowestWeighing_82 ?_
    refine lv_iand X.1 X.2.1 dX5_lowestWeighing_83 ?_
    refine lv_iload X.1 X.2.1 dX5_lowestWeighing_84 (lv_at hl 6 rfl) ?_
    obtain ⟨q8, eq8, hf⟩ := si_ob hf
    refine si_cSi [.int ((q7.2.1 65 9) &&& (v6 ^^^ (-1))), .int x4] cal_X5_lowest gm_RX5_100 X hw hA hl.1 (c_X5_lowest l E F ((q7.2.1 65 9) &&& (v6 ^^^ (-1))) x4 q7.2 q8 eq8) ⟨⟨rfl, rfl⟩, Nat.le_of_ble_eq_true rfl, Nat.le_of_ble_eq_true rfl⟩ rfl rfl (Nat.le_of_ble_eq_true rfl) ⟨Nat.zero_le _, Nat.zero_le _⟩ dX5_lowestWeighing_86 (fun H locs hw => ?_)
    refine lv_ior X.1 X.2.1 dX5_lowestWeighing_89 ?_
    refine lv_aload_n X.1 X.2.1 dX5_lowestWeighing_90 rfl (lv_at hl 2 rfl) ?_
    refine si_getI X hw si_cl5 10 (by decide) gf_RX5_49 rfl rfl rfl dX5_lowestWeighing_91 ?_
    refine lv_iload X.1 X.2.1 dX5_lowestWeighing_94 (lv_at hl 0 rfl) ?_
    refine lv_iconst (v := (-1)) X.1 X.2.1 dX5_lowestWeighing_96 (by decide) ?_
    refine lv_ixor X.1 X.2.1 dX5_lowestWeighing_97 ?_
    refine lv_iand X.1 X.2.1 dX5_lowestWeighing_98 ?_
    refine lv_iload X.1 X.2.1 dX5_lowestWeighing_99 (lv_at hl 1 rfl) ?_
    refine lv_iconst (v := 0) X.1 X.2.1 dX5_lowestWeighing_101 (by decide) ?_
    refine si_mmax hl.1 X (Nat.le_of_ble_eq_true rfl) (Nat.le_of_ble_eq_true rfl) gm_RX5_90 ⟨Nat.zero_le _, Nat.zero_le _⟩ dX5_lowestWeighing_102 ?_
    obtain ⟨q9, eq9, hf⟩ := si_ob hf
    refine si_cSi [.int ((q8.2.1 65 10) &&& (v6 ^^^ (-1))), .int (si_max v1 0)] cal_X5_lowest gm_RX5_100 X hw hA hl.1 (c_X5_lowest l E F ((q8.2.1 65 10) &&& (v6 ^^^ (-1))) (si_max v1 0) q8.2 q9 eq9) ⟨⟨rfl, rfl⟩, Nat.le_of_ble_eq_true rfl, Nat.le_of_ble_eq_true rfl⟩ rfl rfl (Nat.le_of_ble_eq_true rfl) ⟨Nat.zero_le _, Nat.zero_le _⟩ dX5_lowestWeighing_105 (fun H locs hw => ?_)
    refine lv_ior X.1 X.2.1 dX5_lowestWeighing_108 ?_
    obtain ⟨v10, ev10, hf⟩ := si_ob hf
    refine si_nmI ev10 ?_
    refine lv_istore (lv' := [(7, .int v10), (6, .int v6), (5, .int v1), (0, .ref (E.2.1 65)), (1, .int x1), (2, .int x2), (3, .int x3), (4, .int x4)]) X.1 X.2.1 dX5_lowestWeighing_109 hl (by decide) rfl (fun ls hl => ?_)
    refine lv_iconst (v := 2) X.1 X.2.1 dX5_lowestWeighing_111 (by decide) ?_
    refine lv_iload X.1 X.2.1 dX5_lowestWeighing_112 (lv_at hl 1 rfl) ?_
    obtain ⟨q11, eq11, hf⟩ := si_ob hf
    refine si_cSi [.int v6] cal_J6_bitCount_0f7a4 gm_RX5_52 X hw hA hl.1 (c_J6_bitCount_0f7a4 l E F v6 q9.2 q11 eq11) ⟨⟨rfl, rfl⟩, Nat.le_of_ble_eq_true rfl, Nat.le_of_ble_eq_true rfl⟩ rfl rfl (Nat.le_of_ble_eq_true rfl) ⟨Nat.zero_le _, Nat.zero_le _⟩ dX5_lowestWeighing_114 (fun H locs hw => ?_)
    refine lv_imul X.1 X.2.1 dX5_lowestWeighing_117 ?_
    obtain ⟨v12, ev12, hf⟩ := si_ob hf
    refine si_nmI ev12 ?_
    refine lv_istore (lv' := [(8, .int v12), (7, .int v10), (6, .int v6), (5, .int v1), (0, .ref (E.2.1 65)), (1, .int x1), (2, .int x2), (3, .int x3), (4, .int x4)]) X.1 X.2.1 dX5_lowestWeighing_118 hl (by decide) rfl (fun ls hl => ?_)
    refine lv_iload X.1 X.2.1 dX5_lowestWeighing_120 (lv_at hl 0 rfl) ?_
    refine lv_bipush (v := 12) X.1 X.2.1 dX5_lowestWeighing_122 (by decide) ?_
    refine lv_ishl X.1 X.2.1 dX5_lowestWeighing_124 ?_
    refine lv_iload X.1 X.2.1 dX5_lowestWeighing_125 (lv_at hl 2 rfl) ?_
    refine lv_ior X.1 X.2.1 dX5_lowestWeighing_127 ?_
    refine lv_bipush (v := 12) X.1 X.2.1 dX5_lowestWeighing_128 (by decide) ?_
    refine lv_ishl X.1 X.2.1 dX5_lowestWeighing_130 ?_
    refine lv_iload X.1 X.2.1 dX5_lowestWeighing_131 (lv_at hl 1 rfl) ?_
    refine lv_ior X.1 X.2.1 dX5_lowestWeighing_133 ?_
    exact hret _ _ _ _ _ _ hf hw dX5_lowestWeighing_134
  · have hf := si_in c22 hf
    refine lv_ldc (v := 268435456) X.1 X.2.1 X.2.2.2.1 (si_wd X gk_RX5_96) dX5_lowestWeighing_25 ?_
    exact hret _ _ _ _ _ _ hf hw dX5_lowestWeighing_27
abbrev rm_X5_bestWeighing : Room := { frames := 2, cells := 0, slots := 0, locals := 51 }
set_option maxHeartbeats 4000000 in
set_option maxRecDepth 100000 in
theorem c_X5_bestWeighing (l : Launch) (E : si_Ev) (F : Nat) (S : si_St) (o : Int32 × si_St) (hf : f_X5_bestWeighing F S = some o) : si_Mi l E yX5_bestWeighing cX5_bestWeighing 7 (some .int) rm_X5_bestWeighing [.ref (E.2.1 65)] S o := by
  refine si_ofWi (plainFor_of_name (by decide +kernel)) (Nat.le_of_ble_eq_true rfl) ?_
  intro p e s m args below meth c ls Q A X hw hA hl hret
  have hl : lv_has ls 7 [(0, .ref (E.2.1 65))] := hl
  have B15 : ∀ (S : si_St) (H : Heap) (locs : List Loc) (ls : Array Slot), f_X5_bestWeighing_h15 F S = some o → si_Ws E A s.heap S H locs → lv_has ls 7 [] → W p l e rm_X5_bestWeighing s m args below meth c H locs 0 0 Q (F0 m 15 ls []) := by
    intro   S H locs ls hf hw hl
    unfold f_X5_bestWeighing_h15 at hf
    refine lv_ldc (v := 268435456) X.1 X.2.1 X.2.2.2.1 (si_wd X gk_RX5_96) dX5_bestWeighing_15 ?_
    exact hret _ _ _ _ _ _ hf hw dX5_bestWeighing_17
  have B23 : ∀ (n23 : Nat) (x1 : Int32) (x2 : Int32) (x3 : Int32) (S : si_St) (H : Heap) (locs : List Loc) (ls : Array Slot), f_X5_bestWeighing_l23 F n23 x1 x2 x3 S = some o → si_Ws E A s.heap S H locs → lv_has ls 7 [(0, .ref (E.2.1 65)), (1, .int x1), (2, .int x2), (3, .int x3)] → W p l e rm_X5_bestWeighing s m args below meth c H locs 0 0 Q (F0 m 23 ls []) := by
    intro n23
    induction n23 with
    | zero => intro x1 x2 x3  S H locs ls hf; cases hf
    | succ n23 ih23 =>
      have B34 : ∀ (n34 : Nat) (x1 : Int32) (x2 : Int32) (x3 : Int32) (x4 : Int32) (S : si_St) (H : Heap) (locs : List Loc) (ls : Array Slot), f_X5_bestWeighing_l34 F (f_X5_bestWeighing_l23 F n23) n34 x1 x2 x3 x4 S = some o → si_Ws E A s.heap S H locs → lv_has ls 7 [(0, .ref (E.2.1 65)), (1, .int x1), (2, .int x2), (3, .int x3), (4, .int x4)] → W p l e rm_X5_bestWeighing s m args below meth c H locs 0 0 Q (F0 m 34 ls []) := by
        intro n34
        induction n34 with
        | zero => intro x1 x2 x3 x4  S H locs ls hf; cases hf
        | succ n34 ih34 =>
          have B48 : ∀ (n48 : Nat) (x1 : Int32) (x2 : Int32) (x3 : Int32) (x4 : Int32) (x5 : Int32) (S : si_St) (H : Heap) (locs : List Loc) (ls : Array Slot), f_X5_bestWeighing_l48 F (f_X5_bestWeighing_l23 F n23) (f_X5_bestWeighing_l34 F (f_X5_bestWeighing_l23 F n23) n34) n48 x1 x2 x3 x4 x5 S = some o → si_Ws E A s.heap S H locs → lv_has ls 7 [(0, .ref (E.2.1 65)), (1, .int x1), (2, .int x2), (3, .int x3), (4, .int x4), (5, .int x5)] → W p l e rm_X5_bestWeighing s m args below meth c H locs 0 0 Q (F0 m 48 ls []) := by
            intro n48
            induction n48 with
            | zero => intro x1 x2 x3 x4 x5  S H locs ls hf; cases hf
            | succ n48 ih48 =>
              have B60 : ∀ (n60 : Nat) (x1 : Int32) (x2 : Int32) (x3 : Int32) (x4 : Int32) (x5 : Int32) (x6 : Int32) (S : si_St) (H : Heap) (locs : List Loc) (ls : Array Slot), f_X5_bestWeighing_l60 F (f_X5_bestWeighing_l23 F n23) (f_X5_bestWeighing_l34 F (f_X5_bestWeighing_l23 F n23) n34) (f_X5_bestWeighing_l48 F (f_X5_bestWeighing_l23 F n23) (f_X5_bestWeighing_l34 F (f_X5_bestWeighing_l23 F n23) n34) n48) n60 x1 x2 x3 x4 x5 x6 S = some o → si_Ws E A s.heap S H locs → lv_has ls 7 [(0, .ref (E.2.1 65)), (1, .int x1), (2, .int x2), (3, .int x3), (4, .int x4), (5, .int x5), (6, .int x6)] → W p l e rm_X5_bestWeighing s m args below meth c H locs 0 0 Q (F0 m 60 ls []) := by
                intro n60
                induction n60 with
                | zero => intro x1 x2 x3 x4 x5 x6  S H locs ls hf; cases hf
                | succ n60 ih60 =>
                  have B103 : ∀ (x1 : Int32) (x2 : Int32) (x3 : Int32) (x4 : Int32) (x5 : Int32) (x6 : Int32) (S : si_St) (H : Heap) (locs : List Loc) (ls : Array Slot), f_X5_bestWeighing_h103 F (f_X5_bestWeighing_l23 F n23) (f_X5_bestWeighing_l34 F (f_X5_bestWeighing_l23 F n23) n34) (f_X5_bestWeighing_l48 F (f_X5_bestWeighing_l23 F n23) (f_X5_bestWeighing_l34 F (f_X5_bestWeighing_l23 F n23) n34) n48) (f_X5_bestWeighing_l60 F (f_X5_bestWeighing_l23 F n23) (f_X5_bestWeighing_l34 F (f_X5_bestWeighing_l23 F n23) n34) (f_X5_bestWeighing_l48 F (f_X5_bestWeighing_l23 F n23) (f_X5_bestWeighing_l34 F (f_X5_bestWeighing_l23 F n23) n34) n48) n60) x1 x2 x3 x4 x5 x6 S = some o → si_Ws E A s.heap S H locs → lv_has ls 7 [(0, .ref (E.2.1 65)), (1, .int x1), (2, .int x2), (3, .int x3), (4, .int x4), (5, .int x5), (6, .int x6)] → W p l e rm_X5_bestWeighing s m args below meth c H locs 0 0 Q (F0 m 103 ls []) := by
                    intro x1 x2 x3 x4 x5 x6  S H locs ls hf hw hl
                    unfold f_X5_bestWeighing_h103 at hf
                    obtain ⟨v1, ev1, hf⟩ := si_ob hf
                    refine lv_iinc (v := v1) (lv' := [(6, .int v1), (0, .ref (E.2.1 65)), (1, .int x1), (2, .int x2), (3, .int x3), (4, .int x4), (5, .int x5)]) X.1 X.2.1 dX5_bestWeighing_103 hl (k := 6) rfl (Option.some.inj ev1) (by decide) rfl (fun ls hl => ?_)
                    refine lv_goto (tgt := 60) X.1 X.2.1 dX5_bestWeighing_106 (by decide) ?_
                    exact ih60 _ _ _ _ _ _ _ _ _ _ hf hw (lv_sub hl [1, 2, 3, 4, 5, 6, 0] rfl)
                  intro x1 x2 x3 x4 x5 x6  S H locs ls hf hw hl
                  have hf : f_X5_bestWeighing_h60 F (f_X5_bestWeighing_l23 F n23) (f_X5_bestWeighing_l34 F (f_X5_bestWeighing_l23 F n23) n34) (f_X5_bestWeighing_l48 F (f_X5_bestWeighing_l23 F n23) (f_X5_bestWeighing_l34 F (f_X5_bestWeighing_l23 F n23) n34) n48) (f_X5_bestWeighing_l60 F (f_X5_bestWeighing_l23 F n23) (f_X5_bestWeighing_l34 F (f_X5_bestWeighing_l23 F n23) n34) (f_X5_bestWeighing_l48 F (f_X5_bestWeighing_l23 F n23) (f_X5_bestWeighing_l34 F (f_X5_bestWeighing_l23 F n23) n34) n48) n60) x1 x2 x3 x4 x5 x6 S = some o := hf
                  unfold f_X5_bestWeighing_h60 at hf
                  refine lv_iload X.1 X.2.1 dX5_bestWeighing_60 (lv_at hl 5 rfl) ?_
                  refine lv_iload X.1 X.2.1 dX5_bestWeighing_62 (lv_at hl 6 rfl) ?_
                  refine lv_iadd X.1 X.2.1 dX5_bestWeighing_64 ?_
                  refine lv_aload_n X.1 X.2.1 dX5_bestWeighing_65 rfl (lv_at hl 0 rfl) ?_
                  refine si_getI X hw si_cl5 7 (by decide) gf_RX5_61 rfl rfl rfl dX5_bestWeighing_66 ?_
                  refine lv_icmp_gt (tgt := 109) X.1 X.2.1 dX5_bestWeighing_69 (by decide) (fun c69 => ?_) (fun c69 => ?_)
                  · have hf := si_ip c69 hf
                    obtain ⟨v2, ev2, hf⟩ := si_ob hf
                    refine lv_iinc (v := v2) (lv' := [(5, .int v2), (0, .ref (E.2.1 65)), (1, .int x1), (2, .int x2), (3, .int x3), (4, .int x4), (6, .int x6)]) X.1 X.2.1 dX5_bestWeighing_109 hl (k := 5) rfl (Option.some.inj ev2) (by decide) rfl (fun ls hl => ?_)
                    refine lv_goto (tgt := 48) X.1 X.2.1 dX5_bestWeighing_112 (by decide) ?_
                    exact ih48 _ _ _ _ _ _ _ _ _ hf hw (lv_sub hl [1, 2, 3, 4, 5, 0] rfl)
                  · have hf := si_in c69 hf
                    refine lv_aload_n X.1 X.2.1 dX5_bestWeighing_72 rfl (lv_at hl 0 rfl) ?_
                    refine lv_iload_n X.1 X.2.1 dX5_bestWeighing_73 rfl (lv_at hl 3 rfl) ?_
                    refine lv_iload X.1 X.2.1 dX5_bestWeighing_74 (lv_at hl 4 rfl) ?_
                    refine lv_iload X.1 X.2.1 dX5_bestWeighing_76 (lv_at hl 5 rfl) ?_
                    refine lv_iload X.1 X.2.1 dX5_bestWeighing_78 (lv_at hl 6 rfl) ?_
                    obtain ⟨q3, eq3, hf⟩ := si_ob hf
                    refine si_cVi [.int x3, .int x4, .int x5, .int x6] cal_X5_worst gm_RX5_83 X hw hA hl.1 (c_X5_worst l E F x3 x4 x5 x6 S q3 eq3) si_cl5 rfl ⟨⟨rfl, rfl⟩, Nat.le_of_ble_eq_true rfl, Nat.le_of_ble_eq_true rfl⟩ rfl rfl (Nat.le_of_ble_eq_true rfl) ⟨Nat.zero_le _, Nat.zero_le _⟩ dX5_bestWeighing_80 (fun H locs hw => ?_)
                    refine lv_iload_n X.1 X.2.1 dX5_bestWeighing_83 rfl (lv_at hl 1 rfl) ?_
                    refine lv_icmp_ge (tgt := 103) X.1 X.2.1 dX5_bestWeighing_84 (by decide) (fun c84 => ?_) (fun c84 => ?_)
                    · have hf := si_ip c84 hf
                      exact B103 _ _ _ _ _ _ _ _ _ _ hf hw (lv_sub hl [0, 1, 2, 3, 4, 5, 6] rfl)
                    · have hf := si_in c84 hf
                      refine lv_iload_n X.1 X.2.1 dX5_bestWeighing_87 rfl (lv_at hl 2 rfl) ?_
                      refine lv_aload_n X.1 X.2.1 dX5_bestWeighing_88 rfl (lv_at hl 0 rfl) ?_
                      refine lv_iload_n X.1 X.2.1 dX5_bestWeighing_89 rfl (lv_at hl 3 rfl) ?_
                      refine lv_iload X.1 X.2.1 dX5_bestWeighing_90 (lv_at hl 4 rfl) ?_
                      refine lv_iload X.1 X.2.1 dX5_bestWeighing_92 (lv_at hl 5 rfl) ?_
                      refine lv_iload X.1 X.2.1 dX5_bestWeighing_94 (lv_at hl 6 rfl) ?_
                      obtain ⟨q4, eq4, hf⟩ := si_ob hf
                      refine si_cVi [.int x3, .int x4, .int x5, .int x6] cal_X5_lowestWeighing gm_RX5_97 X hw hA hl.1 (c_X5_lowestWeighing l E F x3 x4 x5 x6 q3.2 q4 eq4) si_cl5 rfl ⟨⟨rfl, rfl⟩, Nat.le_of_ble_eq_true rfl, Nat.le_of_ble_eq_true rfl⟩ rfl rfl (Nat.le_of_ble_eq_true rfl) ⟨Nat.zero_le _, Nat.zero_le _⟩ dX5_bestWeighing_96 (fun H locs hw => ?_)
                      refine si_mmin hl.1 X (Nat.le_of_ble_eq_true rfl) (Nat.le_of_ble_eq_true rfl) gm_RX5_87 ⟨Nat.zero_le _, Nat.zero_le _⟩ dX5_bestWeighing_99 ?_
                      obtain ⟨v5, ev5, hf⟩ := si_ob hf
                      refine si_nmI ev5 ?_
                      refine lv_istore_n (lv' := [(2, .int v5), (0, .ref (E.2.1 65)), (1, .int x1), (3, .int x3), (4, .int x4), (5, .int x5), (6, .int x6)]) X.1 X.2.1 dX5_bestWeighing_102 rfl hl (by decide) rfl (fun ls hl => ?_)
                      exact B103 _ _ _ _ _ _ _ _ _ _ hf hw (lv_sub hl [1, 2, 0, 3, 4, 5, 6] rfl)
              intro x1 x2 x3 x4 x5  S H locs ls hf hw hl
              have hf : f_X5_bestWeighing_h48 F (f_X5_bestWeighing_l23 F n23) (f_X5_bestWeighing_l34 F (f_X5_bestWeighing_l23 F n23) n34) (f_X5_bestWeighing_l48 F (f_X5_bestWeighing_l23 F n23) (f_X5_bestWeighing_l34 F (f_X5_bestWeighing_l23 F n23) n34) n48) x1 x2 x3 x4 x5 S = some o := hf
              unfold f_X5_bestWeighing_h48 at hf
              refine lv_iload X.1 X.2.1 dX5_bestWeighing_48 (lv_at hl 5 rfl) ?_
              refine lv_aload_n X.1 X.2.1 dX5_bestWeighing_50 rfl (lv_at hl 0 rfl) ?_
              refine si_getI X hw si_cl5 7 (by decide) gf_RX5_61 rfl rfl rfl dX5_bestWeighing_51 ?_
              refine lv_icmp_gt (tgt := 115) X.1 X.2.1 dX5_bestWeighing_54 (by decide) (fun c54 => ?_) (fun c54 => ?_)
              · have hf := si_ip c54 hf
                obtain ⟨v6, ev6, hf⟩ := si_ob hf
                refine lv_iinc (v := v6) (lv' := [(4, .int v6), (0, .ref (E.2.1 65)), (1, .int x1), (2, .int x2), (3, .int x3), (5, .int x5)]) X.1 X.2.1 dX5_bestWeighing_115 hl (k := 4) rfl (Option.some.inj ev6) (by decide) rfl (fun ls hl => ?_)
                refine lv_goto (tgt := 34) X.1 X.2.1 dX5_bestWeighing_118 (by decide) ?_
                exact ih34 _ _ _ _ _ _ _ _ hf hw (lv_sub hl [1, 2, 3, 4, 0] rfl)
              · have hf := si_in c54 hf
                refine lv_iconst (v := 0) X.1 X.2.1 dX5_bestWeighing_57 (by decide) ?_
                refine lv_istore (lv' := [(6, .int 0), (0, .ref (E.2.1 65)), (1, .int x1), (2, .int x2), (3, .int x3), (4, .int x4), (5, .int x5)]) X.1 X.2.1 dX5_bestWeighing_58 hl (by decide) rfl (fun ls hl => ?_)
                exact B60 F _ _ _ _ _ _ _ _ _ _ hf hw (lv_sub hl [1, 2, 3, 4, 5, 6, 0] rfl)
          intro x1 x2 x3 x4  S H locs ls hf hw hl
          have hf : f_X5_bestWeighing_h34 F (f_X5_bestWeighing_l23 F n23) (f_X5_bestWeighing_l34 F (f_X5_bestWeighing_l23 F n23) n34) x1 x2 x3 x4 S = some o := hf
          unfold f_X5_bestWeighing_h34 at hf
          refine lv_iload_n X.1 X.2.1 dX5_bestWeighing_34 rfl (lv_at hl 3 rfl) ?_
          refine lv_iload X.1 X.2.1 dX5_bestWeighing_35 (lv_at hl 4 rfl) ?_
          refine lv_iadd X.1 X.2.1 dX5_bestWeighing_37 ?_
          refine lv_aload_n X.1 X.2.1 dX5_bestWeighing_38 rfl (lv_at hl 0 rfl) ?_
          refine si_getI X hw si_cl5 6 (by decide) gf_RX5_58 rfl rfl rfl dX5_bestWeighing_39 ?_
          refine lv_icmp_gt (tgt := 121) X.1 X.2.1 dX5_bestWeighing_42 (by decide) (fun c42 => ?_) (fun c42 => ?_)
          · have hf := si_ip c42 hf
            obtain ⟨v7, ev7, hf⟩ := si_ob hf
            refine lv_iinc (v := v7) (lv' := [(3, .int v7), (0, .ref (E.2.1 65)), (1, .int x1), (2, .int x2), (4, .int x4)]) X.1 X.2.1 dX5_bestWeighing_121 hl (k := 3) rfl (Option.some.inj ev7) (by decide) rfl (fun ls hl => ?_)
            refine lv_goto (tgt := 23) X.1 X.2.1 dX5_bestWeighing_124 (by decide) ?_
            exact ih23 _ _ _ _ _ _ _ hf hw (lv_sub hl [1, 2, 3, 0] rfl)
          · have hf := si_in c42 hf
            refine lv_iconst (v := 0) X.1 X.2.1 dX5_bestWeighing_45 (by decide) ?_
            refine lv_istore (lv' := [(5, .int 0), (0, .ref (E.2.1 65)), (1, .int x1), (2, .int x2), (3, .int x3), (4, .int x4)]) X.1 X.2.1 dX5_bestWeighing_46 hl (by decide) rfl (fun ls hl => ?_)
            exact B48 F _ _ _ _ _ _ _ _ _ hf hw (lv_sub hl [1, 2, 3, 4, 5, 0] rfl)
      intro x1 x2 x3  S H locs ls hf hw hl
      have hf : f_X5_bestWeighing_h23 F (f_X5_bestWeighing_l23 F n23) x1 x2 x3 S = some o := hf
      unfold f_X5_bestWeighing_h23 at hf
      refine lv_iload_n X.1 X.2.1 dX5_bestWeighing_23 rfl (lv_at hl 3 rfl) ?_
      refine lv_aload_n X.1 X.2.1 dX5_bestWeighing_24 rfl (lv_at hl 0 rfl) ?_
      refine si_getI X hw si_cl5 6 (by decide) gf_RX5_58 rfl rfl rfl dX5_bestWeighing_25 ?_
      refine lv_icmp_gt (tgt := 127) X.1 X.2.1 dX5_bestWeighing_28 (by decide) (fun c28 => ?_) (fun c28 => ?_)
      · have hf := si_ip c28 hf
        refine lv_iload_n X.1 X.2.1 dX5_bestWeighing_127 rfl (lv_at hl 2 rfl) ?_
        exact hret _ _ _ _ _ _ hf hw dX5_bestWeighing_128
      · have hf := si_in c28 hf
        refine lv_iconst (v := 0) X.1 X.2.1 dX5_bestWeighing_31 (by decide) ?_
        refine lv_istore (lv' := [(4, .int 0), (0, .ref (E.2.1 65)), (1, .int x1), (2, .int x2), (3, .int x3)]) X.1 X.2.1 dX5_bestWeighing_32 hl (by decide) rfl (fun ls hl => ?_)
        exact B34 F _ _ _ _ _ _ _ _ hf hw (lv_sub hl [1, 2, 3, 4, 0] rfl)
  unfold f_X5_bestWeighing at hf
  refine lv_aload_n X.1 X.2.1 dX5_bestWeighing_0 rfl (lv_at hl 0 rfl) ?_
  obtain ⟨q8, eq8, hf⟩ := si_ob hf
  refine si_cVi [] cal_X5_needed gm_RX5_93 X hw hA hl.1 (c_X5_needed l E F S q8 eq8) si_cl5 rfl ⟨⟨rfl, rfl⟩, Nat.le_of_ble_eq_true rfl, Nat.le_of_ble_eq_true rfl⟩ rfl rfl (Nat.le_of_ble_eq_true rfl) ⟨Nat.zero_le _, Nat.zero_le _⟩ dX5_bestWeighing_1 (fun H locs hw => ?_)
  refine lv_istore_n (lv' := [(1, .int q8.1), (0, .ref (E.2.1 65))]) X.1 X.2.1 dX5_bestWeighing_4 rfl hl (by decide) rfl (fun ls hl => ?_)
  refine lv_iload_n X.1 X.2.1 dX5_bestWeighing_5 rfl (lv_at hl 0 rfl) ?_
  refine lv_if_eq (tgt := 15) X.1 X.2.1 dX5_bestWeighing_6 (by decide) (fun c6 => ?_) (fun c6 => ?_)
  · have hf := si_ip c6 hf
    exact B15 _ _ _ _ hf hw (lv_sub hl [] rfl)
  · have hf := si_in c6 hf
    refine lv_iload_n X.1 X.2.1 dX5_bestWeighing_9 rfl (lv_at hl 0 rfl) ?_
    refine lv_bipush (v := 99) X.1 X.2.1 dX5_bestWeighing_10 (by decide) ?_
    refine lv_icmp_ne (tgt := 18) X.1 X.2.1 dX5_bestWeighing_12 (by decide) (fun c12 => ?_) (fun c12 => ?_)
    · have hf := si_in c12 hf
      refine lv_ldc (v := 268435456) X.1 X.2.1 X.2.2.2.1 (si_wd X gk_RX5_96) dX5_bestWeighing_18 ?_
      refine lv_istore_n (lv' := [(2, .int 268435456), (1, .int q8.1), (0, .ref (E.2.1 65))]) X.1 X.2.1 dX5_bestWeighing_20 rfl hl (by decide) rfl (fun ls hl => ?_)
      refine lv_iconst (v := 0) X.1 X.2.1 dX5_bestWeighing_21 (by decide) ?_
      refine lv_istore_n (lv' := [(3, .int 0), (2, .int 268435456), (1, .int q8.1), (0, .ref (E.2.1 65))]) X.1 X.2.1 dX5_bestWeighing_22 rfl hl (by decide) rfl (fun ls hl => ?_)
      exact B23 F _ _ _ _ _ _ _ hf hw (lv_sub hl [3, 2, 1, 0] rfl)
    · have hf := si_ip c12 hf
      exact B15 _ _ _ _ hf hw (lv_sub hl [] rfl)

theorem dX1_firstNotBelow_0 : decode cX1_firstNotBelow 0 = .ok (.iconst 0, 1) := by decide +kernel
theorem dX1_firstNotBelow_1 : decode cX1_firstNotBelow 1 = .ok (.istore_n 3, 1) := by decide +kernel
theorem dX1_firstNotBelow_2 : decode cX1_firstNotBelow 2 = .ok (.sipush 128, 3) := by decide +kernel
theorem dX1_firstNotBelow_5 : decode cX1_firstNotBelow 5 = .ok (.istore 4, 2) := by decide +kernel
theorem dX1_firstNotBelow_7 : decode cX1_firstNotBelow 7 = .ok (.iload 4, 2) := by decide +kernel
theorem dX1_firstNotBelow_9 : decode cX1_firstNotBelow 9 = .ok (.ifCond .le 44, 3) := by decide +kernel
theorem dX1_firstNotBelow_12 : decode cX1_firstNotBelow 12 = .ok (.iload_n 3, 1) := by decide +kernel
theorem dX1_firstNotBelow_13 : decode cX1_firstNotBelow 13 = .ok (.iload 4, 2) := by decide +kernel
theorem dX1_firstNotBelow_15 : decode cX1_firstNotBelow 15 = .ok (.iadd, 1) := by decide +kernel
theorem dX1_firstNotBelow_16 : decode cX1_firstNotBelow 16 = .ok (.aload_n 0, 1) := by decide +kernel
theorem dX1_firstNotBelow_17 : decode cX1_firstNotBelow 17 = .ok (.getfield 29, 3) := by decide +kernel
theorem dX1_firstNotBelow_20 : decode cX1_firstNotBelow 20 = .ok (.if_icmp .gt 24, 3) := by decide +kernel
theorem dX1_firstNotBelow_23 : decode cX1_firstNotBelow 23 = .ok (.aload_n 0, 1) := by decide +kernel
theorem dX1_firstNotBelow_24 : decode cX1_firstNotBelow 24 = .ok (.getfield 26, 3) := by decide +kernel
theorem dX1_firstNotBelow_27 : decode cX1_firstNotBelow 27 = .ok (.iload_n 3, 1) := by decide +kernel
theorem dX1_firstNotBelow_28 : decode cX1_firstNotBelow 28 = .ok (.iload 4, 2) := by decide +kernel
theorem dX1_firstNotBelow_30 : decode cX1_firstNotBelow 30 = .ok (.iadd, 1) := by decide +kernel
theorem dX1_firstNotBelow_31 : decode cX1_firstNotBelow 31 = .ok (.iconst 1, 1) := by decide +kernel
theorem dX1_firstNotBelow_32 : decode cX1_firstNotBelow 32 = .ok (.isub, 1) := by decide +kernel
theorem dX1_firstNotBelow_33 : decode cX1_firstNotBelow 33 = .ok (.laload, 1) := by decide +kernel
theorem dX1_firstNotBelow_34 : decode cX1_firstNotBelow 34 = .ok (.lload_n 1, 1) := by decide +kernel
theorem dX1_firstNotBelow_35 : decode cX1_firstNotBelow 35 = .ok (.lcmp, 1) := by decide +kernel
theorem dX1_firstNotBelow_36 : decode cX1_firstNotBelow 36 = .ok (.ifCond .ge 8, 3) := by decide +kernel
theorem dX1_firstNotBelow_39 : decode cX1_firstNotBelow 39 = .ok (.iload_n 3, 1) := by decide +kernel
theorem dX1_firstNotBelow_40 : decode cX1_firstNotBelow 40 = .ok (.iload 4, 2) := by decide +kernel
theorem dX1_firstNotBelow_42 : decode cX1_firstNotBelow 42 = .ok (.iadd, 1) := by decide +kernel
theorem dX1_firstNotBelow_43 : decode cX1_firstNotBelow 43 = .ok (.istore_n 3, 1) := by decide +kernel
theorem dX1_firstNotBelow_44 : decode cX1_firstNotBelow 44 = .ok (.iload 4, 2) := by decide +kernel
theorem dX1_firstNotBelow_46 : decode cX1_firstNotBelow 46 = .ok (.iconst 2, 1) := by decide +kernel
theorem dX1_firstNotBelow_47 : decode cX1_firstNotBelow 47 = .ok (.idiv, 1) := by decide +kernel
theorem dX1_firstNotBelow_48 : decode cX1_firstNotBelow 48 = .ok (.istore 4, 2) := by decide +kernel
theorem dX1_firstNotBelow_50 : decode cX1_firstNotBelow 50 = .ok (.goto (-43), 3) := by decide +kernel
theorem dX1_firstNotBelow_53 : decode cX1_firstNotBelow 53 = .ok (.iload_n 3, 1) := by decide +kernel
theorem dX1_firstNotBelow_54 : decode cX1_firstNotBelow 54 = .ok (.ireturn, 1) := by decide +kernel
theorem dX1_listWays_0 : decode cX1_listWays 0 = .ok (.aload_n 0, 1) := by decide +kernel
theorem dX1_listWays_1 : decode cX1_listWays 1 = .ok (.getfield 19, 3) := by decide +kernel
theorem dX1_listWays_4 : decode cX1_listWays 4 = .ok (.iconst 0, 1) := by decide +kernel
theorem dX1_listWays_5 : decode cX1_listWays 5 = .ok (.lconst 0, 1) := by decide +kernel
theorem dX1_listWays_6 : decode cX1_listWays 6 = .ok (.lastore, 1) := by decide +kernel
theorem dX1_listWays_7 : decode cX1_listWays 7 = .ok (.aload_n 0, 1) := by decide +kernel
theorem dX1_listWays_8 : decode cX1_listWays 8 = .ok (.iconst 1, 1) := by decide +kernel
theorem dX1_listWays_9 : decode cX1_listWays 9 = .ok (.putfield 23, 3) := by decide +kernel
theorem dX1_listWays_12 : decode cX1_listWays 12 = .ok (.iload_n 2, 1) := by decide +kernel
theorem dX1_listWays_13 : decode cX1_listWays 13 = .ok (.istore 4, 2) := by decide +kernel
theorem dX1_listWays_15 : decode cX1_listWays 15 = .ok (.iload 4, 2) := by decide +kernel
theorem dX1_listWays_17 : decode cX1_listWays 17 = .ok (.iload_n 3, 1) := by decide +kernel
theorem dX1_listWays_18 : decode cX1_listWays 18 = .ok (.if_icmp .ge 126, 3) := by decide +kernel
theorem dX1_listWays_21 : decode cX1_listWays 21 = .ok (.aload_n 1, 1) := by decide +kernel
theorem dX1_listWays_22 : decode cX1_listWays 22 = .ok (.getfield 37, 3) := by decide +kernel
theorem dX1_listWays_25 : decode cX1_listWays 25 = .ok (.iload 4, 2) := by decide +kernel
theorem dX1_listWays_27 : decode cX1_listWays 27 = .ok (.iaload, 1) := by decide +kernel
theorem dX1_listWays_28 : decode cX1_listWays 28 = .ok (.i2l, 1) := by decide +kernel
theorem dX1_listWays_29 : decode cX1_listWays 29 = .ok (.bipush 24, 2) := by decide +kernel
theorem dX1_listWays_31 : decode cX1_listWays 31 = .ok (.lshl, 1) := by decide +kernel
theorem dX1_listWays_32 : decode cX1_listWays 32 = .ok (.lstore 5, 2) := by decide +kernel
theorem dX1_listWays_34 : decode cX1_listWays 34 = .ok (.lload 5, 2) := by decide +kernel
theorem dX1_listWays_36 : decode cX1_listWays 36 = .ok (.ldc2_w 68, 3) := by decide +kernel
theorem dX1_listWays_39 : decode cX1_listWays 39 = .ok (.ladd, 1) := by decide +kernel
theorem dX1_listWays_40 : decode cX1_listWays 40 = .ok (.lconst 1, 1) := by decide +kernel
theorem dX1_listWays_41 : decode cX1_listWays 41 = .ok (.bipush 10, 2) := by decide +kernel
theorem dX1_listWays_43 : decode cX1_listWays 43 = .ok (.iload 4, 2) := by decide +kernel
theorem dX1_listWays_45 : decode cX1_listWays 45 = .ok (.iadd, 1) := by decide +kernel
theorem dX1_listWays_46 : decode cX1_listWays 46 = .ok (.lshl, 1) := by decide +kernel
theorem dX1_listWays_47 : decode cX1_listWays 47 = .ok (.ladd, 1) := by decide +kernel
theorem dX1_listWays_48 : decode cX1_listWays 48 = .ok (.lstore 7, 2) := by decide +kernel
theorem dX1_listWays_50 : decode cX1_listWays 50 = .ok (.lload 5, 2) := by decide +kernel
theorem dX1_listWays_52 : decode cX1_listWays 52 = .ok (.lneg, 1) := by decide +kernel
theorem dX1_listWays_53 : decode cX1_listWays 53 = .ok (.ldc2_w 68, 3) := by decide +kernel
theorem dX1_listWays_56 : decode cX1_listWays 56 = .ok (.ladd, 1) := by decide +kernel
theorem dX1_listWays_57 : decode cX1_listWays 57 = .ok (.lconst 1, 1) := by decide +kernel
theorem dX1_listWays_58 : decode cX1_listWays 58 = .ok (.iload 4, 2) := by decide +kernel
theorem dX1_listWays_60 : decode cX1_listWays 60 = .ok (.lshl, 1) := by decide +kernel
theorem dX1_listWays_61 : decode cX1_listWays 61 = .ok (.ladd, 1) := by decide +kernel
theorem dX1_listWays_62 : decode cX1_listWays 62 = .ok (.lstore 9, 2) := by decide +kernel
theorem dX1_listWays_64 : decode cX1_listWays 64 = .ok (.iconst 0, 1) := by decide +kernel
theorem dX1_listWays_65 : decode cX1_listWays 65 = .ok (.istore 11, 2) := by decide +kernel
theorem dX1_listWays_67 : decode cX1_listWays 67 = .ok (.iload 11, 2) := by decide +kernel
theorem dX1_listWays_69 : decode cX1_listWays 69 = .ok (.aload_n 0, 1) := by decide +kernel
theorem dX1_listWays_70 : decode cX1_listWays 70 = .ok (.getfield 23, 3) := by decide +kernel
theorem dX1_listWays_73 : decode cX1_listWays 73 = .ok (.if_icmp .ge 55, 3) := by decide +kernel
theorem dX1_listWays_76 : decode cX1_listWays 76 = .ok (.aload_n 0, 1) := by decide +kernel
theorem dX1_listWays_77 : decode cX1_listWays 77 = .ok (.getfield 19, 3) := by decide +kernel
theorem dX1_listWays_80 : decode cX1_listWays 80 = .ok (.aload_n 0, 1) := by decide +kernel
theorem dX1_listWays_81 : decode cX1_listWays 81 = .ok (.getfield 23, 3) := by decide +kernel
theorem dX1_listWays_84 : decode cX1_listWays 84 = .ok (.iload 11, 2) := by decide +kernel
theorem dX1_listWays_86 : decode cX1_listWays 86 = .ok (.iadd, 1) := by decide +kernel
theorem dX1_listWays_87 : decode cX1_listWays 87 = .ok (.aload_n 0, 1) := by decide +kernel
theorem dX1_listWays_88 : decode cX1_listWays 88 = .ok (.getfield 19, 3) := by decide +kernel
theorem dX1_listWays_91 : decode cX1_listWays 91 = .ok (.iload 11, 2) := by decide +kernel
theorem dX1_listWays_93 : decode cX1_listWays 93 = .ok (.laload, 1) := by decide +kernel
theorem dX1_listWays_94 : decode cX1_listWays 94 = .ok (.lload 7, 2) := by decide +kernel
theorem dX1_listWays_96 : decode cX1_listWays 96 = .ok (.ladd, 1) := by decide +kernel
theorem dX1_listWays_97 : decode cX1_listWays 97 = .ok (.lastore, 1) := by decide +kernel
theorem dX1_listWays_98 : decode cX1_listWays 98 = .ok (.aload_n 0, 1) := by decide +kernel
theorem dX1_listWays_99 : decode cX1_listWays 99 = .ok (.getfield 19, 3) := by decide +kernel
theorem dX1_listWays_102 : decode cX1_listWays 102 = .ok (.iconst 2, 1) := by decide +kernel
theorem dX1_listWays_103 : decode cX1_listWays 103 = .ok (.aload_n 0, 1) := by decide +kernel
theorem dX1_listWays_104 : decode cX1_listWays 104 = .ok (.getfield 23, 3) := by decide +kernel
theorem dX1_listWays_107 : decode cX1_listWays 107 = .ok (.imul, 1) := by decide +kernel
theorem dX1_listWays_108 : decode cX1_listWays 108 = .ok (.iload 11, 2) := by decide +kernel
theorem dX1_listWays_110 : decode cX1_listWays 110 = .ok (.iadd, 1) := by decide +kernel
theorem dX1_listWays_111 : decode cX1_listWays 111 = .ok (.aload_n 0, 1) := by decide +kernel
theorem dX1_listWays_112 : decode cX1_listWays 112 = .ok (.getfield 19, 3) := by decide +kernel
theorem dX1_listWays_115 : decode cX1_listWays 115 = .ok (.iload 11, 2) := by decide +kernel
theorem dX1_listWays_117 : decode cX1_listWays 117 = .ok (.laload, 1) := by decide +kernel
theorem dX1_listWays_118 : decode cX1_listWays 118 = .ok (.lload 9, 2) := by decide +kernel
theorem dX1_listWays_120 : decode cX1_listWays 120 = .ok (.ladd, 1) := by decide +kernel
theorem dX1_listWays_121 : decode cX1_listWays 121 = .ok (.lastore, 1) := by decide +kernel
theorem dX1_listWays_122 : decode cX1_listWays 122 = .ok (.iinc 11 1, 3) := by decide +kernel
theorem dX1_listWays_125 : decode cX1_listWays 125 = .ok (.goto (-58), 3) := by decide +kernel
theorem dX1_listWays_128 : decode cX1_listWays 128 = .ok (.aload_n 0, 1) := by decide +kernel
theorem dX1_listWays_129 : decode cX1_listWays 129 = .ok (.dup, 1) := by decide +kernel
theorem dX1_listWays_130 : decode cX1_listWays 130 = .ok (.getfield 23, 3) := by decide +kernel
theorem dX1_listWays_133 : decode cX1_listWays 133 = .ok (.iconst 3, 1) := by decide +kernel
theorem dX1_listWays_134 : decode cX1_listWays 134 = .ok (.imul, 1) := by decide +kernel
theorem dX1_listWays_135 : decode cX1_listWays 135 = .ok (.putfield 23, 3) := by decide +kernel
theorem dX1_listWays_138 : decode cX1_listWays 138 = .ok (.iinc 4 1, 3) := by decide +kernel
theorem dX1_listWays_141 : decode cX1_listWays 141 = .ok (.goto (-126), 3) := by decide +kernel
theorem dX1_listWays_144 : decode cX1_listWays 144 = .ok (.return_, 1) := by decide +kernel
theorem dX1_sortWays_0 : decode cX1_sortWays 0 = .ok (.aload_n 0, 1) := by decide +kernel
theorem dX1_sortWays_1 : decode cX1_sortWays 1 = .ok (.iconst 0, 1) := by decide +kernel
theorem dX1_sortWays_2 : decode cX1_sortWays 2 = .ok (.putfield 29, 3) := by decide +kernel
theorem dX1_sortWays_5 : decode cX1_sortWays 5 = .ok (.iconst 0, 1) := by decide +kernel
theorem dX1_sortWays_6 : decode cX1_sortWays 6 = .ok (.istore_n 1, 1) := by decide +kernel
theorem dX1_sortWays_7 : decode cX1_sortWays 7 = .ok (.iload_n 1, 1) := by decide +kernel
theorem dX1_sortWays_8 : decode cX1_sortWays 8 = .ok (.aload_n 0, 1) := by decide +kernel
theorem dX1_sortWays_9 : decode cX1_sortWays 9 = .ok (.getfield 23, 3) := by decide +kernel
theorem dX1_sortWays_12 : decode cX1_sortWays 12 = .ok (.if_icmp .ge 63, 3) := by decide +kernel
theorem dX1_sortWays_15 : decode cX1_sortWays 15 = .ok (.aload_n 0, 1) := by decide +kernel
theorem dX1_sortWays_16 : decode cX1_sortWays 16 = .ok (.aload_n 0, 1) := by decide +kernel
theorem dX1_sortWays_17 : decode cX1_sortWays 17 = .ok (.getfield 19, 3) := by decide +kernel
theorem dX1_sortWays_20 : decode cX1_sortWays 20 = .ok (.iload_n 1, 1) := by decide +kernel
theorem dX1_sortWays_21 : decode cX1_sortWays 21 = .ok (.laload, 1) := by decide +kernel
theorem dX1_sortWays_22 : decode cX1_sortWays 22 = .ok (.invokevirtual 61, 3) := by decide +kernel
theorem dX1_sortWays_25 : decode cX1_sortWays 25 = .ok (.istore_n 2, 1) := by decide +kernel
theorem dX1_sortWays_26 : decode cX1_sortWays 26 = .ok (.aload_n 0, 1) := by decide +kernel
theorem dX1_sortWays_27 : decode cX1_sortWays 27 = .ok (.getfield 26, 3) := by decide +kernel
theorem dX1_sortWays_30 : decode cX1_sortWays 30 = .ok (.iload_n 2, 1) := by decide +kernel
theorem dX1_sortWays_31 : decode cX1_sortWays 31 = .ok (.aload_n 0, 1) := by decide +kernel
theorem dX1_sortWays_32 : decode cX1_sortWays 32 = .ok (.getfield 26, 3) := by decide +kernel
theorem dX1_sortWays_35 : decode cX1_sortWays 35 = .ok (.iload_n 2, 1) := by decide +kernel
theorem dX1_sortWays_36 : decode cX1_sortWays 36 = .ok (.iconst 1, 1) := by decide +kernel
theorem dX1_sortWays_37 : decode cX1_sortWays 37 = .ok (.iadd, 1) := by decide +kernel
theorem dX1_sortWays_38 : decode cX1_sortWays 38 = .ok (.aload_n 0, 1) := by decide +kernel
theorem dX1_sortWays_39 : decode cX1_sortWays 39 = .ok (.getfield 29, 3) := by decide +kernel
theorem dX1_sortWays_42 : decode cX1_sortWays 42 = .ok (.iload_n 2, 1) := by decide +kernel
theorem dX1_sortWays_43 : decode cX1_sortWays 43 = .ok (.isub, 1) := by decide +kernel
theorem dX1_sortWays_44 : decode cX1_sortWays 44 = .ok (.invokestatic 70, 3) := by decide +kernel
theorem dX1_sortWays_47 : decode cX1_sortWays 47 = .ok (.aload_n 0, 1) := by decide +kernel
theorem dX1_sortWays_48 : decode cX1_sortWays 48 = .ok (.getfield 26, 3) := by decide +kernel
theorem dX1_sortWays_51 : decode cX1_sortWays 51 = .ok (.iload_n 2, 1) := by decide +kernel
theorem dX1_sortWays_52 : decode cX1_sortWays 52 = .ok (.aload_n 0, 1) := by decide +kernel
theorem dX1_sortWays_53 : decode cX1_sortWays 53 = .ok (.getfield 19, 3) := by decide +kernel
theorem dX1_sortWays_56 : decode cX1_sortWays 56 = .ok (.iload_n 1, 1) := by decide +kernel
theorem dX1_sortWays_57 : decode cX1_sortWays 57 = .ok (.laload, 1) := by decide +kernel
theorem dX1_sortWays_58 : decode cX1_sortWays 58 = .ok (.lastore, 1) := by decide +kernel
theorem dX1_sortWays_59 : decode cX1_sortWays 59 = .ok (.aload_n 0, 1) := by decide +kernel
theorem dX1_sortWays_60 : decode cX1_sortWays 60 = .ok (.dup, 1) := by decide +kernel
theorem dX1_sortWays_61 : decode cX1_sortWays 61 = .ok (.getfield 29, 3) := by decide +kernel
theorem dX1_sortWays_64 : decode cX1_sortWays 64 = .ok (.iconst 1, 1) := by decide +kernel
theorem dX1_sortWays_65 : decode cX1_sortWays 65 = .ok (.iadd, 1) := by decide +kernel
theorem dX1_sortWays_66 : decode cX1_sortWays 66 = .ok (.putfield 29, 3) := by decide +kernel
theorem dX1_sortWays_69 : decode cX1_sortWays 69 = .ok (.iinc 1 1, 3) := by decide +kernel
theorem dX1_sortWays_72 : decode cX1_sortWays 72 = .ok (.goto (-65), 3) := by decide +kernel
theorem dX1_sortWays_75 : decode cX1_sortWays 75 = .ok (.return_, 1) := by decide +kernel
theorem dX1_learn_0 : decode cX1_learn 0 = .ok (.aload_n 0, 1) := by decide +kernel
theorem dX1_learn_1 : decode cX1_learn 1 = .ok (.iconst 1, 1) := by decide +kernel
theorem dX1_learn_2 : decode cX1_learn 2 = .ok (.putfield 15, 3) := by decide +kernel
theorem dX1_learn_5 : decode cX1_learn 5 = .ok (.aload_n 0, 1) := by decide +kernel
theorem dX1_learn_6 : decode cX1_learn 6 = .ok (.getfield 11, 3) := by decide +kernel
theorem dX1_learn_9 : decode cX1_learn 9 = .ok (.iconst 0, 1) := by decide +kernel
theorem dX1_learn_10 : decode cX1_learn 10 = .ok (.iconst 0, 1) := by decide +kernel
theorem dX1_learn_11 : decode cX1_learn 11 = .ok (.iastore, 1) := by decide +kernel
theorem dX1_learn_12 : decode cX1_learn 12 = .ok (.iconst 0, 1) := by decide +kernel
theorem dX1_learn_13 : decode cX1_learn 13 = .ok (.istore_n 2, 1) := by decide +kernel
theorem dX1_learn_14 : decode cX1_learn 14 = .ok (.iload_n 2, 1) := by decide +kernel
theorem dX1_learn_15 : decode cX1_learn 15 = .ok (.aload_n 1, 1) := by decide +kernel
theorem dX1_learn_16 : decode cX1_learn 16 = .ok (.getfield 32, 3) := by decide +kernel
theorem dX1_learn_19 : decode cX1_learn 19 = .ok (.if_icmp .ge 59, 3) := by decide +kernel
theorem dX1_learn_22 : decode cX1_learn 22 = .ok (.iconst 0, 1) := by decide +kernel
theorem dX1_learn_23 : decode cX1_learn 23 = .ok (.istore_n 3, 1) := by decide +kernel
theorem dX1_learn_24 : decode cX1_learn 24 = .ok (.iload_n 3, 1) := by decide +kernel
theorem dX1_learn_25 : decode cX1_learn 25 = .ok (.aload_n 0, 1) := by decide +kernel
theorem dX1_learn_26 : decode cX1_learn 26 = .ok (.getfield 15, 3) := by decide +kernel
theorem dX1_learn_29 : decode cX1_learn 29 = .ok (.if_icmp .ge 33, 3) := by decide +kernel
theorem dX1_learn_32 : decode cX1_learn 32 = .ok (.aload_n 0, 1) := by decide +kernel
theorem dX1_learn_33 : decode cX1_learn 33 = .ok (.getfield 11, 3) := by decide +kernel
theorem dX1_learn_36 : decode cX1_learn 36 = .ok (.aload_n 0, 1) := by decide +kernel
theorem dX1_learn_37 : decode cX1_learn 37 = .ok (.getfield 15, 3) := by decide +kernel
theorem dX1_learn_40 : decode cX1_learn 40 = .ok (.iload_n 3, 1) := by decide +kernel
theorem dX1_learn_41 : decode cX1_learn 41 = .ok (.iadd, 1) := by decide +kernel
theorem dX1_learn_42 : decode cX1_learn 42 = .ok (.aload_n 0, 1) := by decide +kernel
theorem dX1_learn_43 : decode cX1_learn 43 = .ok (.getfield 11, 3) := by decide +kernel
theorem dX1_learn_46 : decode cX1_learn 46 = .ok (.iload_n 3, 1) := by decide +kernel
theorem dX1_learn_47 : decode cX1_learn 47 = .ok (.iaload, 1) := by decide +kernel
theorem dX1_learn_48 : decode cX1_learn 48 = .ok (.aload_n 1, 1) := by decide +kernel
theorem dX1_learn_49 : decode cX1_learn 49 = .ok (.getfield 37, 3) := by decide +kernel
theorem dX1_learn_52 : decode cX1_learn 52 = .ok (.iload_n 2, 1) := by decide +kernel
theorem dX1_learn_53 : decode cX1_learn 53 = .ok (.iaload, 1) := by decide +kernel
theorem dX1_learn_54 : decode cX1_learn 54 = .ok (.iadd, 1) := by decide +kernel
theorem dX1_learn_55 : decode cX1_learn 55 = .ok (.iastore, 1) := by decide +kernel
theorem dX1_learn_56 : decode cX1_learn 56 = .ok (.iinc 3 1, 3) := by decide +kernel
theorem dX1_learn_59 : decode cX1_learn 59 = .ok (.goto (-35), 3) := by decide +kernel
theorem dX1_learn_62 : decode cX1_learn 62 = .ok (.aload_n 0, 1) := by decide +kernel
theorem dX1_learn_63 : decode cX1_learn 63 = .ok (.dup, 1) := by decide +kernel
theorem dX1_learn_64 : decode cX1_learn 64 = .ok (.getfield 15, 3) := by decide +kernel
theorem dX1_learn_67 : decode cX1_learn 67 = .ok (.iconst 2, 1) := by decide +kernel
theorem dX1_learn_68 : decode cX1_learn 68 = .ok (.imul, 1) := by decide +kernel
theorem dX1_learn_69 : decode cX1_learn 69 = .ok (.putfield 15, 3) := by decide +kernel
theorem dX1_learn_72 : decode cX1_learn 72 = .ok (.iinc 2 1, 3) := by decide +kernel
theorem dX1_learn_75 : decode cX1_learn 75 = .ok (.goto (-61), 3) := by decide +kernel
theorem dX1_learn_78 : decode cX1_learn 78 = .ok (.iconst 5, 1) := by decide +kernel
theorem dX1_learn_79 : decode cX1_learn 79 = .ok (.aload_n 1, 1) := by decide +kernel
theorem dX1_learn_80 : decode cX1_learn 80 = .ok (.getfield 32, 3) := by decide +kernel
theorem dX1_learn_83 : decode cX1_learn 83 = .ok (.invokestatic 40, 3) := by decide +kernel
theorem dX1_learn_86 : decode cX1_learn 86 = .ok (.istore_n 2, 1) := by decide +kernel
theorem dX1_learn_87 : decode cX1_learn 87 = .ok (.aload_n 0, 1) := by decide +kernel
theorem dX1_learn_88 : decode cX1_learn 88 = .ok (.aload_n 1, 1) := by decide +kernel
theorem dX1_learn_89 : decode cX1_learn 89 = .ok (.iload_n 2, 1) := by decide +kernel
theorem dX1_learn_90 : decode cX1_learn 90 = .ok (.aload_n 1, 1) := by decide +kernel
theorem dX1_learn_91 : decode cX1_learn 91 = .ok (.getfield 32, 3) := by decide +kernel
theorem dX1_learn_94 : decode cX1_learn 94 = .ok (.invokevirtual 46, 3) := by decide +kernel
theorem dX1_learn_97 : decode cX1_learn 97 = .ok (.aload_n 0, 1) := by decide +kernel
theorem dX1_learn_98 : decode cX1_learn 98 = .ok (.invokevirtual 50, 3) := by decide +kernel
theorem dX1_learn_101 : decode cX1_learn 101 = .ok (.aload_n 0, 1) := by decide +kernel
theorem dX1_learn_102 : decode cX1_learn 102 = .ok (.aload_n 1, 1) := by decide +kernel
theorem dX1_learn_103 : decode cX1_learn 103 = .ok (.iconst 0, 1) := by decide +kernel
theorem dX1_learn_104 : decode cX1_learn 104 = .ok (.iload_n 2, 1) := by decide +kernel
theorem dX1_learn_105 : decode cX1_learn 105 = .ok (.invokevirtual 46, 3) := by decide +kernel
theorem dX1_learn_108 : decode cX1_learn 108 = .ok (.return_, 1) := by decide +kernel
def f_X1_firstNotBelow_h44 (F : Nat) (r7 : Int64 → Int32 → Int32 → si_St → Option (Int32 × si_St)) (x1 : Int64) (x3 : Int32) (x4 : Int32) (S : si_St) : Option (Int32 × si_St) :=
  Option.bind (some (x4 / 2)) fun v1 => r7 x1 x3 v1 S
def f_X1_firstNotBelow_h7 (F : Nat) (r7 : Int64 → Int32 → Int32 → si_St → Option (Int32 × si_St)) (x1 : Int64) (x3 : Int32) (x4 : Int32) (S : si_St) : Option (Int32 × si_St) :=
  if x4 ≤ 0 then (some (x3, S)) else (if (S.1 3 5) < (x3 + x4) then (f_X1_firstNotBelow_h44 F r7 x1 x3 x4 S) else (Option.bind (si_rl S 6 ((x3 + x4) - 1)) fun v2 => if 0 ≤ (lg_cmp v2 x1) then (f_X1_firstNotBelow_h44 F r7 x1 x3 x4 S) else (Option.bind (some (x3 + x4)) fun v3 => f_X1_firstNotBelow_h44 F r7 x1 v3 x4 S)))
def f_X1_firstNotBelow_l7 (F : Nat) : Nat → Int64 → Int32 → Int32 → si_St → Option (Int32 × si_St)
 | 0 => fun _ _ _ _ => none
 | n + 1 => fun x1 x3 x4 S => f_X1_firstNotBelow_h7 F (f_X1_firstNotBelow_l7 F n) x1 x3 x4 S
def f_X1_firstNotBelow (F : Nat) (x1 : Int64) (S : si_St) : Option (Int32 × si_St) :=
  f_X1_firstNotBelow_l7 F F x1 0 128 S
def f_X1_listWays_h67 (F : Nat) (k1 : Nat) (r15 : Int32 → Int32 → si_St → Option (si_St)) (r67 : Int32 → Int32 → Int64 → Int64 → Int32 → si_St → Option (si_St)) (x3 : Int32) (x4 : Int32) (x7 : Int64) (x9 : Int64) (x11 : Int32) (S : si_St) : Option (si_St) :=
  if (S.1 3 3) ≤ x11 then (Option.bind (si_pt S 3 3 ((S.1 3 3) * 3)) fun S1 => Option.bind (some (x4 + 1)) fun v2 => r15 x3 v2 S1) else (Option.bind (si_rl S 5 x11) fun v3 => Option.bind (si_wl S 5 ((S.1 3 3) + x11) (v3 + x7)) fun S4 => Option.bind (si_rl S4 5 x11) fun v5 => Option.bind (si_wl S4 5 ((2 * (S4.1 3 3)) + x11) (v5 + x9)) fun S6 => Option.bind (some (x11 + 1)) fun v7 => r67 x3 x4 x7 x9 v7 S6)
def f_X1_listWays_l67 (F : Nat) (k1 : Nat) (r15 : Int32 → Int32 → si_St → Option (si_St)) : Nat → Int32 → Int32 → Int64 → Int64 → Int32 → si_St → Option (si_St)
 | 0 => fun _ _ _ _ _ _ => none
 | n + 1 => fun x3 x4 x7 x9 x11 S => f_X1_listWays_h67 F k1 r15 (f_X1_listWays_l67 F k1 r15 n) x3 x4 x7 x9 x11 S
def f_X1_listWays_h15 (F : Nat) (k1 : Nat) (r15 : Int32 → Int32 → si_St → Option (si_St)) (x3 : Int32) (x4 : Int32) (S : si_St) : Option (si_St) :=
  if x3 ≤ x4 then (some S) else (Option.bind (si_rd S (k1 + 5) x4) fun v8 => Option.bind (some ((Int32.toInt64 v8) <<< ((24 : Int32).toInt64 &&& 63))) fun v9 => Option.bind (some ((v9 + (1048576 : Int64)) + ((1 : Int64) <<< (((10 + x4) : Int32).toInt64 &&& 63)))) fun v10 => Option.bind (some (((-v9) + (1048576 : Int64)) + ((1 : Int64) <<< (x4.toInt64 &&& 63)))) fun v11 => f_X1_listWays_l67 F k1 r15 F x3 x4 v10 v11 0 S)
def f_X1_listWays_l15 (F : Nat) (k1 : Nat) : Nat → Int32 → Int32 → si_St → Option (si_St)
 | 0 => fun _ _ _ => none
 | n + 1 => fun x3 x4 S => f_X1_listWays_h15 F k1 (f_X1_listWays_l15 F k1 n) x3 x4 S
def f_X1_listWays (F : Nat) (k1 : Nat) (x2 : Int32) (x3 : Int32) (S : si_St) : Option (si_St) :=
  Option.bind (si_wl S 5 0 (0 : Int64)) fun S12 => Option.bind (si_pt S12 3 3 1) fun S13 => f_X1_listWays_l15 F k1 F x3 x2 S13
def f_X1_sortWays_h7 (F : Nat) (r7 : Int32 → si_St → Option (si_St)) (x1 : Int32) (S : si_St) : Option (si_St) :=
  if (S.1 3 3) ≤ x1 then (some S) else (Option.bind (si_rl S 5 x1) fun v1 => Option.bind (f_X1_firstNotBelow F v1 S) fun q2 => Option.bind (si_cpl q2.2 6 q2.1 6 (q2.1 + 1) ((q2.2.1 3 5) - q2.1)) fun S3 => Option.bind (si_rl S3 5 x1) fun v4 => Option.bind (si_wl S3 6 q2.1 v4) fun S5 => Option.bind (si_pt S5 3 5 ((S5.1 3 5) + 1)) fun S6 => Option.bind (some (x1 + 1)) fun v7 => r7 v7 S6)
def f_X1_sortWays_l7 (F : Nat) : Nat → Int32 → si_St → Option (si_St)
 | 0 => fun _ _ => none
 | n + 1 => fun x1 S => f_X1_sortWays_h7 F (f_X1_sortWays_l7 F n) x1 S
def f_X1_sortWays (F : Nat) (S : si_St) : Option (si_St) :=
  Option.bind (si_pt S 3 5 0) fun S8 => f_X1_sortWays_l7 F F 0 S8
def f_X1_learn_h24 (F : Nat) (k1 : Nat) (r14 : Int32 → si_St → Option (si_St)) (r24 : Int32 → Int32 → si_St → Option (si_St)) (x2 : Int32) (x3 : Int32) (S : si_St) : Option (si_St) :=
  if (S.1 3 1) ≤ x3 then (Option.bind (si_pt S 3 1 ((S.1 3 1) * 2)) fun S1 => Option.bind (some (x2 + 1)) fun v2 => r14 v2 S1) else (Option.bind (si_rd S 4 x3) fun v3 => Option.bind (si_rd S (k1 + 5) x2) fun v4 => Option.bind (si_wr S 4 ((S.1 3 1) + x3) (v3 + v4)) fun S5 => Option.bind (some (x3 + 1)) fun v6 => r24 x2 v6 S5)
def f_X1_learn_l24 (F : Nat) (k1 : Nat) (r14 : Int32 → si_St → Option (si_St)) : Nat → Int32 → Int32 → si_St → Option (si_St)
 | 0 => fun _ _ _ => none
 | n + 1 => fun x2 x3 S => f_X1_learn_h24 F k1 r14 (f_X1_learn_l24 F k1 r14 n) x2 x3 S
def f_X1_learn_h14 (F : Nat) (k1 : Nat) (r14 : Int32 → si_St → Option (si_St)) (x2 : Int32) (S : si_St) : Option (si_St) :=
  if (S.1 k1 2) ≤ x2 then (Option.bind (some (si_min 5 (S.1 k1 2))) fun v7 => Option.bind (f_X1_listWays F k1 v7 (S.1 k1 2) S) fun S8 => Option.bind (f_X1_sortWays F S8) fun S9 => Option.bind (f_X1_listWays F k1 0 v7 S9) fun S10 => some S10) else (f_X1_learn_l24 F k1 r14 F x2 0 S)
def f_X1_learn_l14 (F : Nat) (k1 : Nat) : Nat → Int32 → si_St → Option (si_St)
 | 0 => fun _ _ => none
 | n + 1 => fun x2 S => f_X1_learn_h14 F k1 (f_X1_learn_l14 F k1 n) x2 S
def f_X1_learn (F : Nat) (k1 : Nat) (S : si_St) : Option (si_St) :=
  Option.bind (si_pt S 3 1 1) fun S11 => Option.bind (si_wr S11 4 0 0) fun S12 => f_X1_learn_l14 F k1 F 0 S12
abbrev rm_X1_firstNotBelow : Room := { frames := 0, cells := 0, slots := 0, locals := 0 }
set_option maxHeartbeats 4000000 in
set_option maxRecDepth 100000 in
theorem c_X1_firstNotBelow (l : Launch) (E : si_Ev) (F : Nat) (x1 : Int64) (S : si_St) (o : Int32 × si_St) (hf : f_X1_firstNotBelow F x1 S = some o) : si_Mi l E yX1_firstNotBelow cX1_firstNotBelow 5 (some .int) rm_X1_firstNotBelow [.ref (E.2.1 3), .long x1] S o := by
  refine si_ofWi (plainFor_of_name (by decide +kernel)) (Nat.le_of_ble_eq_true rfl) ?_
  intro p e s m args below meth c ls Q A X hw hA hl hret
  have hl : lv_has ls 5 [(0, .ref (E.2.1 3)), (1, .long x1)] := hl
  have B7 : ∀ (n7 : Nat) (x1 : Int64) (x3 : Int32) (x4 : Int32) (S : si_St) (H : Heap) (locs : List Loc) (ls : Array Slot), f_X1_firstNotBelow_l7 F n7 x1 x3 x4 S = some o → si_Ws E A s.heap S H locs → lv_has ls 5 [(0, .ref (E.2.1 3)), (1, .long x1), (3, .int x3), (4, .int x4)] → W p l e rm_X1_firstNotBelow s m args below meth c H locs 0 0 Q (F0 m 7 ls []) := by
    intro n7
    induction n7 with
    | zero => intro x1 x3 x4  S H locs ls hf; cases hf
    | succ n7 ih7 =>
      have B44 : ∀ (x1 : Int64) (x3 : Int32) (x4 : Int32) (S : si_St) (H : Heap) (locs : List Loc) (ls : Array Slot), f_X1_firstNotBelow_h44 F (f_X1_firstNotBelow_l7 F n7) x1 x3 x4 S = some o → si_Ws E A s.heap S H locs → lv_has ls 5 [(0, .ref (E.2.1 3)), (1, .long x1), (3, .int x3), (4, .int x4)] → W p l e rm_X1_firstNotBelow s m args below meth c H locs 0 0 Q (F0 m 44 ls []) := by
        intro x1 x3 x4  S H locs ls hf hw hl
        unfold f_X1_firstNotBelow_h44 at hf
        refine lv_iload X.1 X.2.1 dX1_firstNotBelow_44 (lv_at hl 3 rfl) ?_
        refine lv_iconst (v := 2) X.1 X.2.1 dX1_firstNotBelow_46 (by decide) ?_
        refine lv_idiv X.1 X.2.1 dX1_firstNotBelow_47 (by decide) ?_
        obtain ⟨v1, ev1, hf⟩ := si_ob hf
        refine si_nmI ev1 ?_
        refine lv_istore (lv' := [(4, .int v1), (0, .ref (E.2.1 3)), (1, .long x1), (3, .int x3)]) X.1 X.2.1 dX1_firstNotBelow_48 hl (by decide) rfl (fun ls hl => ?_)
        refine lv_goto (tgt := 7) X.1 X.2.1 dX1_firstNotBelow_50 (by decide) ?_
        exact ih7 _ _ _ _ _ _ _ hf hw (lv_sub hl [1, 2, 3, 0] rfl)
      intro x1 x3 x4  S H locs ls hf hw hl
      have hf : f_X1_firstNotBelow_h7 F (f_X1_firstNotBelow_l7 F n7) x1 x3 x4 S = some o := hf
      unfold f_X1_firstNotBelow_h7 at hf
      refine lv_iload X.1 X.2.1 dX1_firstNotBelow_7 (lv_at hl 3 rfl) ?_
      refine lv_if_le (tgt := 53) X.1 X.2.1 dX1_firstNotBelow_9 (by decide) (fun c9 => ?_) (fun c9 => ?_)
      · have hf := si_ip c9 hf
        refine lv_iload_n X.1 X.2.1 dX1_firstNotBelow_53 rfl (lv_at hl 2 rfl) ?_
        exact hret _ _ _ _ _ _ hf hw dX1_firstNotBelow_54
      · have hf := si_in c9 hf
        refine lv_iload_n X.1 X.2.1 dX1_firstNotBelow_12 rfl (lv_at hl 2 rfl) ?_
        refine lv_iload X.1 X.2.1 dX1_firstNotBelow_13 (lv_at hl 3 rfl) ?_
        refine lv_iadd X.1 X.2.1 dX1_firstNotBelow_15 ?_
        refine lv_aload_n X.1 X.2.1 dX1_firstNotBelow_16 rfl (lv_at hl 0 rfl) ?_
        refine si_getI X hw si_cl1 5 (by decide) gf_RX1_29 rfl rfl rfl dX1_firstNotBelow_17 ?_
        refine lv_icmp_gt (tgt := 44) X.1 X.2.1 dX1_firstNotBelow_20 (by decide) (fun c20 => ?_) (fun c20 => ?_)
        · have hf := si_ip c20 hf
          exact B44 _ _ _ _ _ _ _ hf hw (lv_sub hl [0, 1, 2, 3] rfl)
        · have hf := si_in c20 hf
          refine lv_aload_n X.1 X.2.1 dX1_firstNotBelow_23 rfl (lv_at hl 0 rfl) ?_
          refine si_getR (k' := 6) (d := 3) X hw si_cl1 4 (by decide) gf_RX1_26 rfl rfl rfl (by decide) rfl dX1_firstNotBelow_24 ?_
          refine lv_iload_n X.1 X.2.1 dX1_firstNotBelow_27 rfl (lv_at hl 2 rfl) ?_
          refine lv_iload X.1 X.2.1 dX1_firstNotBelow_28 (lv_at hl 3 rfl) ?_
          refine lv_iadd X.1 X.2.1 dX1_firstNotBelow_30 ?_
          refine lv_iconst (v := 1) X.1 X.2.1 dX1_firstNotBelow_31 (by decide) ?_
          refine lv_isub X.1 X.2.1 dX1_firstNotBelow_32 ?_
          obtain ⟨v2, ev2, hf⟩ := si_ob hf
          refine si_lald X hw rfl ev2 dX1_firstNotBelow_33 ?_
          refine lv_lload_n X.1 X.2.1 dX1_firstNotBelow_34 rfl (lv_at hl 1 rfl) ?_
          refine W.lcmp X.1 X.2.1 dX1_firstNotBelow_35 ?_
          refine lv_if_ge (tgt := 44) X.1 X.2.1 dX1_firstNotBelow_36 (by decide) (fun c36 => ?_) (fun c36 => ?_)
          · have hf := si_ip c36 hf
            exact B44 _ _ _ _ _ _ _ hf hw (lv_sub hl [0, 1, 2, 3] rfl)
          · have hf := si_in c36 hf
            refine lv_iload_n X.1 X.2.1 dX1_firstNotBelow_39 rfl (lv_at hl 2 rfl) ?_
            refine lv_iload X.1 X.2.1 dX1_firstNotBelow_40 (lv_at hl 3 rfl) ?_
            refine lv_iadd X.1 X.2.1 dX1_firstNotBelow_42 ?_
            obtain ⟨v3, ev3, hf⟩ := si_ob hf
            refine si_nmI ev3 ?_
            refine lv_istore_n (lv' := [(3, .int v3), (0, .ref (E.2.1 3)), (1, .long x1), (4, .int x4)]) X.1 X.2.1 dX1_firstNotBelow_43 rfl hl (by decide) rfl (fun ls hl => ?_)
            exact B44 _ _ _ _ _ _ _ hf hw (lv_sub hl [1, 2, 0, 3] rfl)
  unfold f_X1_firstNotBelow at hf
  refine lv_iconst (v := 0) X.1 X.2.1 dX1_firstNotBelow_0 (by decide) ?_
  refine lv_istore_n (lv' := [(3, .int 0), (0, .ref (E.2.1 3)), (1, .long x1)]) X.1 X.2.1 dX1_firstNotBelow_1 rfl hl (by decide) rfl (fun ls hl => ?_)
  refine lv_sipush (v := 128) X.1 X.2.1 dX1_firstNotBelow_2 (by decide) ?_
  refine lv_istore (lv' := [(4, .int 128), (3, .int 0), (0, .ref (E.2.1 3)), (1, .long x1)]) X.1 X.2.1 dX1_firstNotBelow_5 hl (by decide) rfl (fun ls hl => ?_)
  exact B7 F _ _ _ _ _ _ _ hf hw (lv_sub hl [2, 3, 1, 0] rfl)
abbrev rm_X1_listWays : Room := { frames := 0, cells := 0, slots := 0, locals := 0 }
set_option maxHeartbeats 4000000 in
set_option maxRecDepth 100000 in
theorem c_X1_listWays (l : Launch) (E : si_Ev) (F : Nat) (k1 : Nat) (hk1 : si_kd k1 = 2) (x2 : Int32) (x3 : Int32) (S : si_St) (o : si_St) (hf : f_X1_listWays F k1 x2 x3 S = some o) : si_Mv l E yX1_listWays cX1_listWays 12 rm_X1_listWays [.ref (E.2.1 3), .ref (E.2.1 k1), .int x2, .int x3] S o := by
  refine si_ofWv (plainFor_of_name (by decide +kernel)) (Nat.le_of_ble_eq_true rfl) ?_
  intro p e s m args below meth c ls Q A X hw hA hl hret
  have hl : lv_has ls 12 [(0, .ref (E.2.1 3)), (1, .ref (E.2.1 k1)), (2, .int x2), (3, .int x3)] := hl
  have B15 : ∀ (n15 : Nat) (x3 : Int32) (x4 : Int32) (S : si_St) (H : Heap) (locs : List Loc) (ls : Array Slot), f_X1_listWays_l15 F k1 n15 x3 x4 S = some o → si_Ws E A s.heap S H locs → lv_has ls 12 [(0, .ref (E.2.1 3)), (1, .ref (E.2.1 k1)), (3, .int x3), (4, .int x4)] → W p l e rm_X1_listWays s m args below meth c H locs 0 0 Q (F0 m 15 ls []) := by
    intro n15
    induction n15 with
    | zero => intro x3 x4  S H locs ls hf; cases hf
    | succ n15 ih15 =>
      have B67 : ∀ (n67 : Nat) (x3 : Int32) (x4 : Int32) (x7 : Int64) (x9 : Int64) (x11 : Int32) (S : si_St) (H : Heap) (locs : List Loc) (ls : Array Slot), f_X1_listWays_l67 F k1 (f_X1_listWays_l15 F k1 n15) n67 x3 x4 x7 x9 x11 S = some o → si_Ws E A s.heap S H locs → lv_has ls 12 [(0, .ref (E.2.1 3)), (1, .ref (E.2.1 k1)), (3, .int x3), (4, .int x4), (7, .long x7), (9, .long x9), (11, .int x11)] → W p l e rm_X1_listWays s m args below meth c H locs 0 0 Q (F0 m 67 ls []) := by
        intro n67
        induction n67 with
        | zero => intro x3 x4 x7 x9 x11  S H locs ls hf; cases hf
        | succ n67 ih67 =>
          intro x3 x4 x7 x9 x11  S H locs ls hf hw hl
          have hf : f_X1_listWays_h67 F k1 (f_X1_listWays_l15 F k1 n15) (f_X1_listWays_l67 F k1 (f_X1_listWays_l15 F k1 n15) n67) x3 x4 x7 x9 x11 S = some o := hf
          unfold f_X1_listWays_h67 at hf
          refine lv_iload X.1 X.2.1 dX1_listWays_67 (lv_at hl 6 rfl) ?_
          refine lv_aload_n X.1 X.2.1 dX1_listWays_69 rfl (lv_at hl 0 rfl) ?_
          refine si_getI X hw si_cl1 3 (by decide) gf_RX1_23 rfl rfl rfl dX1_listWays_70 ?_
          refine lv_icmp_ge (tgt := 128) X.1 X.2.1 dX1_listWays_73 (by decide) (fun c73 => ?_) (fun c73 => ?_)
          · have hf := si_ip c73 hf
            refine lv_aload_n X.1 X.2.1 dX1_listWays_128 rfl (lv_at hl 0 rfl) ?_
            refine lv_dup X.1 X.2.1 dX1_listWays_129 rfl ?_
            refine si_getI X hw si_cl1 3 (by decide) gf_RX1_23 rfl rfl rfl dX1_listWays_130 ?_
            refine lv_iconst (v := 3) X.1 X.2.1 dX1_listWays_133 (by decide) ?_
            refine lv_imul X.1 X.2.1 dX1_listWays_134 ?_
            obtain ⟨S1, eS1, hf⟩ := si_ob hf
            refine si_ptI X hw si_cl1 3 (by decide) gf_RX1_23 rfl rfl rfl rfl rfl eS1 dX1_listWays_135 (fun H locs hw => ?_)
            obtain ⟨v2, ev2, hf⟩ := si_ob hf
            refine lv_iinc (v := v2) (lv' := [(4, .int v2), (0, .ref (E.2.1 3)), (1, .ref (E.2.1 k1)), (3, .int x3), (7, .long x7), (9, .long x9), (11, .int x11)]) X.1 X.2.1 dX1_listWays_138 hl (k := 3) rfl (Option.some.inj ev2) (by decide) rfl (fun ls hl => ?_)
            refine lv_goto (tgt := 15) X.1 X.2.1 dX1_listWays_141 (by decide) ?_
            exact ih15 _ _ _ _ _ _ hf hw (lv_sub hl [1, 2, 3, 0] rfl)
          · have hf := si_in c73 hf
            refine lv_aload_n X.1 X.2.1 dX1_listWays_76 rfl (lv_at hl 0 rfl) ?_
            refine si_getR (k' := 5) (d := 2) X hw si_cl1 2 (by decide) gf_RX1_19 rfl rfl rfl (by decide) rfl dX1_listWays_77 ?_
            refine lv_aload_n X.1 X.2.1 dX1_listWays_80 rfl (lv_at hl 0 rfl) ?_
            refine si_getI X hw si_cl1 3 (by decide) gf_RX1_23 rfl rfl rfl dX1_listWays_81 ?_
            refine lv_iload X.1 X.2.1 dX1_listWays_84 (lv_at hl 6 rfl) ?_
            refine lv_iadd X.1 X.2.1 dX1_listWays_86 ?_
            refine lv_aload_n X.1 X.2.1 dX1_listWays_87 rfl (lv_at hl 0 rfl) ?_
            refine si_getR (k' := 5) (d := 2) X hw si_cl1 2 (by decide) gf_RX1_19 rfl rfl rfl (by decide) rfl dX1_listWays_88 ?_
            refine lv_iload X.1 X.2.1 dX1_listWays_91 (lv_at hl 6 rfl) ?_
            obtain ⟨v3, ev3, hf⟩ := si_ob hf
            refine si_lald X hw rfl ev3 dX1_listWays_93 ?_
            refine lv_lload X.1 X.2.1 dX1_listWays_94 (lv_at hl 4 rfl) ?_
            refine lv_ladd X.1 X.2.1 dX1_listWays_96 ?_
            obtain ⟨S4, eS4, hf⟩ := si_ob hf
            refine si_last X hw rfl eS4 dX1_listWays_97 (fun H locs hw => ?_)
            refine lv_aload_n X.1 X.2.1 dX1_listWays_98 rfl (lv_at hl 0 rfl) ?_
            refine si_getR (k' := 5) (d := 2) X hw si_cl1 2 (by decide) gf_RX1_19 rfl rfl rfl (by decide) rfl dX1_listWays_99 ?_
            refine lv_iconst (v := 2) X.1 X.2.1 dX1_listWays_102 (by decide) ?_
            refine lv_aload_n X.1 X.2.1 dX1_listWays_103 rfl (lv_at hl 0 rfl) ?_
            refine si_getI X hw si_cl1 3 (by decide) gf_RX1_23 rfl rfl rfl dX1_listWays_104 ?_
            refine lv_imul X.1 X.2.1 dX1_listWays_107 ?_
            refine lv_iload X.1 X.2.1 dX1_listWays_108 (lv_at hl 6 rfl) ?_
            refine lv_iadd X.1 X.2.1 dX1_listWays_110 ?_
            refine lv_aload_n X.1 X.2.1 dX1_listWays_111 rfl (lv_at hl 0 rfl) ?_
            refine si_getR (k' := 5) (d := 2) X hw si_cl1 2 (by decide) gf_RX1_19 rfl rfl rfl (by decide) rfl dX1_listWays_112 ?_
            refine lv_iload X.1 X.2.1 dX1_listWays_115 (lv_at hl 6 rfl) ?_
            obtain ⟨v5, ev5, hf⟩ := si_ob hf
            refine si_lald X hw rfl ev5 dX1_listWays_117 ?_
            refine lv_lload X.1 X.2.1 dX1_listWays_118 (lv_at hl 5 rfl) ?_
            refine lv_ladd X.1 X.2.1 dX1_listWays_120 ?_
            obtain ⟨S6, eS6, hf⟩ := si_ob hf
            refine si_last X hw rfl eS6 dX1_listWays_121 (fun H locs hw => ?_)
            obtain ⟨v7, ev7, hf⟩ := si_ob hf
            refine lv_iinc (v := v7) (lv' := [(11, .int v7), (0, .ref (E.2.1 3)), (1, .ref (E.2.1 k1)), (3, .int x3), (4, .int x4), (7, .long x7), (9, .long x9)]) X.1 X.2.1 dX1_listWays_122 hl (k := 6) rfl (Option.some.inj ev7) (by decide) rfl (fun ls hl => ?_)
            refine lv_goto (tgt := 67) X.1 X.2.1 dX1_listWays_125 (by decide) ?_
            exact ih67 _ _ _ _ _ _ _ _ _ hf hw (lv_sub hl [1, 2, 3, 4, 5, 6, 0] rfl)
      intro x3 x4  S H locs ls hf hw hl
      have hf : f_X1_listWays_h15 F k1 (f_X1_listWays_l15 F k1 n15) x3 x4 S = some o := hf
      unfold f_X1_listWays_h15 at hf
      refine lv_iload X.1 X.2.1 dX1_listWays_15 (lv_at hl 3 rfl) ?_
      refine lv_iload_n X.1 X.2.1 dX1_listWays_17 rfl (lv_at hl 2 rfl) ?_
      refine lv_icmp_ge (tgt := 144) X.1 X.2.1 dX1_listWays_18 (by decide) (fun c18 => ?_) (fun c18 => ?_)
      · have hf := si_ip c18 hf
        exact hret _ _ _ _ _ hf hw dX1_listWays_144
      · have hf := si_in c18 hf
        refine lv_aload_n X.1 X.2.1 dX1_listWays_21 rfl (lv_at hl 1 rfl) ?_
        refine si_getR (k' := (k1 + 5)) (d := 5) X hw si_cl2 8 (by decide) gf_RX1_37 rfl hk1 rfl (by decide) rfl dX1_listWays_22 ?_
        refine lv_iload X.1 X.2.1 dX1_listWays_25 (lv_at hl 3 rfl) ?_
        obtain ⟨v8, ev8, hf⟩ := si_ob hf
        refine si_iald X hw (sk_2_5 hk1) ev8 dX1_listWays_27 ?_
        refine lv_i2l (v := (Int32.toInt64 v8)) X.1 X.2.1 dX1_listWays_28 rfl ?_
        refine lv_bipush (v := 24) X.1 X.2.1 dX1_listWays_29 (by decide) ?_
        refine lv_lshl (v := ((Int32.toInt64 v8) <<< ((24 : Int32).toInt64 &&& 63))) X.1 X.2.1 dX1_listWays_31 rfl ?_
        obtain ⟨v9, ev9, hf⟩ := si_ob hf
        refine si_nmJ ev9 ?_
        refine lv_lstore (lv' := [(5, .long v9), (0, .ref (E.2.1 3)), (1, .ref (E.2.1 k1)), (3, .int x3), (4, .int x4)]) X.1 X.2.1 dX1_listWays_32 hl (by decide) rfl (fun ls hl => ?_)
        refine lv_lload X.1 X.2.1 dX1_listWays_34 (lv_at hl 0 rfl) ?_
        refine lv_ldc2 (v := (1048576 : Int64)) X.1 X.2.1 X.2.2.2.1 (si_wd X gk_RX1_68) dX1_listWays_36 ?_
        refine lv_ladd X.1 X.2.1 dX1_listWays_39 ?_
        refine lv_lconst (v := (1 : Int64)) X.1 X.2.1 dX1_listWays_40 (by decide) ?_
        refine lv_bipush (v := 10) X.1 X.2.1 dX1_listWays_41 (by decide) ?_
        refine lv_iload X.1 X.2.1 dX1_listWays_43 (lv_at hl 4 rfl) ?_
        refine lv_iadd X.1 X.2.1 dX1_listWays_45 ?_
        refine lv_lshl (v := ((1 : Int64) <<< (((10 + x4) : Int32).toInt64 &&& 63))) X.1 X.2.1 dX1_listWays_46 rfl ?_
        refine lv_ladd X.1 X.2.1 dX1_listWays_47 ?_
        obtain ⟨v10, ev10, hf⟩ := si_ob hf
        refine si_nmJ ev10 ?_
        refine lv_lstore (lv' := [(7, .long v10), (5, .long v9), (0, .ref (E.2.1 3)), (1, .ref (E.2.1 k1)), (3, .int x3), (4, .int x4)]) X.1 X.2.1 dX1_listWays_48 hl (by decide) rfl (fun ls hl => ?_)
        refine lv_lload X.1 X.2.1 dX1_listWays_50 (lv_at hl 1 rfl) ?_
        refine lv_lneg X.1 X.2.1 dX1_listWays_52 ?_
        refine lv_ldc2 (v := (1048576 : Int64)) X.1 X.2.1 X.2.2.2.1 (si_wd X gk_RX1_68) dX1_listWays_53 ?_
        refine lv_ladd X.1 X.2.1 dX1_listWays_56 ?_
        refine lv_lconst (v := (1 : Int64)) X.1 X.2.1 dX1_listWays_57 (by decide) ?_
        refine lv_iload X.1 X.2.1 dX1_listWays_58 (lv_at hl 5 rfl) ?_
        refine lv_lshl (v := ((1 : Int64) <<< (x4.toInt64 &&& 63))) X.1 X.2.1 dX1_listWays_60 rfl ?_
        refine lv_ladd X.1 X.2.1 dX1_listWays_61 ?_
        obtain ⟨v11, ev11, hf⟩ := si_ob hf
        refine si_nmJ ev11 ?_
        refine lv_lstore (lv' := [(9, .long v11), (7, .long v10), (5, .long v9), (0, .ref (E.2.1 3)), (1, .ref (E.2.1 k1)), (3, .int x3), (4, .int x4)]) X.1 X.2.1 dX1_listWays_62 hl (by decide) rfl (fun ls hl => ?_)
        refine lv_iconst (v := 0) X.1 X.2.1 dX1_listWays_64 (by decide) ?_
        refine lv_istore (lv' := [(11, .int 0), (9, .long v11), (7, .long v10), (5, .long v9), (0, .ref (E.2.1 3)), (1, .ref (E.2.1 k1)), (3, .int x3), (4, .int x4)]) X.1 X.2.1 dX1_listWays_65 hl (by decide) rfl (fun ls hl => ?_)
        exact B67 F _ _ _ _ _ _ _ _ _ hf hw (lv_sub hl [4, 5, 6, 7, 2, 1, 0] rfl)
  unfold f_X1_listWays at hf
  refine lv_aload_n X.1 X.2.1 dX1_listWays_0 rfl (lv_at hl 0 rfl) ?_
  refine si_getR (k' := 5) (d := 2) X hw si_cl1 2 (by decide) gf_RX1_19 rfl rfl rfl (by decide) rfl dX1_listWays_1 ?_
  refine lv_iconst (v := 0) X.1 X.2.1 dX1_listWays_4 (by decide) ?_
  refine lv_lconst (v := (0 : Int64)) X.1 X.2.1 dX1_listWays_5 (by decide) ?_
  obtain ⟨S12, eS12, hf⟩ := si_ob hf
  refine si_last X hw rfl eS12 dX1_listWays_6 (fun H locs hw => ?_)
  refine lv_aload_n X.1 X.2.1 dX1_listWays_7 rfl (lv_at hl 0 rfl) ?_
  refine lv_iconst (v := 1) X.1 X.2.1 dX1_listWays_8 (by decide) ?_
  obtain ⟨S13, eS13, hf⟩ := si_ob hf
  refine si_ptI X hw si_cl1 3 (by decide) gf_RX1_23 rfl rfl rfl rfl rfl eS13 dX1_listWays_9 (fun H locs hw => ?_)
  refine lv_iload_n X.1 X.2.1 dX1_listWays_12 rfl (lv_at hl 2 rfl) ?_
  refine lv_istore (lv' := [(4, .int x2), (0, .ref (E.2.1 3)), (1, .ref (E.2.1 k1)), (2, .int x2), (3, .int x3)]) X.1 X.2.1 dX1_listWays_13 hl (by decide) rfl (fun ls hl => ?_)
  exact B15 F _ _ _ _ _ _ hf hw (lv_sub hl [1, 2, 4, 0] rfl)
abbrev rm_X1_sortWays : Room := { frames := 1, cells := 0, slots := 0, locals := 40 }
set_option maxHeartbeats 4000000 in
set_option maxRecDepth 100000 in
theorem c_X1_sortWays (l : Launch) (E : si_Ev) (F : Nat) (S : si_St) (o : si_St) (hf : f_X1_sortWays F S = some o) : si_Mv l E yX1_sortWays cX1_sortWays 3 rm_X1_sortWays [.ref (E.2.1 3)] S o := by
  refine si_ofWv (plainFor_of_name (by decide +kernel)) (Nat.le_of_ble_eq_true rfl) ?_
  intro p e s m args below meth c ls Q A X hw hA hl hret
  have hl : lv_has ls 3 [(0, .ref (E.2.1 3))] := hl
  have B7 : ∀ (n7 : Nat) (x1 : Int32) (S : si_St) (H : Heap) (locs : List Loc) (ls : Array Slot), f_X1_sortWays_l7 F n7 x1 S = some o → si_Ws E A s.heap S H locs → lv_has ls 3 [(0, .ref (E.2.1 3)), (1, .int x1)] → W p l e rm_X1_sortWays s m args below meth c H locs 0 0 Q (F0 m 7 ls []) := by
    intro n7
    induction n7 with
    | zero => intro x1  S H locs ls hf; cases hf
    | succ n7 ih7 =>
      intro x1  S H locs ls hf hw hl
      have hf : f_X1_sortWays_h7 F (f_X1_sortWays_l7 F n7) x1 S = some o := hf
      unfold f_X1_sortWays_h7 at hf
      refine lv_iload_n X.1 X.2.1 dX1_sortWays_7 rfl (lv_at hl 1 rfl) ?_
      refine lv_aload_n X.1 X.2.1 dX1_sortWays_8 rfl (lv_at hl 0 rfl) ?_
      refine si_getI X hw si_cl1 3 (by decide) gf_RX1_23 rfl rfl rfl dX1_sortWays_9 ?_
      refine lv_icmp_ge (tgt := 75) X.1 X.2.1 dX1_sortWays_12 (by decide) (fun c12 => ?_) (fun c12 => ?_)
      · have hf := si_ip c12 hf
        exact hret _ _ _ _ _ hf hw dX1_sortWays_75
      · have hf := si_in c12 hf
        refine lv_aload_n X.1 X.2.1 dX1_sortWays_15 rfl (lv_at hl 0 rfl) ?_
        refine lv_aload_n X.1 X.2.1 dX1_sortWays_16 rfl (lv_at hl 0 rfl) ?_
        refine si_getR (k' := 5) (d := 2) X hw si_cl1 2 (by decide) gf_RX1_19 rfl rfl rfl (by decide) rfl dX1_sortWays_17 ?_
        refine lv_iload_n X.1 X.2.1 dX1_sortWays_20 rfl (lv_at hl 1 rfl) ?_
        obtain ⟨v1, ev1, hf⟩ := si_ob hf
        refine si_lald X hw rfl ev1 dX1_sortWays_21 ?_
        obtain ⟨q2, eq2, hf⟩ := si_ob hf
        refine si_cVi [.long v1] cal_X1_firstNotBelow gm_RX1_61 X hw hA hl.1 (c_X1_firstNotBelow l E F v1 S q2 eq2) si_cl1 rfl ⟨⟨rfl, rfl⟩, Nat.le_of_ble_eq_true rfl, Nat.le_of_ble_eq_true rfl⟩ rfl rfl (Nat.le_of_ble_eq_true rfl) ⟨Nat.zero_le _, Nat.zero_le _⟩ dX1_sortWays_22 (fun H locs hw => ?_)
        refine lv_istore_n (lv' := [(2, .int q2.1), (0, .ref (E.2.1 3)), (1, .int x1)]) X.1 X.2.1 dX1_sortWays_25 rfl hl (by decide) rfl (fun ls hl => ?_)
        refine lv_aload_n X.1 X.2.1 dX1_sortWays_26 rfl (lv_at hl 1 rfl) ?_
        refine si_getR (k' := 6) (d := 3) X hw si_cl1 4 (by decide) gf_RX1_26 rfl rfl rfl (by decide) rfl dX1_sortWays_27 ?_
        refine lv_iload_n X.1 X.2.1 dX1_sortWays_30 rfl (lv_at hl 0 rfl) ?_
        refine lv_aload_n X.1 X.2.1 dX1_sortWays_31 rfl (lv_at hl 1 rfl) ?_
        refine si_getR (k' := 6) (d := 3) X hw si_cl1 4 (by decide) gf_RX1_26 rfl rfl rfl (by decide) rfl dX1_sortWays_32 ?_
        refine lv_iload_n X.1 X.2.1 dX1_sortWays_35 rfl (lv_at hl 0 rfl) ?_
        refine lv_iconst (v := 1) X.1 X.2.1 dX1_sortWays_36 (by decide) ?_
        refine lv_iadd X.1 X.2.1 dX1_sortWays_37 ?_
        refine lv_aload_n X.1 X.2.1 dX1_sortWays_38 rfl (lv_at hl 1 rfl) ?_
        refine si_getI X hw si_cl1 5 (by decide) gf_RX1_29 rfl rfl rfl dX1_sortWays_39 ?_
        refine lv_iload_n X.1 X.2.1 dX1_sortWays_42 rfl (lv_at hl 0 rfl) ?_
        refine lv_isub X.1 X.2.1 dX1_sortWays_43 ?_
        obtain ⟨S3, eS3, hf⟩ := si_ob hf
        refine si_acopyl hl.1 X hw rfl rfl (by decide) (Nat.le_of_ble_eq_true rfl) eS3 gm_RX1_70 dX1_sortWays_44 (fun H locs hw => ?_)
        refine lv_aload_n X.1 X.2.1 dX1_sortWays_47 rfl (lv_at hl 1 rfl) ?_
        refine si_getR (k' := 6) (d := 3) X hw si_cl1 4 (by decide) gf_RX1_26 rfl rfl rfl (by decide) rfl dX1_sortWays_48 ?_
        refine lv_iload_n X.1 X.2.1 dX1_sortWays_51 rfl (lv_at hl 0 rfl) ?_
        refine lv_aload_n X.1 X.2.1 dX1_sortWays_52 rfl (lv_at hl 1 rfl) ?_
        refine si_getR (k' := 5) (d := 2) X hw si_cl1 2 (by decide) gf_RX1_19 rfl rfl rfl (by decide) rfl dX1_sortWays_53 ?_
        refine lv_iload_n X.1 X.2.1 dX1_sortWays_56 rfl (lv_at hl 2 rfl) ?_
        obtain ⟨v4, ev4, hf⟩ := si_ob hf
        refine si_lald X hw rfl ev4 dX1_sortWays_57 ?_
        obtain ⟨S5, eS5, hf⟩ := si_ob hf
        refine si_last X hw rfl eS5 dX1_sortWays_58 (fun H locs hw => ?_)
        refine lv_aload_n X.1 X.2.1 dX1_sortWays_59 rfl (lv_at hl 1 rfl) ?_
        refine lv_dup X.1 X.2.1 dX1_sortWays_60 rfl ?_
        refine si_getI X hw si_cl1 5 (by decide) gf_RX1_29 rfl rfl rfl dX1_sortWays_61 ?_
        refine lv_iconst (v := 1) X.1 X.2.1 dX1_sortWays_64 (by decide) ?_
        refine lv_iadd X.1 X.2.1 dX1_sortWays_65 ?_
        obtain ⟨S6, eS6, hf⟩ := si_ob hf
        refine si_ptI X hw si_cl1 5 (by decide) gf_RX1_29 rfl rfl rfl rfl rfl eS6 dX1_sortWays_66 (fun H locs hw => ?_)
        obtain ⟨v7, ev7, hf⟩ := si_ob hf
        refine lv_iinc (v := v7) (lv' := [(1, .int v7), (2, .int q2.1), (0, .ref (E.2.1 3))]) X.1 X.2.1 dX1_sortWays_69 hl (k := 2) rfl (Option.some.inj ev7) (by decide) rfl (fun ls hl => ?_)
        refine lv_goto (tgt := 7) X.1 X.2.1 dX1_sortWays_72 (by decide) ?_
        exact ih7 _ _ _ _ _ hf hw (lv_sub hl [2, 0] rfl)
  unfold f_X1_sortWays at hf
  refine lv_aload_n X.1 X.2.1 dX1_sortWays_0 rfl (lv_at hl 0 rfl) ?_
  refine lv_iconst (v := 0) X.1 X.2.1 dX1_sortWays_1 (by decide) ?_
  obtain ⟨S8, eS8, hf⟩ := si_ob hf
  refine si_ptI X hw si_cl1 5 (by decide) gf_RX1_29 rfl rfl rfl rfl rfl eS8 dX1_sortWays_2 (fun H locs hw => ?_)
  refine lv_iconst (v := 0) X.1 X.2.1 dX1_sortWays_5 (by decide) ?_
  refine lv_istore_n (lv' := [(1, .int 0), (0, .ref (E.2.1 3))]) X.1 X.2.1 dX1_sortWays_6 rfl hl (by decide) rfl (fun ls hl => ?_)
  exact B7 F _ _ _ _ _ hf hw (lv_sub hl [1, 0] rfl)
abbrev rm_X1_learn : Room := { frames := 2, cells := 0, slots := 0, locals := 62 }
set_option maxHeartbeats 4000000 in
set_option maxRecDepth 100000 in
theorem c_X1_learn (l : Launch) (E : si_Ev) (F : Nat) (k1 : Nat) (hk1 : si_kd k1 = 2) (S : si_St) (o : si_St) (hf : f_X1_learn F k1 S = some o) : si_Mv l E yX1_learn cX1_learn 4 rm_X1_learn [.ref (E.2.1 3), .ref (E.2.1 k1)] S o := by
  refine si_ofWv (plainFor_of_name (by decide +kernel)) (Nat.le_of_ble_eq_true rfl) ?_
  intro p e s m args below meth c ls Q A X hw hA hl hret
  have hl : lv_has ls 4 [(0, .ref (E.2.1 3)), (1, .ref (E.2.1 k1))] := hl
  have B14 : ∀ (n14 : Nat) (x2 : Int32) (S : si_St) (H : Heap) (locs : List Loc) (ls : Array Slot), f_X1_learn_l14 F k1 n14 x2 S = some o → si_Ws E A s.heap S H locs → lv_has ls 4 [(0, .ref (E.2.1 3)), (1, .ref (E.2.1 k1)), (2, .int x2)] → W p l e rm_X1_learn s m args below meth c H locs 0 0 Q (F0 m 14 ls []) := by
    intro n14
    induction n14 with
    | zero => intro x2  S H locs ls hf; cases hf
    | succ n14 ih14 =>
      have B24 : ∀ (n24 : Nat) (x2 : Int32) (x3 : Int32) (S : si_St) (H : Heap) (locs : List Loc) (ls : Array Slot), f_X1_learn_l24 F k1 (f_X1_learn_l14 F k1 n14) n24 x2 x3 S = some o → si_Ws E A s.heap S H locs → lv_has ls 4 [(0, .ref (E.2.1 3)), (1, .ref (E.2.1 k1)), (2, .int x2), (3, .int x3)] → W p l e rm_X1_learn s m args below meth c H locs 0 0 Q (F0 m 24 ls []) := by
        intro n24
        induction n24 with
        | zero => intro x2 x3  S H locs ls hf; cases hf
        | succ n24 ih24 =>
          intro x2 x3  S H locs ls hf hw hl
          have hf : f_X1_learn_h24 F k1 (f_X1_learn_l14 F k1 n14) (f_X1_learn_l24 F k1 (f_X1_learn_l14 F k1 n14) n24) x2 x3 S = some o := hf
          unfold f_X1_learn_h24 at hf
          refine lv_iload_n X.1 X.2.1 dX1_learn_24 rfl (lv_at hl 3 rfl) ?_
          refine lv_aload_n X.1 X.2.1 dX1_learn_25 rfl (lv_at hl 0 rfl) ?_
          refine si_getI X hw si_cl1 1 (by decide) gf_RX1_15 rfl rfl rfl dX1_learn_26 ?_
          refine lv_icmp_ge (tgt := 62) X.1 X.2.1 dX1_learn_29 (by decide) (fun c29 => ?_) (fun c29 => ?_)
          · have hf := si_ip c29 hf
            refine lv_aload_n X.1 X.2.1 dX1_learn_62 rfl (lv_at hl 0 rfl) ?_
            refine lv_dup X.1 X.2.1 dX1_learn_63 rfl ?_
            refine si_getI X hw si_cl1 1 (by decide) gf_RX1_15 rfl rfl rfl dX1_learn_64 ?_
            refine lv_iconst (v := 2) X.1 X.2.1 dX1_learn_67 (by decide) ?_
            refine lv_imul X.1 X.2.1 dX1_learn_68 ?_
            obtain ⟨S1, eS1, hf⟩ := si_ob hf
            refine si_ptI X hw si_cl1 1 (by decide) gf_RX1_15 rfl rfl rfl rfl rfl eS1 dX1_learn_69 (fun H locs hw => ?_)
            obtain ⟨v2, ev2, hf⟩ := si_ob hf
            refine lv_iinc (v := v2) (lv' := [(2, .int v2), (0, .ref (E.2.1 3)), (1, .ref (E.2.1 k1)), (3, .int x3)]) X.1 X.2.1 dX1_learn_72 hl (k := 2) rfl (Option.some.inj ev2) (by decide) rfl (fun ls hl => ?_)
            refine lv_goto (tgt := 14) X.1 X.2.1 dX1_learn_75 (by decide) ?_
            exact ih14 _ _ _ _ _ hf hw (lv_sub hl [1, 2, 0] rfl)
          · have hf := si_in c29 hf
            refine lv_aload_n X.1 X.2.1 dX1_learn_32 rfl (lv_at hl 0 rfl) ?_
            refine si_getR (k' := 4) (d := 1) X hw si_cl1 0 (by decide) gf_RX1_11 rfl rfl rfl (by decide) rfl dX1_learn_33 ?_
            refine lv_aload_n X.1 X.2.1 dX1_learn_36 rfl (lv_at hl 0 rfl) ?_
            refine si_getI X hw si_cl1 1 (by decide) gf_RX1_15 rfl rfl rfl dX1_learn_37 ?_
            refine lv_iload_n X.1 X.2.1 dX1_learn_40 rfl (lv_at hl 3 rfl) ?_
            refine lv_iadd X.1 X.2.1 dX1_learn_41 ?_
            refine lv_aload_n X.1 X.2.1 dX1_learn_42 rfl (lv_at hl 0 rfl) ?_
            refine si_getR (k' := 4) (d := 1) X hw si_cl1 0 (by decide) gf_RX1_11 rfl rfl rfl (by decide) rfl dX1_learn_43 ?_
            refine lv_iload_n X.1 X.2.1 dX1_learn_46 rfl (lv_at hl 3 rfl) ?_
            obtain ⟨v3, ev3, hf⟩ := si_ob hf
            refine si_iald X hw rfl ev3 dX1_learn_47 ?_
            refine lv_aload_n X.1 X.2.1 dX1_learn_48 rfl (lv_at hl 1 rfl) ?_
            refine si_getR (k' := (k1 + 5)) (d := 5) X hw si_cl2 8 (by decide) gf_RX1_37 rfl hk1 rfl (by decide) rfl dX1_learn_49 ?_
            refine lv_iload_n X.1 X.2.1 dX1_learn_52 rfl (lv_at hl 2 rfl) ?_
            obtain ⟨v4, ev4, hf⟩ := si_ob hf
            refine si_iald X hw (sk_2_5 hk1) ev4 dX1_learn_53 ?_
            refine lv_iadd X.1 X.2.1 dX1_learn_54 ?_
            obtain ⟨S5, eS5, hf⟩ := si_ob hf
            refine si_iast X hw rfl eS5 dX1_learn_55 (fun H locs hw => ?_)
            obtain ⟨v6, ev6, hf⟩ := si_ob hf
            refine lv_iinc (v := v6) (lv' := [(3, .int v6), (0, .ref (E.2.1 3)), (1, .ref (E.2.1 k1)), (2, .int x2)]) X.1 X.2.1 dX1_learn_56 hl (k := 3) rfl (Option.some.inj ev6) (by decide) rfl (fun ls hl => ?_)
            refine lv_goto (tgt := 24) X.1 X.2.1 dX1_learn_59 (by decide) ?_
            exact ih24 _ _ _ _ _ _ hf hw (lv_sub hl [1, 2, 3, 0] rfl)
      intro x2  S H locs ls hf hw hl
      have hf : f_X1_learn_h14 F k1 (f_X1_learn_l14 F k1 n14) x2 S = some o := hf
      unfold f_X1_learn_h14 at hf
      refine lv_iload_n X.1 X.2.1 dX1_learn_14 rfl (lv_at hl 2 rfl) ?_
      refine lv_aload_n X.1 X.2.1 dX1_learn_15 rfl (lv_at hl 1 rfl) ?_
      refine si_getI X hw si_cl2 2 (by decide) gf_RX1_32 rfl hk1 rfl dX1_learn_16 ?_
      refine lv_icmp_ge (tgt := 78) X.1 X.2.1 dX1_learn_19 (by decide) (fun c19 => ?_) (fun c19 => ?_)
      · have hf := si_ip c19 hf
        refine lv_iconst (v := 5) X.1 X.2.1 dX1_learn_78 (by decide) ?_
        refine lv_aload_n X.1 X.2.1 dX1_learn_79 rfl (lv_at hl 1 rfl) ?_
        refine si_getI X hw si_cl2 2 (by decide) gf_RX1_32 rfl hk1 rfl dX1_learn_80 ?_
        refine si_mmin hl.1 X (Nat.le_of_ble_eq_true rfl) (Nat.le_of_ble_eq_true rfl) gm_RX1_40 ⟨Nat.zero_le _, Nat.zero_le _⟩ dX1_learn_83 ?_
        obtain ⟨v7, ev7, hf⟩ := si_ob hf
        refine si_nmI ev7 ?_
        refine lv_istore_n (lv' := [(2, .int v7), (0, .ref (E.2.1 3)), (1, .ref (E.2.1 k1))]) X.1 X.2.1 dX1_learn_86 rfl hl (by decide) rfl (fun ls hl => ?_)
        refine lv_aload_n X.1 X.2.1 dX1_learn_87 rfl (lv_at hl 1 rfl) ?_
        refine lv_aload_n X.1 X.2.1 dX1_learn_88 rfl (lv_at hl 2 rfl) ?_
        refine lv_iload_n X.1 X.2.1 dX1_learn_89 rfl (lv_at hl 0 rfl) ?_
        refine lv_aload_n X.1 X.2.1 dX1_learn_90 rfl (lv_at hl 2 rfl) ?_
        refine si_getI X hw si_cl2 2 (by decide) gf_RX1_32 rfl hk1 rfl dX1_learn_91 ?_
        obtain ⟨S8, eS8, hf⟩ := si_ob hf
        refine si_cVv [.ref (E.2.1 k1), .int v7, .int (S.1 k1 2)] cal_X1_listWays gm_RX1_46 X hw hA hl.1 (c_X1_listWays l E F k1 hk1 v7 (S.1 k1 2) S S8 eS8) si_cl1 rfl ⟨⟨rfl, rfl⟩, Nat.le_of_ble_eq_true rfl, Nat.le_of_ble_eq_true rfl⟩ rfl rfl (Nat.le_of_ble_eq_true rfl) ⟨Nat.zero_le _, Nat.zero_le _⟩ dX1_learn_94 (fun H locs hw => ?_)
        refine lv_aload_n X.1 X.2.1 dX1_learn_97 rfl (lv_at hl 1 rfl) ?_
        obtain ⟨S9, eS9, hf⟩ := si_ob hf
        refine si_cVv [] cal_X1_sortWays gm_RX1_50 X hw hA hl.1 (c_X1_sortWays l E F S8 S9 eS9) si_cl1 rfl ⟨⟨rfl, rfl⟩, Nat.le_of_ble_eq_true rfl, Nat.le_of_ble_eq_true rfl⟩ rfl rfl (Nat.le_of_ble_eq_true rfl) ⟨Nat.zero_le _, Nat.zero_le _⟩ dX1_learn_98 (fun H locs hw => ?_)
        refine lv_aload_n X.1 X.2.1 dX1_learn_101 rfl (lv_at hl 1 rfl) ?_
        refine lv_aload_n X.1 X.2.1 dX1_learn_102 rfl (lv_at hl 2 rfl) ?_
        refine lv_iconst (v := 0) X.1 X.2.1 dX1_learn_103 (by decide) ?_
        refine lv_iload_n X.1 X.2.1 dX1_learn_104 rfl (lv_at hl 0 rfl) ?_
        obtain ⟨S10, eS10, hf⟩ := si_ob hf
        refine si_cVv [.ref (E.2.1 k1), .int 0, .int v7] cal_X1_listWays gm_RX1_46 X hw hA hl.1 (c_X1_listWays l E F k1 hk1 0 v7 S9 S10 eS10) si_cl1 rfl ⟨⟨rfl, rfl⟩, Nat.le_of_ble_eq_true rfl, Nat.le_of_ble_eq_true rfl⟩ rfl rfl (Nat.le_of_ble_eq_true rfl) ⟨Nat.zero_le _, Nat.zero_le _⟩ dX1_learn_105 (fun H locs hw => ?_)
        exact hret _ _ _ _ _ hf hw dX1_learn_108
      · have hf := si_in c19 hf
        refine lv_iconst (v := 0) X.1 X.2.1 dX1_learn_22 (by decide) ?_
        refine lv_istore_n (lv' := [(3, .int 0), (0, .ref (E.2.1 3)), (1, .ref (E.2.1 k1)), (2, .int x2)]) X.1 X.2.1 dX1_learn_23 rfl hl (by decide) rfl (fun ls hl => ?_)
        exact B24 F _ _ _ _ _ _ hf hw (lv_sub hl [1, 2, 3, 0] rfl)
  unfold f_X1_learn at hf
  refine lv_aload_n X.1 X.2.1 dX1_learn_0 rfl (lv_at hl 0 rfl) ?_
  refine lv_iconst (v := 1) X.1 X.2.1 dX1_learn_1 (by decide) ?_
  obtain ⟨S11, eS11, hf⟩ := si_ob hf
  refine si_ptI X hw si_cl1 1 (by decide) gf_RX1_15 rfl rfl rfl rfl rfl eS11 dX1_learn_2 (fun H locs hw => ?_)
  refine lv_aload_n X.1 X.2.1 dX1_learn_5 rfl (lv_at hl 0 rfl) ?_
  refine si_getR (k' := 4) (d := 1) X hw si_cl1 0 (by decide) gf_RX1_11 rfl rfl rfl (by decide) rfl dX1_learn_6 ?_
  refine lv_iconst (v := 0) X.1 X.2.1 dX1_learn_9 (by decide) ?_
  refine lv_iconst (v := 0) X.1 X.2.1 dX1_learn_10 (by decide) ?_
  obtain ⟨S12, eS12, hf⟩ := si_ob hf
  refine si_iast X hw rfl eS12 dX1_learn_11 (fun H locs hw => ?_)
  refine lv_iconst (v := 0) X.1 X.2.1 dX1_learn_12 (by decide) ?_
  refine lv_istore_n (lv' := [(2, .int 0), (0, .ref (E.2.1 3)), (1, .ref (E.2.1 k1))]) X.1 X.2.1 dX1_learn_13 rfl hl (by decide) rfl (fun ls hl => ?_)
  exact B14 F _ _ _ _ _ hf hw (lv_sub hl [1, 2, 0] rfl)

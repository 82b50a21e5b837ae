theorem dJ1_canEncode_fc78d_0 : decode cJ1_canEncode_fc78d 0 = .ok (.iload_n 0, 1) := by decide +kernel
theorem dJ1_canEncode_fc78d_1 : decode cJ1_canEncode_fc78d 1 = .ok (.sipush 255, 3) := by decide +kernel
theorem dJ1_canEncode_fc78d_4 : decode cJ1_canEncode_fc78d 4 = .ok (.if_icmp .gt 7, 3) := by decide +kernel
theorem dJ1_canEncode_fc78d_7 : decode cJ1_canEncode_fc78d 7 = .ok (.iconst 1, 1) := by decide +kernel
theorem dJ1_canEncode_fc78d_8 : decode cJ1_canEncode_fc78d 8 = .ok (.goto 4, 3) := by decide +kernel
theorem dJ1_canEncode_fc78d_11 : decode cJ1_canEncode_fc78d 11 = .ok (.iconst 0, 1) := by decide +kernel
theorem dJ1_canEncode_fc78d_12 : decode cJ1_canEncode_fc78d 12 = .ok (.ireturn, 1) := by decide +kernel
theorem dJ5_append_3fe6f_0 : decode cJ5_append_3fe6f 0 = .ok (.aload_n 0, 1) := by decide +kernel
theorem dJ5_append_3fe6f_1 : decode cJ5_append_3fe6f 1 = .ok (.aload_n 0, 1) := by decide +kernel
theorem dJ5_append_3fe6f_2 : decode cJ5_append_3fe6f 2 = .ok (.getfield 79, 3) := by decide +kernel
theorem dJ5_append_3fe6f_5 : decode cJ5_append_3fe6f 5 = .ok (.iconst 1, 1) := by decide +kernel
theorem dJ5_append_3fe6f_6 : decode cJ5_append_3fe6f 6 = .ok (.iadd, 1) := by decide +kernel
theorem dJ5_append_3fe6f_7 : decode cJ5_append_3fe6f 7 = .ok (.invokevirtual 100, 3) := by decide +kernel
theorem dJ5_append_3fe6f_10 : decode cJ5_append_3fe6f 10 = .ok (.aload_n 0, 1) := by decide +kernel
theorem dJ5_append_3fe6f_11 : decode cJ5_append_3fe6f 11 = .ok (.invokevirtual 83, 3) := by decide +kernel
theorem dJ5_append_3fe6f_14 : decode cJ5_append_3fe6f 14 = .ok (.ifCond .eq 31, 3) := by decide +kernel
theorem dJ5_append_3fe6f_17 : decode cJ5_append_3fe6f 17 = .ok (.iload_n 1, 1) := by decide +kernel
theorem dJ5_append_3fe6f_18 : decode cJ5_append_3fe6f 18 = .ok (.invokestatic 191, 3) := by decide +kernel
theorem dJ5_append_3fe6f_21 : decode cJ5_append_3fe6f 21 = .ok (.ifCond .eq 24, 3) := by decide +kernel
theorem dJ5_append_3fe6f_24 : decode cJ5_append_3fe6f 24 = .ok (.aload_n 0, 1) := by decide +kernel
theorem dJ5_append_3fe6f_25 : decode cJ5_append_3fe6f 25 = .ok (.getfield 15, 3) := by decide +kernel
theorem dJ5_append_3fe6f_28 : decode cJ5_append_3fe6f 28 = .ok (.aload_n 0, 1) := by decide +kernel
theorem dJ5_append_3fe6f_29 : decode cJ5_append_3fe6f 29 = .ok (.dup, 1) := by decide +kernel
theorem dJ5_append_3fe6f_30 : decode cJ5_append_3fe6f 30 = .ok (.getfield 79, 3) := by decide +kernel
theorem dJ5_append_3fe6f_33 : decode cJ5_append_3fe6f 33 = .ok (.dup_x1, 1) := by decide +kernel
theorem dJ5_append_3fe6f_34 : decode cJ5_append_3fe6f 34 = .ok (.iconst 1, 1) := by decide +kernel
theorem dJ5_append_3fe6f_35 : decode cJ5_append_3fe6f 35 = .ok (.iadd, 1) := by decide +kernel
theorem dJ5_append_3fe6f_36 : decode cJ5_append_3fe6f 36 = .ok (.putfield 79, 3) := by decide +kernel
theorem dJ5_append_3fe6f_39 : decode cJ5_append_3fe6f 39 = .ok (.iload_n 1, 1) := by decide +kernel
theorem dJ5_append_3fe6f_40 : decode cJ5_append_3fe6f 40 = .ok (.i2b, 1) := by decide +kernel
theorem dJ5_append_3fe6f_41 : decode cJ5_append_3fe6f 41 = .ok (.bastore, 1) := by decide +kernel
theorem dJ5_append_3fe6f_42 : decode cJ5_append_3fe6f 42 = .ok (.goto 33, 3) := by decide +kernel
theorem dJ5_append_3fe6f_45 : decode cJ5_append_3fe6f 45 = .ok (.aload_n 0, 1) := by decide +kernel
theorem dJ5_append_3fe6f_46 : decode cJ5_append_3fe6f 46 = .ok (.invokevirtual 83, 3) := by decide +kernel
theorem dJ5_append_3fe6f_49 : decode cJ5_append_3fe6f 49 = .ok (.ifCond .eq 7, 3) := by decide +kernel
theorem dJ5_append_3fe6f_52 : decode cJ5_append_3fe6f 52 = .ok (.aload_n 0, 1) := by decide +kernel
theorem dJ5_append_3fe6f_53 : decode cJ5_append_3fe6f 53 = .ok (.invokevirtual 195, 3) := by decide +kernel
theorem dJ5_append_3fe6f_56 : decode cJ5_append_3fe6f 56 = .ok (.aload_n 0, 1) := by decide +kernel
theorem dJ5_append_3fe6f_57 : decode cJ5_append_3fe6f 57 = .ok (.getfield 15, 3) := by decide +kernel
theorem dJ5_append_3fe6f_60 : decode cJ5_append_3fe6f 60 = .ok (.aload_n 0, 1) := by decide +kernel
theorem dJ5_append_3fe6f_61 : decode cJ5_append_3fe6f 61 = .ok (.dup, 1) := by decide +kernel
theorem dJ5_append_3fe6f_62 : decode cJ5_append_3fe6f 62 = .ok (.getfield 79, 3) := by decide +kernel
theorem dJ5_append_3fe6f_65 : decode cJ5_append_3fe6f 65 = .ok (.dup_x1, 1) := by decide +kernel
theorem dJ5_append_3fe6f_66 : decode cJ5_append_3fe6f 66 = .ok (.iconst 1, 1) := by decide +kernel
theorem dJ5_append_3fe6f_67 : decode cJ5_append_3fe6f 67 = .ok (.iadd, 1) := by decide +kernel
theorem dJ5_append_3fe6f_68 : decode cJ5_append_3fe6f 68 = .ok (.putfield 79, 3) := by decide +kernel
theorem dJ5_append_3fe6f_71 : decode cJ5_append_3fe6f 71 = .ok (.iload_n 1, 1) := by decide +kernel
theorem dJ5_append_3fe6f_72 : decode cJ5_append_3fe6f 72 = .ok (.invokestatic 197, 3) := by decide +kernel
theorem dJ5_append_3fe6f_75 : decode cJ5_append_3fe6f 75 = .ok (.aload_n 0, 1) := by decide +kernel
theorem dJ5_append_3fe6f_76 : decode cJ5_append_3fe6f 76 = .ok (.areturn, 1) := by decide +kernel
theorem dJ4_append_cf468_0 : decode cJ4_append_cf468 0 = .ok (.aload_n 0, 1) := by decide +kernel
theorem dJ4_append_cf468_1 : decode cJ4_append_cf468 1 = .ok (.iload_n 1, 1) := by decide +kernel
theorem dJ4_append_cf468_2 : decode cJ4_append_cf468 2 = .ok (.invokespecial 50, 3) := by decide +kernel
theorem dJ4_append_cf468_5 : decode cJ4_append_cf468 5 = .ok (.pop, 1) := by decide +kernel
theorem dJ4_append_cf468_6 : decode cJ4_append_cf468 6 = .ok (.aload_n 0, 1) := by decide +kernel
theorem dJ4_append_cf468_7 : decode cJ4_append_cf468 7 = .ok (.areturn, 1) := by decide +kernel
theorem dJ6_stringSize_0f7a4_0 : decode cJ6_stringSize_0f7a4 0 = .ok (.iconst 1, 1) := by decide +kernel
theorem dJ6_stringSize_0f7a4_1 : decode cJ6_stringSize_0f7a4 1 = .ok (.istore_n 1, 1) := by decide +kernel
theorem dJ6_stringSize_0f7a4_2 : decode cJ6_stringSize_0f7a4 2 = .ok (.iload_n 0, 1) := by decide +kernel
theorem dJ6_stringSize_0f7a4_3 : decode cJ6_stringSize_0f7a4 3 = .ok (.ifCond .lt 8, 3) := by decide +kernel
theorem dJ6_stringSize_0f7a4_6 : decode cJ6_stringSize_0f7a4 6 = .ok (.iconst 0, 1) := by decide +kernel
theorem dJ6_stringSize_0f7a4_7 : decode cJ6_stringSize_0f7a4 7 = .ok (.istore_n 1, 1) := by decide +kernel
theorem dJ6_stringSize_0f7a4_8 : decode cJ6_stringSize_0f7a4 8 = .ok (.iload_n 0, 1) := by decide +kernel
theorem dJ6_stringSize_0f7a4_9 : decode cJ6_stringSize_0f7a4 9 = .ok (.ineg, 1) := by decide +kernel
theorem dJ6_stringSize_0f7a4_10 : decode cJ6_stringSize_0f7a4 10 = .ok (.istore_n 0, 1) := by decide +kernel
theorem dJ6_stringSize_0f7a4_11 : decode cJ6_stringSize_0f7a4 11 = .ok (.bipush (-10), 2) := by decide +kernel
theorem dJ6_stringSize_0f7a4_13 : decode cJ6_stringSize_0f7a4 13 = .ok (.istore_n 2, 1) := by decide +kernel
theorem dJ6_stringSize_0f7a4_14 : decode cJ6_stringSize_0f7a4 14 = .ok (.iconst 1, 1) := by decide +kernel
theorem dJ6_stringSize_0f7a4_15 : decode cJ6_stringSize_0f7a4 15 = .ok (.istore_n 3, 1) := by decide +kernel
theorem dJ6_stringSize_0f7a4_16 : decode cJ6_stringSize_0f7a4 16 = .ok (.iload_n 3, 1) := by decide +kernel
theorem dJ6_stringSize_0f7a4_17 : decode cJ6_stringSize_0f7a4 17 = .ok (.bipush 10, 2) := by decide +kernel
theorem dJ6_stringSize_0f7a4_19 : decode cJ6_stringSize_0f7a4 19 = .ok (.if_icmp .ge 23, 3) := by decide +kernel
theorem dJ6_stringSize_0f7a4_22 : decode cJ6_stringSize_0f7a4 22 = .ok (.iload_n 0, 1) := by decide +kernel
theorem dJ6_stringSize_0f7a4_23 : decode cJ6_stringSize_0f7a4 23 = .ok (.iload_n 2, 1) := by decide +kernel
theorem dJ6_stringSize_0f7a4_24 : decode cJ6_stringSize_0f7a4 24 = .ok (.if_icmp .le 7, 3) := by decide +kernel
theorem dJ6_stringSize_0f7a4_27 : decode cJ6_stringSize_0f7a4 27 = .ok (.iload_n 3, 1) := by decide +kernel
theorem dJ6_stringSize_0f7a4_28 : decode cJ6_stringSize_0f7a4 28 = .ok (.iload_n 1, 1) := by decide +kernel
theorem dJ6_stringSize_0f7a4_29 : decode cJ6_stringSize_0f7a4 29 = .ok (.iadd, 1) := by decide +kernel
theorem dJ6_stringSize_0f7a4_30 : decode cJ6_stringSize_0f7a4 30 = .ok (.ireturn, 1) := by decide +kernel
theorem dJ6_stringSize_0f7a4_31 : decode cJ6_stringSize_0f7a4 31 = .ok (.bipush 10, 2) := by decide +kernel
theorem dJ6_stringSize_0f7a4_33 : decode cJ6_stringSize_0f7a4 33 = .ok (.iload_n 2, 1) := by decide +kernel
theorem dJ6_stringSize_0f7a4_34 : decode cJ6_stringSize_0f7a4 34 = .ok (.imul, 1) := by decide +kernel
theorem dJ6_stringSize_0f7a4_35 : decode cJ6_stringSize_0f7a4 35 = .ok (.istore_n 2, 1) := by decide +kernel
theorem dJ6_stringSize_0f7a4_36 : decode cJ6_stringSize_0f7a4 36 = .ok (.iinc 3 1, 3) := by decide +kernel
theorem dJ6_stringSize_0f7a4_39 : decode cJ6_stringSize_0f7a4 39 = .ok (.goto (-23), 3) := by decide +kernel
theorem dJ6_stringSize_0f7a4_42 : decode cJ6_stringSize_0f7a4 42 = .ok (.bipush 10, 2) := by decide +kernel
theorem dJ6_stringSize_0f7a4_44 : decode cJ6_stringSize_0f7a4 44 = .ok (.iload_n 1, 1) := by decide +kernel
theorem dJ6_stringSize_0f7a4_45 : decode cJ6_stringSize_0f7a4 45 = .ok (.iadd, 1) := by decide +kernel
theorem dJ6_stringSize_0f7a4_46 : decode cJ6_stringSize_0f7a4 46 = .ok (.ireturn, 1) := by decide +kernel
theorem dJ6_getChars_ba4f3_0 : decode cJ6_getChars_ba4f3 0 = .ok (.iload_n 1, 1) := by decide +kernel
theorem dJ6_getChars_ba4f3_1 : decode cJ6_getChars_ba4f3 1 = .ok (.istore 5, 2) := by decide +kernel
theorem dJ6_getChars_ba4f3_3 : decode cJ6_getChars_ba4f3 3 = .ok (.iload_n 0, 1) := by decide +kernel
theorem dJ6_getChars_ba4f3_4 : decode cJ6_getChars_ba4f3 4 = .ok (.ifCond .ge 7, 3) := by decide +kernel
theorem dJ6_getChars_ba4f3_7 : decode cJ6_getChars_ba4f3 7 = .ok (.iconst 1, 1) := by decide +kernel
theorem dJ6_getChars_ba4f3_8 : decode cJ6_getChars_ba4f3 8 = .ok (.goto 4, 3) := by decide +kernel
theorem dJ6_getChars_ba4f3_11 : decode cJ6_getChars_ba4f3 11 = .ok (.iconst 0, 1) := by decide +kernel
theorem dJ6_getChars_ba4f3_12 : decode cJ6_getChars_ba4f3 12 = .ok (.istore 6, 2) := by decide +kernel
theorem dJ6_getChars_ba4f3_14 : decode cJ6_getChars_ba4f3 14 = .ok (.iload 6, 2) := by decide +kernel
theorem dJ6_getChars_ba4f3_16 : decode cJ6_getChars_ba4f3 16 = .ok (.ifCond .ne 6, 3) := by decide +kernel
theorem dJ6_getChars_ba4f3_19 : decode cJ6_getChars_ba4f3 19 = .ok (.iload_n 0, 1) := by decide +kernel
theorem dJ6_getChars_ba4f3_20 : decode cJ6_getChars_ba4f3 20 = .ok (.ineg, 1) := by decide +kernel
theorem dJ6_getChars_ba4f3_21 : decode cJ6_getChars_ba4f3 21 = .ok (.istore_n 0, 1) := by decide +kernel
theorem dJ6_getChars_ba4f3_22 : decode cJ6_getChars_ba4f3 22 = .ok (.iload_n 0, 1) := by decide +kernel
theorem dJ6_getChars_ba4f3_23 : decode cJ6_getChars_ba4f3 23 = .ok (.bipush (-100), 2) := by decide +kernel
theorem dJ6_getChars_ba4f3_25 : decode cJ6_getChars_ba4f3 25 = .ok (.if_icmp .gt 47, 3) := by decide +kernel
theorem dJ6_getChars_ba4f3_28 : decode cJ6_getChars_ba4f3 28 = .ok (.iload_n 0, 1) := by decide +kernel
theorem dJ6_getChars_ba4f3_29 : decode cJ6_getChars_ba4f3 29 = .ok (.bipush 100, 2) := by decide +kernel
theorem dJ6_getChars_ba4f3_31 : decode cJ6_getChars_ba4f3 31 = .ok (.idiv, 1) := by decide +kernel
theorem dJ6_getChars_ba4f3_32 : decode cJ6_getChars_ba4f3 32 = .ok (.istore_n 3, 1) := by decide +kernel
theorem dJ6_getChars_ba4f3_33 : decode cJ6_getChars_ba4f3 33 = .ok (.iload_n 3, 1) := by decide +kernel
theorem dJ6_getChars_ba4f3_34 : decode cJ6_getChars_ba4f3 34 = .ok (.bipush 100, 2) := by decide +kernel
theorem dJ6_getChars_ba4f3_36 : decode cJ6_getChars_ba4f3 36 = .ok (.imul, 1) := by decide +kernel
theorem dJ6_getChars_ba4f3_37 : decode cJ6_getChars_ba4f3 37 = .ok (.iload_n 0, 1) := by decide +kernel
theorem dJ6_getChars_ba4f3_38 : decode cJ6_getChars_ba4f3 38 = .ok (.isub, 1) := by decide +kernel
theorem dJ6_getChars_ba4f3_39 : decode cJ6_getChars_ba4f3 39 = .ok (.istore 4, 2) := by decide +kernel
theorem dJ6_getChars_ba4f3_41 : decode cJ6_getChars_ba4f3 41 = .ok (.iload_n 3, 1) := by decide +kernel
theorem dJ6_getChars_ba4f3_42 : decode cJ6_getChars_ba4f3 42 = .ok (.istore_n 0, 1) := by decide +kernel
theorem dJ6_getChars_ba4f3_43 : decode cJ6_getChars_ba4f3 43 = .ok (.aload_n 2, 1) := by decide +kernel
theorem dJ6_getChars_ba4f3_44 : decode cJ6_getChars_ba4f3 44 = .ok (.iinc 5 (-1), 3) := by decide +kernel
theorem dJ6_getChars_ba4f3_47 : decode cJ6_getChars_ba4f3 47 = .ok (.iload 5, 2) := by decide +kernel
theorem dJ6_getChars_ba4f3_49 : decode cJ6_getChars_ba4f3 49 = .ok (.getstatic 83, 3) := by decide +kernel
theorem dJ6_getChars_ba4f3_52 : decode cJ6_getChars_ba4f3 52 = .ok (.iload 4, 2) := by decide +kernel
theorem dJ6_getChars_ba4f3_54 : decode cJ6_getChars_ba4f3 54 = .ok (.baload, 1) := by decide +kernel
theorem dJ6_getChars_ba4f3_55 : decode cJ6_getChars_ba4f3 55 = .ok (.bastore, 1) := by decide +kernel
theorem dJ6_getChars_ba4f3_56 : decode cJ6_getChars_ba4f3 56 = .ok (.aload_n 2, 1) := by decide +kernel
theorem dJ6_getChars_ba4f3_57 : decode cJ6_getChars_ba4f3 57 = .ok (.iinc 5 (-1), 3) := by decide +kernel
theorem dJ6_getChars_ba4f3_60 : decode cJ6_getChars_ba4f3 60 = .ok (.iload 5, 2) := by decide +kernel
theorem dJ6_getChars_ba4f3_62 : decode cJ6_getChars_ba4f3 62 = .ok (.getstatic 87, 3) := by decide +kernel
theorem dJ6_getChars_ba4f3_65 : decode cJ6_getChars_ba4f3 65 = .ok (.iload 4, 2) := by decide +kernel
theorem dJ6_getChars_ba4f3_67 : decode cJ6_getChars_ba4f3 67 = .ok (.baload, 1) := by decide +kernel
theorem dJ6_getChars_ba4f3_68 : decode cJ6_getChars_ba4f3 68 = .ok (.bastore, 1) := by decide +kernel
theorem dJ6_getChars_ba4f3_69 : decode cJ6_getChars_ba4f3 69 = .ok (.goto (-47), 3) := by decide +kernel
theorem dJ6_getChars_ba4f3_72 : decode cJ6_getChars_ba4f3 72 = .ok (.aload_n 2, 1) := by decide +kernel
theorem dJ6_getChars_ba4f3_73 : decode cJ6_getChars_ba4f3 73 = .ok (.iinc 5 (-1), 3) := by decide +kernel
theorem dJ6_getChars_ba4f3_76 : decode cJ6_getChars_ba4f3 76 = .ok (.iload 5, 2) := by decide +kernel
theorem dJ6_getChars_ba4f3_78 : decode cJ6_getChars_ba4f3 78 = .ok (.getstatic 83, 3) := by decide +kernel
theorem dJ6_getChars_ba4f3_81 : decode cJ6_getChars_ba4f3 81 = .ok (.iload_n 0, 1) := by decide +kernel
theorem dJ6_getChars_ba4f3_82 : decode cJ6_getChars_ba4f3 82 = .ok (.ineg, 1) := by decide +kernel
theorem dJ6_getChars_ba4f3_83 : decode cJ6_getChars_ba4f3 83 = .ok (.baload, 1) := by decide +kernel
theorem dJ6_getChars_ba4f3_84 : decode cJ6_getChars_ba4f3 84 = .ok (.bastore, 1) := by decide +kernel
theorem dJ6_getChars_ba4f3_85 : decode cJ6_getChars_ba4f3 85 = .ok (.iload_n 0, 1) := by decide +kernel
theorem dJ6_getChars_ba4f3_86 : decode cJ6_getChars_ba4f3 86 = .ok (.bipush (-9), 2) := by decide +kernel
theorem dJ6_getChars_ba4f3_88 : decode cJ6_getChars_ba4f3 88 = .ok (.if_icmp .ge 16, 3) := by decide +kernel
theorem dJ6_getChars_ba4f3_91 : decode cJ6_getChars_ba4f3 91 = .ok (.aload_n 2, 1) := by decide +kernel
theorem dJ6_getChars_ba4f3_92 : decode cJ6_getChars_ba4f3 92 = .ok (.iinc 5 (-1), 3) := by decide +kernel
theorem dJ6_getChars_ba4f3_95 : decode cJ6_getChars_ba4f3 95 = .ok (.iload 5, 2) := by decide +kernel
theorem dJ6_getChars_ba4f3_97 : decode cJ6_getChars_ba4f3 97 = .ok (.getstatic 87, 3) := by decide +kernel
theorem dJ6_getChars_ba4f3_100 : decode cJ6_getChars_ba4f3 100 = .ok (.iload_n 0, 1) := by decide +kernel
theorem dJ6_getChars_ba4f3_101 : decode cJ6_getChars_ba4f3 101 = .ok (.ineg, 1) := by decide +kernel
theorem dJ6_getChars_ba4f3_102 : decode cJ6_getChars_ba4f3 102 = .ok (.baload, 1) := by decide +kernel
theorem dJ6_getChars_ba4f3_103 : decode cJ6_getChars_ba4f3 103 = .ok (.bastore, 1) := by decide +kernel
theorem dJ6_getChars_ba4f3_104 : decode cJ6_getChars_ba4f3 104 = .ok (.iload 6, 2) := by decide +kernel
theorem dJ6_getChars_ba4f3_106 : decode cJ6_getChars_ba4f3 106 = .ok (.ifCond .eq 12, 3) := by decide +kernel
theorem dJ6_getChars_ba4f3_109 : decode cJ6_getChars_ba4f3 109 = .ok (.aload_n 2, 1) := by decide +kernel
theorem dJ6_getChars_ba4f3_110 : decode cJ6_getChars_ba4f3 110 = .ok (.iinc 5 (-1), 3) := by decide +kernel
theorem dJ6_getChars_ba4f3_113 : decode cJ6_getChars_ba4f3 113 = .ok (.iload 5, 2) := by decide +kernel
theorem dJ6_getChars_ba4f3_115 : decode cJ6_getChars_ba4f3 115 = .ok (.bipush 45, 2) := by decide +kernel
theorem dJ6_getChars_ba4f3_117 : decode cJ6_getChars_ba4f3 117 = .ok (.bastore, 1) := by decide +kernel
theorem dJ6_getChars_ba4f3_118 : decode cJ6_getChars_ba4f3 118 = .ok (.iload 5, 2) := by decide +kernel
theorem dJ6_getChars_ba4f3_120 : decode cJ6_getChars_ba4f3 120 = .ok (.ireturn, 1) := by decide +kernel
theorem dJ5_append_c97b9_0 : decode cJ5_append_c97b9 0 = .ok (.aload_n 0, 1) := by decide +kernel
theorem dJ5_append_c97b9_1 : decode cJ5_append_c97b9 1 = .ok (.getfield 79, 3) := by decide +kernel
theorem dJ5_append_c97b9_4 : decode cJ5_append_c97b9 4 = .ok (.istore_n 2, 1) := by decide +kernel
theorem dJ5_append_c97b9_5 : decode cJ5_append_c97b9 5 = .ok (.iload_n 2, 1) := by decide +kernel
theorem dJ5_append_c97b9_6 : decode cJ5_append_c97b9 6 = .ok (.iload_n 1, 1) := by decide +kernel
theorem dJ5_append_c97b9_7 : decode cJ5_append_c97b9 7 = .ok (.invokestatic 245, 3) := by decide +kernel
theorem dJ5_append_c97b9_10 : decode cJ5_append_c97b9 10 = .ok (.iadd, 1) := by decide +kernel
theorem dJ5_append_c97b9_11 : decode cJ5_append_c97b9 11 = .ok (.istore_n 3, 1) := by decide +kernel
theorem dJ5_append_c97b9_12 : decode cJ5_append_c97b9 12 = .ok (.aload_n 0, 1) := by decide +kernel
theorem dJ5_append_c97b9_13 : decode cJ5_append_c97b9 13 = .ok (.iload_n 3, 1) := by decide +kernel
theorem dJ5_append_c97b9_14 : decode cJ5_append_c97b9 14 = .ok (.invokevirtual 100, 3) := by decide +kernel
theorem dJ5_append_c97b9_17 : decode cJ5_append_c97b9 17 = .ok (.aload_n 0, 1) := by decide +kernel
theorem dJ5_append_c97b9_18 : decode cJ5_append_c97b9 18 = .ok (.invokevirtual 83, 3) := by decide +kernel
theorem dJ5_append_c97b9_21 : decode cJ5_append_c97b9 21 = .ok (.ifCond .eq 16, 3) := by decide +kernel
theorem dJ5_append_c97b9_24 : decode cJ5_append_c97b9 24 = .ok (.iload_n 1, 1) := by decide +kernel
theorem dJ5_append_c97b9_25 : decode cJ5_append_c97b9 25 = .ok (.iload_n 3, 1) := by decide +kernel
theorem dJ5_append_c97b9_26 : decode cJ5_append_c97b9 26 = .ok (.aload_n 0, 1) := by decide +kernel
theorem dJ5_append_c97b9_27 : decode cJ5_append_c97b9 27 = .ok (.getfield 15, 3) := by decide +kernel
theorem dJ5_append_c97b9_30 : decode cJ5_append_c97b9 30 = .ok (.invokestatic 248, 3) := by decide +kernel
theorem dJ5_append_c97b9_33 : decode cJ5_append_c97b9 33 = .ok (.pop, 1) := by decide +kernel
theorem dJ5_append_c97b9_34 : decode cJ5_append_c97b9 34 = .ok (.goto 14, 3) := by decide +kernel
theorem dJ5_append_c97b9_37 : decode cJ5_append_c97b9 37 = .ok (.iload_n 1, 1) := by decide +kernel
theorem dJ5_append_c97b9_38 : decode cJ5_append_c97b9 38 = .ok (.iload_n 2, 1) := by decide +kernel
theorem dJ5_append_c97b9_39 : decode cJ5_append_c97b9 39 = .ok (.iload_n 3, 1) := by decide +kernel
theorem dJ5_append_c97b9_40 : decode cJ5_append_c97b9 40 = .ok (.aload_n 0, 1) := by decide +kernel
theorem dJ5_append_c97b9_41 : decode cJ5_append_c97b9 41 = .ok (.getfield 15, 3) := by decide +kernel
theorem dJ5_append_c97b9_44 : decode cJ5_append_c97b9 44 = .ok (.invokestatic 251, 3) := by decide +kernel
theorem dJ5_append_c97b9_47 : decode cJ5_append_c97b9 47 = .ok (.pop, 1) := by decide +kernel
theorem dJ5_append_c97b9_48 : decode cJ5_append_c97b9 48 = .ok (.aload_n 0, 1) := by decide +kernel
theorem dJ5_append_c97b9_49 : decode cJ5_append_c97b9 49 = .ok (.iload_n 3, 1) := by decide +kernel
theorem dJ5_append_c97b9_50 : decode cJ5_append_c97b9 50 = .ok (.putfield 79, 3) := by decide +kernel
theorem dJ5_append_c97b9_53 : decode cJ5_append_c97b9 53 = .ok (.aload_n 0, 1) := by decide +kernel
theorem dJ5_append_c97b9_54 : decode cJ5_append_c97b9 54 = .ok (.areturn, 1) := by decide +kernel
theorem dJ4_append_bf812_0 : decode cJ4_append_bf812 0 = .ok (.aload_n 0, 1) := by decide +kernel
theorem dJ4_append_bf812_1 : decode cJ4_append_bf812 1 = .ok (.iload_n 1, 1) := by decide +kernel
theorem dJ4_append_bf812_2 : decode cJ4_append_bf812 2 = .ok (.invokespecial 53, 3) := by decide +kernel
theorem dJ4_append_bf812_5 : decode cJ4_append_bf812 5 = .ok (.pop, 1) := by decide +kernel
theorem dJ4_append_bf812_6 : decode cJ4_append_bf812 6 = .ok (.aload_n 0, 1) := by decide +kernel
theorem dJ4_append_bf812_7 : decode cJ4_append_bf812 7 = .ok (.areturn, 1) := by decide +kernel
theorem dJ5_inflateIfNeededFor_a7421_0 : decode cJ5_inflateIfNeededFor_a7421 0 = .ok (.getstatic 18, 3) := by decide +kernel
theorem dJ5_inflateIfNeededFor_a7421_3 : decode cJ5_inflateIfNeededFor_a7421 3 = .ok (.ifCond .eq 18, 3) := by decide +kernel
theorem dJ5_inflateIfNeededFor_a7421_6 : decode cJ5_inflateIfNeededFor_a7421 6 = .ok (.aload_n 0, 1) := by decide +kernel
theorem dJ5_inflateIfNeededFor_a7421_7 : decode cJ5_inflateIfNeededFor_a7421 7 = .ok (.getfield 22, 3) := by decide +kernel
theorem dJ5_inflateIfNeededFor_a7421_10 : decode cJ5_inflateIfNeededFor_a7421 10 = .ok (.aload_n 1, 1) := by decide +kernel
theorem dJ5_inflateIfNeededFor_a7421_11 : decode cJ5_inflateIfNeededFor_a7421 11 = .ok (.invokevirtual 40, 3) := by decide +kernel
theorem dJ5_inflateIfNeededFor_a7421_14 : decode cJ5_inflateIfNeededFor_a7421 14 = .ok (.if_icmp .eq 7, 3) := by decide +kernel
theorem dJ5_inflateIfNeededFor_a7421_17 : decode cJ5_inflateIfNeededFor_a7421 17 = .ok (.aload_n 0, 1) := by decide +kernel
theorem dJ5_inflateIfNeededFor_a7421_18 : decode cJ5_inflateIfNeededFor_a7421 18 = .ok (.invokevirtual 195, 3) := by decide +kernel
theorem dJ5_inflateIfNeededFor_a7421_21 : decode cJ5_inflateIfNeededFor_a7421 21 = .ok (.return_, 1) := by decide +kernel
theorem dJ0_getBytes_840e7_0 : decode cJ0_getBytes_840e7 0 = .ok (.aload_n 0, 1) := by decide +kernel
theorem dJ0_getBytes_840e7_1 : decode cJ0_getBytes_840e7 1 = .ok (.invokevirtual 335, 3) := by decide +kernel
theorem dJ0_getBytes_840e7_4 : decode cJ0_getBytes_840e7 4 = .ok (.iload_n 3, 1) := by decide +kernel
theorem dJ0_getBytes_840e7_5 : decode cJ0_getBytes_840e7 5 = .ok (.if_icmp .ne 23, 3) := by decide +kernel
theorem dJ0_getBytes_840e7_8 : decode cJ0_getBytes_840e7 8 = .ok (.aload_n 0, 1) := by decide +kernel
theorem dJ0_getBytes_840e7_9 : decode cJ0_getBytes_840e7 9 = .ok (.getfield 9, 3) := by decide +kernel
theorem dJ0_getBytes_840e7_12 : decode cJ0_getBytes_840e7 12 = .ok (.iconst 0, 1) := by decide +kernel
theorem dJ0_getBytes_840e7_13 : decode cJ0_getBytes_840e7 13 = .ok (.aload_n 1, 1) := by decide +kernel
theorem dJ0_getBytes_840e7_14 : decode cJ0_getBytes_840e7 14 = .ok (.iload_n 2, 1) := by decide +kernel
theorem dJ0_getBytes_840e7_15 : decode cJ0_getBytes_840e7 15 = .ok (.iload_n 3, 1) := by decide +kernel
theorem dJ0_getBytes_840e7_16 : decode cJ0_getBytes_840e7 16 = .ok (.ishl, 1) := by decide +kernel
theorem dJ0_getBytes_840e7_17 : decode cJ0_getBytes_840e7 17 = .ok (.aload_n 0, 1) := by decide +kernel
theorem dJ0_getBytes_840e7_18 : decode cJ0_getBytes_840e7 18 = .ok (.getfield 9, 3) := by decide +kernel
theorem dJ0_getBytes_840e7_21 : decode cJ0_getBytes_840e7 21 = .ok (.arraylength, 1) := by decide +kernel
theorem dJ0_getBytes_840e7_22 : decode cJ0_getBytes_840e7 22 = .ok (.invokestatic 212, 3) := by decide +kernel
theorem dJ0_getBytes_840e7_25 : decode cJ0_getBytes_840e7 25 = .ok (.goto 18, 3) := by decide +kernel
theorem dJ0_getBytes_840e7_28 : decode cJ0_getBytes_840e7 28 = .ok (.aload_n 0, 1) := by decide +kernel
theorem dJ0_getBytes_840e7_29 : decode cJ0_getBytes_840e7 29 = .ok (.getfield 9, 3) := by decide +kernel
theorem dJ0_getBytes_840e7_32 : decode cJ0_getBytes_840e7 32 = .ok (.iconst 0, 1) := by decide +kernel
theorem dJ0_getBytes_840e7_33 : decode cJ0_getBytes_840e7 33 = .ok (.aload_n 1, 1) := by decide +kernel
theorem dJ0_getBytes_840e7_34 : decode cJ0_getBytes_840e7 34 = .ok (.iload_n 2, 1) := by decide +kernel
theorem dJ0_getBytes_840e7_35 : decode cJ0_getBytes_840e7 35 = .ok (.aload_n 0, 1) := by decide +kernel
theorem dJ0_getBytes_840e7_36 : decode cJ0_getBytes_840e7 36 = .ok (.getfield 9, 3) := by decide +kernel
theorem dJ0_getBytes_840e7_39 : decode cJ0_getBytes_840e7 39 = .ok (.arraylength, 1) := by decide +kernel
theorem dJ0_getBytes_840e7_40 : decode cJ0_getBytes_840e7 40 = .ok (.invokestatic 106, 3) := by decide +kernel
theorem dJ0_getBytes_840e7_43 : decode cJ0_getBytes_840e7 43 = .ok (.return_, 1) := by decide +kernel
theorem dJ5_putStringAt_47b60_0 : decode cJ5_putStringAt_47b60 0 = .ok (.aload_n 0, 1) := by decide +kernel
theorem dJ5_putStringAt_47b60_1 : decode cJ5_putStringAt_47b60 1 = .ok (.aload_n 2, 1) := by decide +kernel
theorem dJ5_putStringAt_47b60_2 : decode cJ5_putStringAt_47b60 2 = .ok (.invokevirtual 397, 3) := by decide +kernel
theorem dJ5_putStringAt_47b60_5 : decode cJ5_putStringAt_47b60 5 = .ok (.aload_n 2, 1) := by decide +kernel
theorem dJ5_putStringAt_47b60_6 : decode cJ5_putStringAt_47b60 6 = .ok (.aload_n 0, 1) := by decide +kernel
theorem dJ5_putStringAt_47b60_7 : decode cJ5_putStringAt_47b60 7 = .ok (.getfield 15, 3) := by decide +kernel
theorem dJ5_putStringAt_47b60_10 : decode cJ5_putStringAt_47b60 10 = .ok (.iload_n 1, 1) := by decide +kernel
theorem dJ5_putStringAt_47b60_11 : decode cJ5_putStringAt_47b60 11 = .ok (.aload_n 0, 1) := by decide +kernel
theorem dJ5_putStringAt_47b60_12 : decode cJ5_putStringAt_47b60 12 = .ok (.getfield 22, 3) := by decide +kernel
theorem dJ5_putStringAt_47b60_15 : decode cJ5_putStringAt_47b60 15 = .ok (.invokevirtual 399, 3) := by decide +kernel
theorem dJ5_putStringAt_47b60_18 : decode cJ5_putStringAt_47b60 18 = .ok (.return_, 1) := by decide +kernel
theorem dJ5_append_cf1ce_0 : decode cJ5_append_cf1ce 0 = .ok (.aload_n 1, 1) := by decide +kernel
theorem dJ5_append_cf1ce_1 : decode cJ5_append_cf1ce 1 = .ok (.ifnonnull 8, 3) := by decide +kernel
theorem dJ5_append_cf1ce_4 : decode cJ5_append_cf1ce 4 = .ok (.aload_n 0, 1) := by decide +kernel
theorem dJ5_append_cf1ce_5 : decode cJ5_append_cf1ce 5 = .ok (.invokevirtual 204, 3) := by decide +kernel
theorem dJ5_append_cf1ce_8 : decode cJ5_append_cf1ce 8 = .ok (.areturn, 1) := by decide +kernel
theorem dJ5_append_cf1ce_9 : decode cJ5_append_cf1ce 9 = .ok (.aload_n 1, 1) := by decide +kernel
theorem dJ5_append_cf1ce_10 : decode cJ5_append_cf1ce 10 = .ok (.invokevirtual 32, 3) := by decide +kernel
theorem dJ5_append_cf1ce_13 : decode cJ5_append_cf1ce 13 = .ok (.istore_n 2, 1) := by decide +kernel
theorem dJ5_append_cf1ce_14 : decode cJ5_append_cf1ce 14 = .ok (.aload_n 0, 1) := by decide +kernel
theorem dJ5_append_cf1ce_15 : decode cJ5_append_cf1ce 15 = .ok (.aload_n 0, 1) := by decide +kernel
theorem dJ5_append_cf1ce_16 : decode cJ5_append_cf1ce 16 = .ok (.getfield 79, 3) := by decide +kernel
theorem dJ5_append_cf1ce_19 : decode cJ5_append_cf1ce 19 = .ok (.iload_n 2, 1) := by decide +kernel
theorem dJ5_append_cf1ce_20 : decode cJ5_append_cf1ce 20 = .ok (.iadd, 1) := by decide +kernel
theorem dJ5_append_cf1ce_21 : decode cJ5_append_cf1ce 21 = .ok (.invokevirtual 100, 3) := by decide +kernel
theorem dJ5_append_cf1ce_24 : decode cJ5_append_cf1ce 24 = .ok (.aload_n 0, 1) := by decide +kernel
theorem dJ5_append_cf1ce_25 : decode cJ5_append_cf1ce 25 = .ok (.aload_n 0, 1) := by decide +kernel
theorem dJ5_append_cf1ce_26 : decode cJ5_append_cf1ce 26 = .ok (.getfield 79, 3) := by decide +kernel
theorem dJ5_append_cf1ce_29 : decode cJ5_append_cf1ce 29 = .ok (.aload_n 1, 1) := by decide +kernel
theorem dJ5_append_cf1ce_30 : decode cJ5_append_cf1ce 30 = .ok (.invokevirtual 208, 3) := by decide +kernel
theorem dJ5_append_cf1ce_33 : decode cJ5_append_cf1ce 33 = .ok (.aload_n 0, 1) := by decide +kernel
theorem dJ5_append_cf1ce_34 : decode cJ5_append_cf1ce 34 = .ok (.dup, 1) := by decide +kernel
theorem dJ5_append_cf1ce_35 : decode cJ5_append_cf1ce 35 = .ok (.getfield 79, 3) := by decide +kernel
theorem dJ5_append_cf1ce_38 : decode cJ5_append_cf1ce 38 = .ok (.iload_n 2, 1) := by decide +kernel
theorem dJ5_append_cf1ce_39 : decode cJ5_append_cf1ce 39 = .ok (.iadd, 1) := by decide +kernel
theorem dJ5_append_cf1ce_40 : decode cJ5_append_cf1ce 40 = .ok (.putfield 79, 3) := by decide +kernel
theorem dJ5_append_cf1ce_43 : decode cJ5_append_cf1ce 43 = .ok (.aload_n 0, 1) := by decide +kernel
theorem dJ5_append_cf1ce_44 : decode cJ5_append_cf1ce 44 = .ok (.areturn, 1) := by decide +kernel
theorem dJ4_append_15ec4_0 : decode cJ4_append_15ec4 0 = .ok (.aload_n 0, 1) := by decide +kernel
theorem dJ4_append_15ec4_1 : decode cJ4_append_15ec4 1 = .ok (.aload_n 1, 1) := by decide +kernel
theorem dJ4_append_15ec4_2 : decode cJ4_append_15ec4 2 = .ok (.invokespecial 29, 3) := by decide +kernel
theorem dJ4_append_15ec4_5 : decode cJ4_append_15ec4 5 = .ok (.pop, 1) := by decide +kernel
theorem dJ4_append_15ec4_6 : decode cJ4_append_15ec4 6 = .ok (.aload_n 0, 1) := by decide +kernel
theorem dJ4_append_15ec4_7 : decode cJ4_append_15ec4 7 = .ok (.areturn, 1) := by decide +kernel
def on_J1_canEncode_fc78d : List Nat := []
def f_J1_canEncode_fc78d_h12 (F : Nat) (t0 : Int32) (S : si_St) : Option (Int32 × si_St) :=
  Option.bind (si_bz t0) fun v1 => some (v1, S)
def f_J1_canEncode_fc78d (F : Nat) (x0 : Int32) (S : si_St) : Option (Int32 × si_St) :=
  if 255 < x0 then (f_J1_canEncode_fc78d_h12 F 0 S) else (f_J1_canEncode_fc78d_h12 F 1 S)
theorem fr_J1_canEncode_fc78d_h12 (F : Nat) (t0 : Int32) (S : si_St) (o : Int32 × si_St) (h : f_J1_canEncode_fc78d_h12 F t0 S = some o) : sd_on on_J1_canEncode_fc78d S o.2 := by
  have g : sd_on on_J1_canEncode_fc78d S S := sd_on.rf
  unfold f_J1_canEncode_fc78d_h12 at h
  obtain ⟨v1, ev1, h⟩ := si_ob h
  obtain rfl := Option.some.inj h
  exact g
theorem fr_J1_canEncode_fc78d (F : Nat) (x0 : Int32) (S : si_St) (o : Int32 × si_St) (h : f_J1_canEncode_fc78d F x0 S = some o) : sd_on on_J1_canEncode_fc78d S o.2 := by
  have g : sd_on on_J1_canEncode_fc78d S S := sd_on.rf
  unfold f_J1_canEncode_fc78d at h
  rcases Decidable.em (255 < x0) with c4 | c4
  · have h := si_ip c4 h
    exact g.tr (fr_J1_canEncode_fc78d_h12 F _ _ _ h)
  · have h := si_in c4 h
    exact g.tr (fr_J1_canEncode_fc78d_h12 F _ _ _ h)
abbrev rm_J1_canEncode_fc78d : Room := { frames := 0, cells := 0, slots := 0, locals := 0 }
set_option maxHeartbeats 4000000 in
set_option maxRecDepth 100000 in
theorem c_J1_canEncode_fc78d (l : Launch) (E : si_Ev) (F : Nat) (x0 : Int32) (S : si_St) (o : Int32 × si_St) (hf : f_J1_canEncode_fc78d F x0 S = some o) : si_Mi l E yJ1_canEncode_fc78d cJ1_canEncode_fc78d 1 (some .boolean) rm_J1_canEncode_fc78d [.int x0] S o := by
  refine si_ofWz (plainFor_of_name (by decide +kernel)) (Nat.le_of_ble_eq_true rfl) ?_
  intro p e s m args below meth c ls Q A X hw hA hl hret
  have hl : lv_has ls 1 [(0, .int x0)] := hl
  have B12 : ∀ (t0 : Int32) (S : si_St) (H : Heap) (locs : List Loc) (ls : Array Slot), f_J1_canEncode_fc78d_h12 F t0 S = some o → si_Ws E A s.heap S H locs → lv_has ls 1 [] → W p l e rm_J1_canEncode_fc78d s m args below meth c H locs 0 0 Q (F0 m 12 ls [.int t0]) := by
    intro t0  S H locs ls hf hw hl
    unfold f_J1_canEncode_fc78d_h12 at hf
    obtain ⟨v1, ev1, hf⟩ := si_ob hf
    exact hret _ _ _ _ _ _ (si_bzf ev1 hf) (si_nz (si_bz_inv ev1).1) hw dJ1_canEncode_fc78d_12
  unfold f_J1_canEncode_fc78d at hf
  refine lv_iload_n X.1 X.2.1 dJ1_canEncode_fc78d_0 rfl (lv_at hl 0 rfl) ?_
  refine lv_sipush (v := 255) X.1 X.2.1 dJ1_canEncode_fc78d_1 (by decide) ?_
  refine lv_icmp_gt (tgt := 11) X.1 X.2.1 dJ1_canEncode_fc78d_4 (by decide) (fun c4 => ?_) (fun c4 => ?_)
  · have hf := si_ip c4 hf
    refine lv_iconst (v := 0) X.1 X.2.1 dJ1_canEncode_fc78d_11 (by decide) ?_
    exact B12 _ _ _ _ _ hf hw (lv_sub hl [] rfl)
  · have hf := si_in c4 hf
    refine lv_iconst (v := 1) X.1 X.2.1 dJ1_canEncode_fc78d_7 (by decide) ?_
    refine lv_goto (tgt := 12) X.1 X.2.1 dJ1_canEncode_fc78d_8 (by decide) ?_
    exact B12 _ _ _ _ _ hf hw (lv_sub hl [] rfl)
def al_J5_append_3fe6f : Nat → Bool := fun a => decide (a = 88 ∨ a = 100)
theorem sd_als_J5_append_3fe6f_J5_ensureCapacityInternal_d00df : ∀ k, al_J5_append_3fe6f k = false → al_J5_ensureCapacityInternal_d00df k = false := by
  intro k h
  simp only [al_J5_append_3fe6f, al_J5_ensureCapacityInternal_d00df, decide_eq_false_iff_not] at h ⊢
  omega
def f_J5_append_3fe6f_h14 (F : Nat) (x1 : Int32) (t0 : Int32) (S : si_St) : Option (si_St) :=
  if t0 = 0 then (none) else (Option.bind (f_J1_canEncode_fc78d F x1 S) fun q1 => if q1.1 = 0 then (none) else (if ¬ (sd_ok q1.2 87 ∧ q1.2.1 87 0 ≠ 0) then none else Option.bind (sd_gi q1.2 87 3) fun v2 => Option.bind (sd_pi q1.2 87 3 (v2 + 1)) fun S3 => Option.bind (sd_wr S3 88 v2 (vp_nar .byte (si_i2b x1))) fun S4 => some S4))
def f_J5_append_3fe6f_h10 (F : Nat) (x1 : Int32) (S : si_St) : Option (si_St) :=
  if ¬ (sd_ok S 87) then none else Option.bind (f_J5_isLatin1_aae02 F S) fun q5 => f_J5_append_3fe6f_h14 F x1 q5.1 q5.2
def f_J5_append_3fe6f_h0 (F : Nat) (x1 : Int32) (S : si_St) : Option (si_St) :=
  Option.bind (sd_gi S 87 3) fun v6 => if ¬ (sd_ok S 87) then none else Option.bind (f_J5_ensureCapacityInternal_d00df F (v6 + 1) S) fun S7 => f_J5_append_3fe6f_h10 F x1 S7
def f_J5_append_3fe6f (F : Nat) (x1 : Int32) (S : si_St) : Option (si_St) :=
  f_J5_append_3fe6f_h0 F x1 S
theorem mo_J5_append_3fe6f_h14 (F : Nat) (x1 : Int32) (t0 : Int32) (S : si_St) (o : si_St) (h : f_J5_append_3fe6f_h14 F x1 t0 S = some o) : sd_le S o := by
  have g : sd_le S S := sd_le.rf
  unfold f_J5_append_3fe6f_h14 at h
  rcases Decidable.em (t0 = 0) with c14 | c14
  · have h := si_ip c14 h
    cases h
  · have h := si_in c14 h
    obtain ⟨q1, eq1, h⟩ := si_ob h
    have g := g.tr (fr_J1_canEncode_fc78d F x1 S q1 eq1).le
    rcases Decidable.em (q1.1 = 0) with c21 | c21
    · have h := si_ip c21 h
      cases h
    · have h := si_in c21 h
      have hgr25 : sd_ok q1.2 87 ∧ q1.2.1 87 0 ≠ 0 := Decidable.byContradiction fun h9 => by rw [if_pos h9] at h; cases h
      have h := si_in (not_not_intro hgr25) h
      obtain ⟨v2, ev2, h⟩ := si_ob h
      obtain ⟨S3, eS3, h⟩ := si_ob h
      have g := g.tr (sd_pi_m eS3)
      obtain ⟨S4, eS4, h⟩ := si_ob h
      have g := g.tr (sd_wr_m eS4)
      obtain rfl := Option.some.inj h
      exact g
theorem mo_J5_append_3fe6f_h10 (F : Nat) (x1 : Int32) (S : si_St) (o : si_St) (h : f_J5_append_3fe6f_h10 F x1 S = some o) : sd_le S o := by
  have g : sd_le S S := sd_le.rf
  unfold f_J5_append_3fe6f_h10 at h
  have hok11 : sd_ok S 87 := Decidable.byContradiction fun h9 => by rw [if_pos h9] at h; cases h
  have h := si_in (not_not_intro hok11) h
  obtain ⟨q5, eq5, h⟩ := si_ob h
  have g := g.tr (mo_J5_isLatin1_aae02 F S q5 eq5)
  exact g.tr (mo_J5_append_3fe6f_h14 F _ _ _ _ h)
theorem mo_J5_append_3fe6f_h0 (F : Nat) (x1 : Int32) (S : si_St) (o : si_St) (h : f_J5_append_3fe6f_h0 F x1 S = some o) : sd_le S o := by
  have g : sd_le S S := sd_le.rf
  unfold f_J5_append_3fe6f_h0 at h
  obtain ⟨v6, ev6, h⟩ := si_ob h
  have hok7 : sd_ok S 87 := Decidable.byContradiction fun h9 => by rw [if_pos h9] at h; cases h
  have h := si_in (not_not_intro hok7) h
  obtain ⟨S7, eS7, h⟩ := si_ob h
  have g := g.tr (mo_J5_ensureCapacityInternal_d00df F (v6 + 1) S S7 eS7)
  exact g.tr (mo_J5_append_3fe6f_h10 F _ _ _ h)
theorem mo_J5_append_3fe6f (F : Nat) (x1 : Int32) (S : si_St) (o : si_St) (h : f_J5_append_3fe6f F x1 S = some o) : sd_le S o := by
  have g : sd_le S S := sd_le.rf
  unfold f_J5_append_3fe6f at h
  exact g.tr (mo_J5_append_3fe6f_h0 F _ _ _ h)
abbrev fr_J5_append_3fe6f : Nat := 4
abbrev lo_J5_append_3fe6f : Nat := 93
set_option maxHeartbeats 4000000 in
set_option maxRecDepth 100000 in
theorem c_J5_append_3fe6f (l : Launch) (E0 : si_Ev) (F : Nat) (x1 : Int32) (S0 : si_St) (o : si_St) (hf : f_J5_append_3fe6f F x1 S0 = some o) : sd_Mr l al_J5_append_3fe6f E0 yJ5_append_3fe6f cJ5_append_3fe6f 2 (some (.object "java/lang/AbstractStringBuilder")) fr_J5_append_3fe6f lo_J5_append_3fe6f [.ref (E0.2.1 87), .int x1] S0 87 o := by
  refine sd_ofWr (Or.inl ⟨_, rfl⟩) (plainFor_of_name (by decide +kernel)) (Nat.le_of_ble_eq_true rfl) ?_
  intro p e s m args below meth c ls Q A X hmn hw hA hl hret
  have hl : lv_has ls 2 [(0, .ref (E0.2.1 87)), (1, .int x1)] := hl
  have hR : sd_RR (sd_R fr_J5_append_3fe6f lo_J5_append_3fe6f S0 o) S0 o := ⟨Nat.le_refl _, Nat.le_refl _⟩
  have hE : sd_EE al_J5_append_3fe6f E0 E0 := sd_EE.rf
  have hc : sd_Ct S0 S0 0 0 := ⟨Nat.le_refl _, Nat.le_refl _⟩
  have B14 : ∀ (x1 : Int32) (t0 : Int32) (E : si_Ev) (S : si_St) (H : Heap) (locs : List Loc) (ls : Array Slot) (cs ss : Nat), f_J5_append_3fe6f_h14 F x1 t0 S = some o → sd_EE al_J5_append_3fe6f E0 E → si_Cx p s m args c cJ5_append_3fe6f 2 yJ5_append_3fe6f.cls E A → si_Ws E A s.heap S H locs → sd_Ct S0 S cs ss → lv_has ls 2 [(0, .ref (E.2.1 87)), (1, .int x1)] → W p l e (sd_R fr_J5_append_3fe6f lo_J5_append_3fe6f S0 o) s m args below meth c H locs cs ss Q (F0 m 14 ls [.int t0]) := by
    intro x1 t0  E S H locs ls cs ss hf hE X hw hc hl
    have hcs := sd_room hc (mo_J5_append_3fe6f_h14 F _ _ _ _ hf) hR
    unfold f_J5_append_3fe6f_h14 at hf
    refine lv_if_eq (tgt := 45) X.1 X.2.1 dJ5_append_3fe6f_14 (by decide) (fun c14 => ?_) (fun c14 => ?_)
    · have hf := si_ip c14 hf
      cases hf
    · have hf := si_in c14 hf
      refine lv_iload_n X.1 X.2.1 dJ5_append_3fe6f_17 rfl (lv_at hl 1 rfl) ?_
      obtain ⟨q1, eq1, hf⟩ := si_ob hf
      refine si_cSi [.int x1] cal_J1_canEncode_fc78d gm_RJ5_191 X hw hA hl.1 (c_J1_canEncode_fc78d l E F x1 S q1 eq1) ⟨⟨rfl, rfl⟩, Nat.le_of_ble_eq_true rfl, Nat.le_of_ble_eq_true rfl⟩ rfl rfl (Nat.le_of_ble_eq_true rfl) hcs dJ5_append_3fe6f_18 (fun H locs hw => ?_)
      have hc := hc.up (fr_J1_canEncode_fc78d F x1 S q1 eq1).le
      refine lv_if_eq (tgt := 45) X.1 X.2.1 dJ5_append_3fe6f_21 (by decide) (fun c21 => ?_) (fun c21 => ?_)
      · have hf := si_ip c21 hf
        cases hf
      · have hf := si_in c21 hf
        refine lv_aload_n X.1 X.2.1 dJ5_append_3fe6f_24 rfl (lv_at hl 0 rfl) ?_
        have hgr25 : sd_ok q1.2 87 ∧ q1.2.1 87 0 ≠ 0 := Decidable.byContradiction fun h9 => by rw [if_pos h9] at hf; cases hf
        have hf := si_in (not_not_intro hgr25) hf
        refine sd_getR X hw sd_cl20 0 (by decide) (Or.inl gf_RJ5_15) rfl rfl rfl hgr25 dJ5_append_3fe6f_25 ?_
        refine lv_aload_n X.1 X.2.1 dJ5_append_3fe6f_28 rfl (lv_at hl 0 rfl) ?_
        refine lv_dup X.1 X.2.1 dJ5_append_3fe6f_29 rfl ?_
        obtain ⟨v2, ev2, hf⟩ := si_ob hf
        refine sd_getI X hw sd_cl20 3 (by decide) (Or.inl gf_RJ5_79) rfl rfl rfl ev2 dJ5_append_3fe6f_30 ?_
        refine lv_dup_x1 X.1 X.2.1 dJ5_append_3fe6f_33 rfl rfl ?_
        refine lv_iconst (v := 1) X.1 X.2.1 dJ5_append_3fe6f_34 (by decide) ?_
        refine lv_iadd X.1 X.2.1 dJ5_append_3fe6f_35 ?_
        obtain ⟨S3, eS3, hf⟩ := si_ob hf
        refine sd_putI X hw sd_cl20 3 (by decide) (Or.inl gf_RJ5_79) rfl (Or.inl rfl) rfl rfl (tyJ4_ok 3 (by decide)) rfl rfl eS3 dJ5_append_3fe6f_36 (fun H locs hw => ?_)
        have hc := hc.up (sd_pi_m eS3)
        refine lv_iload_n X.1 X.2.1 dJ5_append_3fe6f_39 rfl (lv_at hl 1 rfl) ?_
        refine lv_i2b (v := (si_i2b x1)) X.1 X.2.1 dJ5_append_3fe6f_40 rfl ?_
        obtain ⟨S4, eS4, hf⟩ := si_ob hf
        refine sd_bast X hw rfl eS4 dJ5_append_3fe6f_41 (fun H locs hw => ?_)
        have hc := hc.up (sd_wr_m eS4)
        refine lv_goto (tgt := 75) X.1 X.2.1 dJ5_append_3fe6f_42 (by decide) ?_
        refine lv_aload_n X.1 X.2.1 dJ5_append_3fe6f_75 rfl (lv_at hl 0 rfl) ?_
        exact hret _ _ _ _ _ _ _ _ hf ⟨hE, hw, hc⟩ dJ5_append_3fe6f_76
  have B10 : ∀ (x1 : Int32) (E : si_Ev) (S : si_St) (H : Heap) (locs : List Loc) (ls : Array Slot) (cs ss : Nat), f_J5_append_3fe6f_h10 F x1 S = some o → sd_EE al_J5_append_3fe6f E0 E → si_Cx p s m args c cJ5_append_3fe6f 2 yJ5_append_3fe6f.cls E A → si_Ws E A s.heap S H locs → sd_Ct S0 S cs ss → lv_has ls 2 [(0, .ref (E.2.1 87)), (1, .int x1)] → W p l e (sd_R fr_J5_append_3fe6f lo_J5_append_3fe6f S0 o) s m args below meth c H locs cs ss Q (F0 m 10 ls []) := by
    intro x1  E S H locs ls cs ss hf hE X hw hc hl
    have hcs := sd_room hc (mo_J5_append_3fe6f_h10 F _ _ _ hf) hR
    unfold f_J5_append_3fe6f_h10 at hf
    refine lv_aload_n X.1 X.2.1 dJ5_append_3fe6f_10 rfl (lv_at hl 0 rfl) ?_
    have hok11 : sd_ok S 87 := Decidable.byContradiction fun h9 => by rw [if_pos h9] at hf; cases hf
    have hf := si_in (not_not_intro hok11) hf
    obtain ⟨q5, eq5, hf⟩ := si_ob hf
    refine sd_goi (sd_runU (As := []) (rest := []) sd_cl20 rfl hok11 cu_J5_isLatin1_aae02_J5_isLatin1_aae02 gm_RJ5_83 X hw hA hl.1 ((c_J5_isLatin1_aae02 l E F S q5 eq5) H.size) ⟨Nat.le_of_ble_eq_true rfl, Nat.le_of_ble_eq_true rfl⟩ rfl (Nat.le_of_ble_eq_true rfl) (sd_room2 hc (mo_J5_isLatin1_aae02 F S q5 eq5) (mo_J5_append_3fe6f_h14 F _ _ _ _ hf) hR) dJ5_append_3fe6f_11) X hw hA hE hc (mo_J5_isLatin1_aae02 F S q5 eq5) (fun _ _ => rfl) (fun E H locs cs ss hZ hE X hw hc => ?_)
    rw [← hZ.at 87 rfl] at hl
    exact B14 _ _ _ _ _ _ _ _ _ hf hE X hw hc (lv_sub hl [0, 1] rfl)
  have B0 : ∀ (x1 : Int32) (E : si_Ev) (S : si_St) (H : Heap) (locs : List Loc) (ls : Array Slot) (cs ss : Nat), f_J5_append_3fe6f_h0 F x1 S = some o → sd_EE al_J5_append_3fe6f E0 E → si_Cx p s m args c cJ5_append_3fe6f 2 yJ5_append_3fe6f.cls E A → si_Ws E A s.heap S H locs → sd_Ct S0 S cs ss → lv_has ls 2 [(0, .ref (E.2.1 87)), (1, .int x1)] → W p l e (sd_R fr_J5_append_3fe6f lo_J5_append_3fe6f S0 o) s m args below meth c H locs cs ss Q (F0 m 0 ls []) := by
    intro x1  E S H locs ls cs ss hf hE X hw hc hl
    have hcs := sd_room hc (mo_J5_append_3fe6f_h0 F _ _ _ hf) hR
    unfold f_J5_append_3fe6f_h0 at hf
    refine lv_aload_n X.1 X.2.1 dJ5_append_3fe6f_0 rfl (lv_at hl 0 rfl) ?_
    refine lv_aload_n X.1 X.2.1 dJ5_append_3fe6f_1 rfl (lv_at hl 0 rfl) ?_
    obtain ⟨v6, ev6, hf⟩ := si_ob hf
    refine sd_getI X hw sd_cl20 3 (by decide) (Or.inl gf_RJ5_79) rfl rfl rfl ev6 dJ5_append_3fe6f_2 ?_
    refine lv_iconst (v := 1) X.1 X.2.1 dJ5_append_3fe6f_5 (by decide) ?_
    refine lv_iadd X.1 X.2.1 dJ5_append_3fe6f_6 ?_
    have hok7 : sd_ok S 87 := Decidable.byContradiction fun h9 => by rw [if_pos h9] at hf; cases hf
    have hf := si_in (not_not_intro hok7) hf
    obtain ⟨S7, eS7, hf⟩ := si_ob hf
    refine sd_gov (sd_runU (As := [.int (v6 + 1)]) (rest := []) sd_cl20 rfl hok7 cu_J5_ensureCapacityInternal_d00df_J5_ensureCapacityInternal_d00df gm_RJ5_100 X hw hA hl.1 ((c_J5_ensureCapacityInternal_d00df l E F (v6 + 1) S S7 eS7) H.size) ⟨Nat.le_of_ble_eq_true rfl, Nat.le_of_ble_eq_true rfl⟩ rfl (Nat.le_of_ble_eq_true rfl) (sd_room2 hc (mo_J5_ensureCapacityInternal_d00df F (v6 + 1) S S7 eS7) (mo_J5_append_3fe6f_h10 F _ _ _ hf) hR) dJ5_append_3fe6f_7) X hw hA hE hc (mo_J5_ensureCapacityInternal_d00df F (v6 + 1) S S7 eS7) (sd_als_J5_append_3fe6f_J5_ensureCapacityInternal_d00df) (fun E H locs cs ss hZ hE X hw hc => ?_)
    rw [← hZ.at 87 rfl] at hl
    exact B10 _ _ _ _ _ _ _ _ hf hE X hw hc (lv_sub hl [0, 1] rfl)
  unfold f_J5_append_3fe6f at hf
  exact B0 _ _ _ _ _ _ _ _ hf hE X hw hc (lv_sub hl [0, 1] rfl)
def al_J4_append_cf468 : Nat → Bool := fun a => decide (a = 88 ∨ a = 100)
theorem sd_als_J4_append_cf468_J5_append_3fe6f : ∀ k, al_J4_append_cf468 k = false → al_J5_append_3fe6f k = false := by
  intro k h
  simp only [al_J4_append_cf468, al_J5_append_3fe6f, decide_eq_false_iff_not] at h ⊢
  omega
def f_J4_append_cf468_h5 (F : Nat) (S : si_St) : Option (si_St) :=
  some S
def f_J4_append_cf468_h0 (F : Nat) (x1 : Int32) (S : si_St) : Option (si_St) :=
  if ¬ (sd_ok S 87) then none else Option.bind (f_J5_append_3fe6f F x1 S) fun S1 => f_J4_append_cf468_h5 F S1
def f_J4_append_cf468 (F : Nat) (x1 : Int32) (S : si_St) : Option (si_St) :=
  f_J4_append_cf468_h0 F x1 S
theorem mo_J4_append_cf468_h5 (F : Nat) (S : si_St) (o : si_St) (h : f_J4_append_cf468_h5 F S = some o) : sd_le S o := by
  have g : sd_le S S := sd_le.rf
  unfold f_J4_append_cf468_h5 at h
  obtain rfl := Option.some.inj h
  exact g
theorem mo_J4_append_cf468_h0 (F : Nat) (x1 : Int32) (S : si_St) (o : si_St) (h : f_J4_append_cf468_h0 F x1 S = some o) : sd_le S o := by
  have g : sd_le S S := sd_le.rf
  unfold f_J4_append_cf468_h0 at h
  have hok2 : sd_ok S 87 := Decidable.byContradiction fun h9 => by rw [if_pos h9] at h; cases h
  have h := si_in (not_not_intro hok2) h
  obtain ⟨S1, eS1, h⟩ := si_ob h
  have g := g.tr (mo_J5_append_3fe6f F x1 S S1 eS1)
  exact g.tr (mo_J4_append_cf468_h5 F _ _ h)
theorem mo_J4_append_cf468 (F : Nat) (x1 : Int32) (S : si_St) (o : si_St) (h : f_J4_append_cf468 F x1 S = some o) : sd_le S o := by
  have g : sd_le S S := sd_le.rf
  unfold f_J4_append_cf468 at h
  exact g.tr (mo_J4_append_cf468_h0 F _ _ _ h)
abbrev fr_J4_append_cf468 : Nat := 5
abbrev lo_J4_append_cf468 : Nat := 114
set_option maxHeartbeats 4000000 in
set_option maxRecDepth 100000 in
theorem c_J4_append_cf468 (l : Launch) (E0 : si_Ev) (F : Nat) (x1 : Int32) (S0 : si_St) (o : si_St) (hf : f_J4_append_cf468 F x1 S0 = some o) : sd_Mr l al_J4_append_cf468 E0 yJ4_append_cf468 cJ4_append_cf468 2 (some (.object "java/lang/StringBuilder")) fr_J4_append_cf468 lo_J4_append_cf468 [.ref (E0.2.1 87), .int x1] S0 87 o := by
  refine sd_ofWr (Or.inl ⟨_, rfl⟩) (plainFor_of_name (by decide +kernel)) (Nat.le_of_ble_eq_true rfl) ?_
  intro p e s m args below meth c ls Q A X hmn hw hA hl hret
  have hl : lv_has ls 2 [(0, .ref (E0.2.1 87)), (1, .int x1)] := hl
  have hR : sd_RR (sd_R fr_J4_append_cf468 lo_J4_append_cf468 S0 o) S0 o := ⟨Nat.le_refl _, Nat.le_refl _⟩
  have hE : sd_EE al_J4_append_cf468 E0 E0 := sd_EE.rf
  have hc : sd_Ct S0 S0 0 0 := ⟨Nat.le_refl _, Nat.le_refl _⟩
  have B5 : ∀ (E : si_Ev) (S : si_St) (H : Heap) (locs : List Loc) (ls : Array Slot) (cs ss : Nat), f_J4_append_cf468_h5 F S = some o → sd_EE al_J4_append_cf468 E0 E → si_Cx p s m args c cJ4_append_cf468 2 yJ4_append_cf468.cls E A → si_Ws E A s.heap S H locs → sd_Ct S0 S cs ss → lv_has ls 2 [(0, .ref (E.2.1 87))] → W p l e (sd_R fr_J4_append_cf468 lo_J4_append_cf468 S0 o) s m args below meth c H locs cs ss Q (F0 m 5 ls [.ref (E.2.1 87)]) := by
    intro   E S H locs ls cs ss hf hE X hw hc hl
    have hcs := sd_room hc (mo_J4_append_cf468_h5 F _ _ hf) hR
    unfold f_J4_append_cf468_h5 at hf
    refine lv_pop X.1 X.2.1 dJ4_append_cf468_5 rfl ?_
    refine lv_aload_n X.1 X.2.1 dJ4_append_cf468_6 rfl (lv_at hl 0 rfl) ?_
    exact hret _ _ _ _ _ _ _ _ hf ⟨hE, hw, hc⟩ dJ4_append_cf468_7
  have B0 : ∀ (x1 : Int32) (E : si_Ev) (S : si_St) (H : Heap) (locs : List Loc) (ls : Array Slot) (cs ss : Nat), f_J4_append_cf468_h0 F x1 S = some o → sd_EE al_J4_append_cf468 E0 E → si_Cx p s m args c cJ4_append_cf468 2 yJ4_append_cf468.cls E A → si_Ws E A s.heap S H locs → sd_Ct S0 S cs ss → lv_has ls 2 [(0, .ref (E.2.1 87)), (1, .int x1)] → W p l e (sd_R fr_J4_append_cf468 lo_J4_append_cf468 S0 o) s m args below meth c H locs cs ss Q (F0 m 0 ls []) := by
    intro x1  E S H locs ls cs ss hf hE X hw hc hl
    have hcs := sd_room hc (mo_J4_append_cf468_h0 F _ _ _ hf) hR
    unfold f_J4_append_cf468_h0 at hf
    refine lv_aload_n X.1 X.2.1 dJ4_append_cf468_0 rfl (lv_at hl 0 rfl) ?_
    refine lv_iload_n X.1 X.2.1 dJ4_append_cf468_1 rfl (lv_at hl 1 rfl) ?_
    have hok2 : sd_ok S 87 := Decidable.byContradiction fun h9 => by rw [if_pos h9] at hf; cases hf
    have hf := si_in (not_not_intro hok2) hf
    obtain ⟨S1, eS1, hf⟩ := si_ob hf
    refine sd_gor (sd_runSU (As := [.int x1]) (rest := []) sd_cl20 rfl hok2 csu_J5_append_3fe6f gm_RJ4_50 X hw hA hl.1 ((c_J5_append_3fe6f l E F x1 S S1 eS1) H.size) ⟨Nat.le_of_ble_eq_true rfl, Nat.le_of_ble_eq_true rfl⟩ rfl (Nat.le_of_ble_eq_true rfl) (sd_room2 hc (mo_J5_append_3fe6f F x1 S S1 eS1) (mo_J4_append_cf468_h5 F _ _ hf) hR) dJ4_append_cf468_2) X hw hA hE hc (mo_J5_append_3fe6f F x1 S S1 eS1) (sd_als_J4_append_cf468_J5_append_3fe6f) (fun E H locs cs ss hZ hE X hw hc => ?_)
    rw [← hZ.at 87 rfl] at hl
    exact B5 _ _ _ _ _ _ _ hf hE X hw hc (lv_sub hl [0] rfl)
  unfold f_J4_append_cf468 at hf
  exact B0 _ _ _ _ _ _ _ _ hf hE X hw hc (lv_sub hl [0, 1] rfl)
def on_J6_stringSize_0f7a4 : List Nat := []
def f_J6_stringSize_0f7a4_h16 (F : Nat) (r16 : Int32 → Int32 → Int32 → Int32 → si_St → Option (Int32 × si_St)) (x0 : Int32) (x1 : Int32) (x2 : Int32) (x3 : Int32) (S : si_St) : Option (Int32 × si_St) :=
  if 10 ≤ x3 then (some ((10 + x1), S)) else (if x0 ≤ x2 then (Option.bind (some (10 * x2)) fun v1 => Option.bind (some (x3 + 1)) fun v2 => r16 x0 x1 v1 v2 S) else (some ((x3 + x1), S)))
def f_J6_stringSize_0f7a4_l16 (F : Nat) : Nat → Int32 → Int32 → Int32 → Int32 → si_St → Option (Int32 × si_St)
 | 0 => fun _ _ _ _ _ => none
 | n + 1 => fun x0 x1 x2 x3 S => f_J6_stringSize_0f7a4_h16 F (f_J6_stringSize_0f7a4_l16 F n) x0 x1 x2 x3 S
def f_J6_stringSize_0f7a4_h11 (F : Nat) (x0 : Int32) (x1 : Int32) (S : si_St) : Option (Int32 × si_St) :=
  f_J6_stringSize_0f7a4_l16 F F x0 x1 (-10) 1 S
def f_J6_stringSize_0f7a4 (F : Nat) (x0 : Int32) (S : si_St) : Option (Int32 × si_St) :=
  if x0 < 0 then (f_J6_stringSize_0f7a4_h11 F x0 1 S) else (Option.bind (some (-x0)) fun v3 => f_J6_stringSize_0f7a4_h11 F v3 0 S)
theorem fr_J6_stringSize_0f7a4_h16 (F : Nat) (r16 : Int32 → Int32 → Int32 → Int32 → si_St → Option (Int32 × si_St)) (hr16 : ∀ (x0 : Int32) (x1 : Int32) (x2 : Int32) (x3 : Int32) (S : si_St) (o : Int32 × si_St), r16 x0 x1 x2 x3 S = some o → sd_on on_J6_stringSize_0f7a4 S o.2) (x0 : Int32) (x1 : Int32) (x2 : Int32) (x3 : Int32) (S : si_St) (o : Int32 × si_St) (h : f_J6_stringSize_0f7a4_h16 F r16 x0 x1 x2 x3 S = some o) : sd_on on_J6_stringSize_0f7a4 S o.2 := by
  have g : sd_on on_J6_stringSize_0f7a4 S S := sd_on.rf
  unfold f_J6_stringSize_0f7a4_h16 at h
  rcases Decidable.em (10 ≤ x3) with c19 | c19
  · have h := si_ip c19 h
    obtain rfl := Option.some.inj h
    exact g
  · have h := si_in c19 h
    rcases Decidable.em (x0 ≤ x2) with c24 | c24
    · have h := si_ip c24 h
      obtain ⟨v1, ev1, h⟩ := si_ob h
      obtain ⟨v2, ev2, h⟩ := si_ob h
      exact g.tr (hr16 _ _ _ _ _ _ h)
    · have h := si_in c24 h
      obtain rfl := Option.some.inj h
      exact g
theorem fr_J6_stringSize_0f7a4_l16 (F : Nat) : ∀ (n : Nat) (x0 : Int32) (x1 : Int32) (x2 : Int32) (x3 : Int32) (S : si_St) (o : Int32 × si_St), f_J6_stringSize_0f7a4_l16 F n x0 x1 x2 x3 S = some o → sd_on on_J6_stringSize_0f7a4 S o.2 := by
  intro n
  induction n with
  | zero => intro x0 x1 x2 x3 S o h; cases h
  | succ n ih =>
    intro x0 x1 x2 x3 S o h
    exact fr_J6_stringSize_0f7a4_h16 F (f_J6_stringSize_0f7a4_l16 F n) ih x0 x1 x2 x3 S o h
theorem fr_J6_stringSize_0f7a4_h11 (F : Nat) (x0 : Int32) (x1 : Int32) (S : si_St) (o : Int32 × si_St) (h : f_J6_stringSize_0f7a4_h11 F x0 x1 S = some o) : sd_on on_J6_stringSize_0f7a4 S o.2 := by
  have g : sd_on on_J6_stringSize_0f7a4 S S := sd_on.rf
  unfold f_J6_stringSize_0f7a4_h11 at h
  exact g.tr (fr_J6_stringSize_0f7a4_l16 F F _ _ _ _ _ _ h)
theorem fr_J6_stringSize_0f7a4 (F : Nat) (x0 : Int32) (S : si_St) (o : Int32 × si_St) (h : f_J6_stringSize_0f7a4 F x0 S = some o) : sd_on on_J6_stringSize_0f7a4 S o.2 := by
  have g : sd_on on_J6_stringSize_0f7a4 S S := sd_on.rf
  unfold f_J6_stringSize_0f7a4 at h
  rcases Decidable.em (x0 < 0) with c3 | c3
  · have h := si_ip c3 h
    exact g.tr (fr_J6_stringSize_0f7a4_h11 F _ _ _ _ h)
  · have h := si_in c3 h
    obtain ⟨v3, ev3, h⟩ := si_ob h
    exact g.tr (fr_J6_stringSize_0f7a4_h11 F _ _ _ _ h)
abbrev rm_J6_stringSize_0f7a4 : Room := { frames := 0, cells := 0, slots := 0, locals := 0 }
set_option maxHeartbeats 4000000 in
set_option maxRecDepth 100000 in
theorem c_J6_stringSize_0f7a4 (l : Launch) (E : si_Ev) (F : Nat) (x0 : Int32) (S : si_St) (o : Int32 × si_St) (hf : f_J6_stringSize_0f7a4 F x0 S = some o) : si_Mi l E yJ6_stringSize_0f7a4 cJ6_stringSize_0f7a4 4 (some .int) rm_J6_stringSize_0f7a4 [.int x0] S o := by
  refine si_ofWi (plainFor_of_name (by decide +kernel)) (Nat.le_of_ble_eq_true rfl) ?_
  intro p e s m args below meth c ls Q A X hw hA hl hret
  have hl : lv_has ls 4 [(0, .int x0)] := hl
  have B16 : ∀ (n16 : Nat) (x0 : Int32) (x1 : Int32) (x2 : Int32) (x3 : Int32) (S : si_St) (H : Heap) (locs : List Loc) (ls : Array Slot), f_J6_stringSize_0f7a4_l16 F n16 x0 x1 x2 x3 S = some o → si_Ws E A s.heap S H locs → lv_has ls 4 [(0, .int x0), (1, .int x1), (2, .int x2), (3, .int x3)] → W p l e rm_J6_stringSize_0f7a4 s m args below meth c H locs 0 0 Q (F0 m 16 ls []) := by
    intro n16
    induction n16 with
    | zero => intro x0 x1 x2 x3  S H locs ls hf; cases hf
    | succ n16 ih16 =>
      intro x0 x1 x2 x3  S H locs ls hf hw hl
      have hf : f_J6_stringSize_0f7a4_h16 F (f_J6_stringSize_0f7a4_l16 F n16) x0 x1 x2 x3 S = some o := hf
      unfold f_J6_stringSize_0f7a4_h16 at hf
      refine lv_iload_n X.1 X.2.1 dJ6_stringSize_0f7a4_16 rfl (lv_at hl 3 rfl) ?_
      refine lv_bipush (v := 10) X.1 X.2.1 dJ6_stringSize_0f7a4_17 (by decide) ?_
      refine lv_icmp_ge (tgt := 42) X.1 X.2.1 dJ6_stringSize_0f7a4_19 (by decide) (fun c19 => ?_) (fun c19 => ?_)
      · have hf := si_ip c19 hf
        refine lv_bipush (v := 10) X.1 X.2.1 dJ6_stringSize_0f7a4_42 (by decide) ?_
        refine lv_iload_n X.1 X.2.1 dJ6_stringSize_0f7a4_44 rfl (lv_at hl 1 rfl) ?_
        refine lv_iadd X.1 X.2.1 dJ6_stringSize_0f7a4_45 ?_
        exact hret _ _ _ _ _ _ hf hw dJ6_stringSize_0f7a4_46
      · have hf := si_in c19 hf
        refine lv_iload_n X.1 X.2.1 dJ6_stringSize_0f7a4_22 rfl (lv_at hl 0 rfl) ?_
        refine lv_iload_n X.1 X.2.1 dJ6_stringSize_0f7a4_23 rfl (lv_at hl 2 rfl) ?_
        refine lv_icmp_le (tgt := 31) X.1 X.2.1 dJ6_stringSize_0f7a4_24 (by decide) (fun c24 => ?_) (fun c24 => ?_)
        · have hf := si_ip c24 hf
          refine lv_bipush (v := 10) X.1 X.2.1 dJ6_stringSize_0f7a4_31 (by decide) ?_
          refine lv_iload_n X.1 X.2.1 dJ6_stringSize_0f7a4_33 rfl (lv_at hl 2 rfl) ?_
          refine lv_imul X.1 X.2.1 dJ6_stringSize_0f7a4_34 ?_
          obtain ⟨v1, ev1, hf⟩ := si_ob hf
          refine si_nmI ev1 ?_
          refine lv_istore_n (lv' := [(2, .int v1), (0, .int x0), (1, .int x1), (3, .int x3)]) X.1 X.2.1 dJ6_stringSize_0f7a4_35 rfl hl (by decide) rfl (fun ls hl => ?_)
          obtain ⟨v2, ev2, hf⟩ := si_ob hf
          refine lv_iinc (v := v2) (lv' := [(3, .int v2), (2, .int v1), (0, .int x0), (1, .int x1)]) X.1 X.2.1 dJ6_stringSize_0f7a4_36 hl (k := 3) rfl (Option.some.inj ev2) (by decide) rfl (fun ls hl => ?_)
          refine lv_goto (tgt := 16) X.1 X.2.1 dJ6_stringSize_0f7a4_39 (by decide) ?_
          exact ih16 _ _ _ _ _ _ _ _ hf hw (lv_sub hl [2, 3, 1, 0] rfl)
        · have hf := si_in c24 hf
          refine lv_iload_n X.1 X.2.1 dJ6_stringSize_0f7a4_27 rfl (lv_at hl 3 rfl) ?_
          refine lv_iload_n X.1 X.2.1 dJ6_stringSize_0f7a4_28 rfl (lv_at hl 1 rfl) ?_
          refine lv_iadd X.1 X.2.1 dJ6_stringSize_0f7a4_29 ?_
          exact hret _ _ _ _ _ _ hf hw dJ6_stringSize_0f7a4_30
  have B11 : ∀ (x0 : Int32) (x1 : Int32) (S : si_St) (H : Heap) (locs : List Loc) (ls : Array Slot), f_J6_stringSize_0f7a4_h11 F x0 x1 S = some o → si_Ws E A s.heap S H locs → lv_has ls 4 [(0, .int x0), (1, .int x1)] → W p l e rm_J6_stringSize_0f7a4 s m args below meth c H locs 0 0 Q (F0 m 11 ls []) := by
    intro x0 x1  S H locs ls hf hw hl
    unfold f_J6_stringSize_0f7a4_h11 at hf
    refine lv_bipush (v := (-10)) X.1 X.2.1 dJ6_stringSize_0f7a4_11 (by decide) ?_
    refine lv_istore_n (lv' := [(2, .int (-10)), (0, .int x0), (1, .int x1)]) X.1 X.2.1 dJ6_stringSize_0f7a4_13 rfl hl (by decide) rfl (fun ls hl => ?_)
    refine lv_iconst (v := 1) X.1 X.2.1 dJ6_stringSize_0f7a4_14 (by decide) ?_
    refine lv_istore_n (lv' := [(3, .int 1), (2, .int (-10)), (0, .int x0), (1, .int x1)]) X.1 X.2.1 dJ6_stringSize_0f7a4_15 rfl hl (by decide) rfl (fun ls hl => ?_)
    exact B16 F _ _ _ _ _ _ _ _ hf hw (lv_sub hl [2, 3, 1, 0] rfl)
  unfold f_J6_stringSize_0f7a4 at hf
  refine lv_iconst (v := 1) X.1 X.2.1 dJ6_stringSize_0f7a4_0 (by decide) ?_
  refine lv_istore_n (lv' := [(1, .int 1), (0, .int x0)]) X.1 X.2.1 dJ6_stringSize_0f7a4_1 rfl hl (by decide) rfl (fun ls hl => ?_)
  refine lv_iload_n X.1 X.2.1 dJ6_stringSize_0f7a4_2 rfl (lv_at hl 1 rfl) ?_
  refine lv_if_lt (tgt := 11) X.1 X.2.1 dJ6_stringSize_0f7a4_3 (by decide) (fun c3 => ?_) (fun c3 => ?_)
  · have hf := si_ip c3 hf
    exact B11 _ _ _ _ _ _ hf hw (lv_sub hl [1, 0] rfl)
  · have hf := si_in c3 hf
    refine lv_iconst (v := 0) X.1 X.2.1 dJ6_stringSize_0f7a4_6 (by decide) ?_
    refine lv_istore_n (lv' := [(1, .int 0), (0, .int x0)]) X.1 X.2.1 dJ6_stringSize_0f7a4_7 rfl hl (by decide) rfl (fun ls hl => ?_)
    refine lv_iload_n X.1 X.2.1 dJ6_stringSize_0f7a4_8 rfl (lv_at hl 1 rfl) ?_
    refine lv_ineg X.1 X.2.1 dJ6_stringSize_0f7a4_9 ?_
    obtain ⟨v3, ev3, hf⟩ := si_ob hf
    refine si_nmI ev3 ?_
    refine lv_istore_n (lv' := [(0, .int v3), (1, .int 0)]) X.1 X.2.1 dJ6_stringSize_0f7a4_10 rfl hl (by decide) rfl (fun ls hl => ?_)
    exact B11 _ _ _ _ _ _ hf hw (lv_sub hl [0, 1] rfl)
def al_J6_getChars_ba4f3 : Nat → Bool := fun _ => false
def f_J6_getChars_ba4f3_h118 (F : Nat) (x5 : Int32) (S : si_St) : Option (Int32 × si_St) :=
  some (x5, S)
def f_J6_getChars_ba4f3_h104 (F : Nat) (x5 : Int32) (x6 : Int32) (S : si_St) : Option (Int32 × si_St) :=
  if x6 = 0 then (f_J6_getChars_ba4f3_h118 F x5 S) else (Option.bind (some (x5 + (-1))) fun v1 => Option.bind (sd_wr S 88 v1 (vp_nar .byte 45)) fun S2 => f_J6_getChars_ba4f3_h118 F v1 S2)
def f_J6_getChars_ba4f3_h22 (F : Nat) (r22 : Int32 → Int32 → Int32 → si_St → Option (Int32 × si_St)) (x0 : Int32) (x5 : Int32) (x6 : Int32) (S : si_St) : Option (Int32 × si_St) :=
  if (-100) < x0 then (Option.bind (some (x5 + (-1))) fun v3 => Option.bind (sd_dg 100 (-x0)) fun v4 => Option.bind (sd_wr S 88 v3 (vp_nar .byte v4)) fun S5 => if (-9) ≤ x0 then (f_J6_getChars_ba4f3_h104 F v3 x6 S5) else (Option.bind (some (v3 + (-1))) fun v6 => Option.bind (sd_dg 101 (-x0)) fun v7 => Option.bind (sd_wr S5 88 v6 (vp_nar .byte v7)) fun S8 => f_J6_getChars_ba4f3_h104 F v6 x6 S8)) else (Option.bind (some (x0 / 100)) fun v9 => Option.bind (some ((v9 * 100) - x0)) fun v10 => Option.bind (some (x5 + (-1))) fun v11 => Option.bind (sd_dg 100 v10) fun v12 => Option.bind (sd_wr S 88 v11 (vp_nar .byte v12)) fun S13 => Option.bind (some (v11 + (-1))) fun v14 => Option.bind (sd_dg 101 v10) fun v15 => Option.bind (sd_wr S13 88 v14 (vp_nar .byte v15)) fun S16 => r22 v9 v14 x6 S16)
def f_J6_getChars_ba4f3_l22 (F : Nat) : Nat → Int32 → Int32 → Int32 → si_St → Option (Int32 × si_St)
 | 0 => fun _ _ _ _ => none
 | n + 1 => fun x0 x5 x6 S => f_J6_getChars_ba4f3_h22 F (f_J6_getChars_ba4f3_l22 F n) x0 x5 x6 S
def f_J6_getChars_ba4f3_h12 (F : Nat) (x0 : Int32) (x5 : Int32) (t0 : Int32) (S : si_St) : Option (Int32 × si_St) :=
  if t0 = 0 then (Option.bind (some (-x0)) fun v17 => f_J6_getChars_ba4f3_l22 F F v17 x5 t0 S) else (f_J6_getChars_ba4f3_l22 F F x0 x5 t0 S)
def f_J6_getChars_ba4f3_h0 (F : Nat) (x0 : Int32) (x1 : Int32) (S : si_St) : Option (Int32 × si_St) :=
  if 0 ≤ x0 then (f_J6_getChars_ba4f3_h12 F x0 x1 0 S) else (f_J6_getChars_ba4f3_h12 F x0 x1 1 S)
def f_J6_getChars_ba4f3 (F : Nat) (x0 : Int32) (x1 : Int32) (S : si_St) : Option (Int32 × si_St) :=
  f_J6_getChars_ba4f3_h0 F x0 x1 S
theorem mo_J6_getChars_ba4f3_h118 (F : Nat) (x5 : Int32) (S : si_St) (o : Int32 × si_St) (h : f_J6_getChars_ba4f3_h118 F x5 S = some o) : sd_le S o.2 := by
  have g : sd_le S S := sd_le.rf
  unfold f_J6_getChars_ba4f3_h118 at h
  obtain rfl := Option.some.inj h
  exact g
theorem mo_J6_getChars_ba4f3_h104 (F : Nat) (x5 : Int32) (x6 : Int32) (S : si_St) (o : Int32 × si_St) (h : f_J6_getChars_ba4f3_h104 F x5 x6 S = some o) : sd_le S o.2 := by
  have g : sd_le S S := sd_le.rf
  unfold f_J6_getChars_ba4f3_h104 at h
  rcases Decidable.em (x6 = 0) with c106 | c106
  · have h := si_ip c106 h
    exact g.tr (mo_J6_getChars_ba4f3_h118 F _ _ _ h)
  · have h := si_in c106 h
    obtain ⟨v1, ev1, h⟩ := si_ob h
    obtain ⟨S2, eS2, h⟩ := si_ob h
    have g := g.tr (sd_wr_m eS2)
    exact g.tr (mo_J6_getChars_ba4f3_h118 F _ _ _ h)
theorem mo_J6_getChars_ba4f3_h22 (F : Nat) (r22 : Int32 → Int32 → Int32 → si_St → Option (Int32 × si_St)) (hr22 : ∀ (x0 : Int32) (x5 : Int32) (x6 : Int32) (S : si_St) (o : Int32 × si_St), r22 x0 x5 x6 S = some o → sd_le S o.2) (x0 : Int32) (x5 : Int32) (x6 : Int32) (S : si_St) (o : Int32 × si_St) (h : f_J6_getChars_ba4f3_h22 F r22 x0 x5 x6 S = some o) : sd_le S o.2 := by
  have g : sd_le S S := sd_le.rf
  unfold f_J6_getChars_ba4f3_h22 at h
  rcases Decidable.em ((-100) < x0) with c25 | c25
  · have h := si_ip c25 h
    obtain ⟨v3, ev3, h⟩ := si_ob h
    obtain ⟨v4, ev4, h⟩ := si_ob h
    obtain ⟨S5, eS5, h⟩ := si_ob h
    have g := g.tr (sd_wr_m eS5)
    rcases Decidable.em ((-9) ≤ x0) with c88 | c88
    · have h := si_ip c88 h
      exact g.tr (mo_J6_getChars_ba4f3_h104 F _ _ _ _ h)
    · have h := si_in c88 h
      obtain ⟨v6, ev6, h⟩ := si_ob h
      obtain ⟨v7, ev7, h⟩ := si_ob h
      obtain ⟨S8, eS8, h⟩ := si_ob h
      have g := g.tr (sd_wr_m eS8)
      exact g.tr (mo_J6_getChars_ba4f3_h104 F _ _ _ _ h)
  · have h := si_in c25 h
    obtain ⟨v9, ev9, h⟩ := si_ob h
    obtain ⟨v10, ev10, h⟩ := si_ob h
    obtain ⟨v11, ev11, h⟩ := si_ob h
    obtain ⟨v12, ev12, h⟩ := si_ob h
    obtain ⟨S13, eS13, h⟩ := si_ob h
    have g := g.tr (sd_wr_m eS13)
    obtain ⟨v14, ev14, h⟩ := si_ob h
    obtain ⟨v15, ev15, h⟩ := si_ob h
    obtain ⟨S16, eS16, h⟩ := si_ob h
    have g := g.tr (sd_wr_m eS16)
    exact g.tr (hr22 _ _ _ _ _ h)
theorem mo_J6_getChars_ba4f3_l22 (F : Nat) : ∀ (n : Nat) (x0 : Int32) (x5 : Int32) (x6 : Int32) (S : si_St) (o : Int32 × si_St), f_J6_getChars_ba4f3_l22 F n x0 x5 x6 S = some o → sd_le S o.2 := by
  intro n
  induction n with
  | zero => intro x0 x5 x6 S o h; cases h
  | succ n ih =>
    intro x0 x5 x6 S o h
    exact mo_J6_getChars_ba4f3_h22 F (f_J6_getChars_ba4f3_l22 F n) ih x0 x5 x6 S o h
theorem mo_J6_getChars_ba4f3_h12 (F : Nat) (x0 : Int32) (x5 : Int32) (t0 : Int32) (S : si_St) (o : Int32 × si_St) (h : f_J6_getChars_ba4f3_h12 F x0 x5 t0 S = some o) : sd_le S o.2 := by
  have g : sd_le S S := sd_le.rf
  unfold f_J6_getChars_ba4f3_h12 at h
  rcases Decidable.em (t0 = 0) with c16 | c16
  · have h := si_ip c16 h
    obtain ⟨v17, ev17, h⟩ := si_ob h
    exact g.tr (mo_J6_getChars_ba4f3_l22 F F _ _ _ _ _ h)
  · have h := si_in c16 h
    exact g.tr (mo_J6_getChars_ba4f3_l22 F F _ _ _ _ _ h)
theorem mo_J6_getChars_ba4f3_h0 (F : Nat) (x0 : Int32) (x1 : Int32) (S : si_St) (o : Int32 × si_St) (h : f_J6_getChars_ba4f3_h0 F x0 x1 S = some o) : sd_le S o.2 := by
  have g : sd_le S S := sd_le.rf
  unfold f_J6_getChars_ba4f3_h0 at h
  rcases Decidable.em (0 ≤ x0) with c4 | c4
  · have h := si_ip c4 h
    exact g.tr (mo_J6_getChars_ba4f3_h12 F _ _ _ _ _ h)
  · have h := si_in c4 h
    exact g.tr (mo_J6_getChars_ba4f3_h12 F _ _ _ _ _ h)
theorem mo_J6_getChars_ba4f3 (F : Nat) (x0 : Int32) (x1 : Int32) (S : si_St) (o : Int32 × si_St) (h : f_J6_getChars_ba4f3 F x0 x1 S = some o) : sd_le S o.2 := by
  have g : sd_le S S := sd_le.rf
  unfold f_J6_getChars_ba4f3 at h
  exact g.tr (mo_J6_getChars_ba4f3_h0 F _ _ _ _ h)
abbrev fr_J6_getChars_ba4f3 : Nat := 0
abbrev lo_J6_getChars_ba4f3 : Nat := 0
set_option maxHeartbeats 4000000 in
set_option maxRecDepth 100000 in
theorem c_J6_getChars_ba4f3 (l : Launch) (E0 : si_Ev) (F : Nat) (x0 : Int32) (x1 : Int32) (S0 : si_St) (o : Int32 × si_St) (hf : f_J6_getChars_ba4f3 F x0 x1 S0 = some o) : sd_Mi l al_J6_getChars_ba4f3 E0 yJ6_getChars_ba4f3 cJ6_getChars_ba4f3 7 (some .int) fr_J6_getChars_ba4f3 lo_J6_getChars_ba4f3 [.int x0, .int x1, .ref (E0.2.1 88)] S0 o := by
  refine sd_ofWz (plainFor_of_name (by decide +kernel)) (Nat.le_of_ble_eq_true rfl) ?_
  intro p e s m args below meth c ls Q A X hmn hw hA hl hret
  have hl : lv_has ls 7 [(0, .int x0), (1, .int x1), (2, .ref (E0.2.1 88))] := hl
  have hR : sd_RR (sd_R fr_J6_getChars_ba4f3 lo_J6_getChars_ba4f3 S0 o.2) S0 o.2 := ⟨Nat.le_refl _, Nat.le_refl _⟩
  have hE : sd_EE al_J6_getChars_ba4f3 E0 E0 := sd_EE.rf
  have hc : sd_Ct S0 S0 0 0 := ⟨Nat.le_refl _, Nat.le_refl _⟩
  have B118 : ∀ (x5 : Int32) (E : si_Ev) (S : si_St) (H : Heap) (locs : List Loc) (ls : Array Slot) (cs ss : Nat), f_J6_getChars_ba4f3_h118 F x5 S = some o → sd_EE al_J6_getChars_ba4f3 E0 E → si_Cx p s m args c cJ6_getChars_ba4f3 7 yJ6_getChars_ba4f3.cls E A → si_Ws E A s.heap S H locs → sd_Ct S0 S cs ss → lv_has ls 7 [(5, .int x5)] → W p l e (sd_R fr_J6_getChars_ba4f3 lo_J6_getChars_ba4f3 S0 o.2) s m args below meth c H locs cs ss Q (F0 m 118 ls []) := by
    intro x5  E S H locs ls cs ss hf hE X hw hc hl
    have hcs := sd_room hc (mo_J6_getChars_ba4f3_h118 F _ _ _ hf) hR
    unfold f_J6_getChars_ba4f3_h118 at hf
    refine lv_iload X.1 X.2.1 dJ6_getChars_ba4f3_118 (lv_at hl 0 rfl) ?_
    exact hret _ _ _ _ _ _ _ _ _ hf rfl ⟨hE, hw, hc⟩ dJ6_getChars_ba4f3_120
  have B104 : ∀ (x5 : Int32) (x6 : Int32) (E : si_Ev) (S : si_St) (H : Heap) (locs : List Loc) (ls : Array Slot) (cs ss : Nat), f_J6_getChars_ba4f3_h104 F x5 x6 S = some o → sd_EE al_J6_getChars_ba4f3 E0 E → si_Cx p s m args c cJ6_getChars_ba4f3 7 yJ6_getChars_ba4f3.cls E A → si_Ws E A s.heap S H locs → sd_Ct S0 S cs ss → lv_has ls 7 [(2, .ref (E.2.1 88)), (5, .int x5), (6, .int x6)] → W p l e (sd_R fr_J6_getChars_ba4f3 lo_J6_getChars_ba4f3 S0 o.2) s m args below meth c H locs cs ss Q (F0 m 104 ls []) := by
    intro x5 x6  E S H locs ls cs ss hf hE X hw hc hl
    have hcs := sd_room hc (mo_J6_getChars_ba4f3_h104 F _ _ _ _ hf) hR
    unfold f_J6_getChars_ba4f3_h104 at hf
    refine lv_iload X.1 X.2.1 dJ6_getChars_ba4f3_104 (lv_at hl 2 rfl) ?_
    refine lv_if_eq (tgt := 118) X.1 X.2.1 dJ6_getChars_ba4f3_106 (by decide) (fun c106 => ?_) (fun c106 => ?_)
    · have hf := si_ip c106 hf
      exact B118 _ _ _ _ _ _ _ _ hf hE X hw hc (lv_sub hl [1] rfl)
    · have hf := si_in c106 hf
      refine lv_aload_n X.1 X.2.1 dJ6_getChars_ba4f3_109 rfl (lv_at hl 0 rfl) ?_
      obtain ⟨v1, ev1, hf⟩ := si_ob hf
      refine lv_iinc (v := v1) (lv' := [(5, .int v1), (2, .ref (E.2.1 88)), (6, .int x6)]) X.1 X.2.1 dJ6_getChars_ba4f3_110 hl (k := 1) rfl (Option.some.inj ev1) (by decide) rfl (fun ls hl => ?_)
      refine lv_iload X.1 X.2.1 dJ6_getChars_ba4f3_113 (lv_at hl 0 rfl) ?_
      refine lv_bipush (v := 45) X.1 X.2.1 dJ6_getChars_ba4f3_115 (by decide) ?_
      obtain ⟨S2, eS2, hf⟩ := si_ob hf
      refine sd_bast X hw rfl eS2 dJ6_getChars_ba4f3_117 (fun H locs hw => ?_)
      have hc := hc.up (sd_wr_m eS2)
      exact B118 _ _ _ _ _ _ _ _ hf hE X hw hc (lv_sub hl [0] rfl)
  have B22 : ∀ (n22 : Nat) (x0 : Int32) (x5 : Int32) (x6 : Int32) (E : si_Ev) (S : si_St) (H : Heap) (locs : List Loc) (ls : Array Slot) (cs ss : Nat), f_J6_getChars_ba4f3_l22 F n22 x0 x5 x6 S = some o → sd_EE al_J6_getChars_ba4f3 E0 E → si_Cx p s m args c cJ6_getChars_ba4f3 7 yJ6_getChars_ba4f3.cls E A → si_Ws E A s.heap S H locs → sd_Ct S0 S cs ss → lv_has ls 7 [(0, .int x0), (2, .ref (E.2.1 88)), (5, .int x5), (6, .int x6)] → W p l e (sd_R fr_J6_getChars_ba4f3 lo_J6_getChars_ba4f3 S0 o.2) s m args below meth c H locs cs ss Q (F0 m 22 ls []) := by
    intro n22
    induction n22 with
    | zero => intro x0 x5 x6  E S H locs ls cs ss hf; cases hf
    | succ n22 ih22 =>
      intro x0 x5 x6  E S H locs ls cs ss hf hE X hw hc hl
      have hf : f_J6_getChars_ba4f3_h22 F (f_J6_getChars_ba4f3_l22 F n22) x0 x5 x6 S = some o := hf
      have ih_mo := mo_J6_getChars_ba4f3_l22 F n22
      have hcs := sd_room hc (mo_J6_getChars_ba4f3_h22 F (f_J6_getChars_ba4f3_l22 F n22) ih_mo _ _ _ _ _ hf) hR
      unfold f_J6_getChars_ba4f3_h22 at hf
      refine lv_iload_n X.1 X.2.1 dJ6_getChars_ba4f3_22 rfl (lv_at hl 0 rfl) ?_
      refine lv_bipush (v := (-100)) X.1 X.2.1 dJ6_getChars_ba4f3_23 (by decide) ?_
      refine lv_icmp_gt (tgt := 72) X.1 X.2.1 dJ6_getChars_ba4f3_25 (by decide) (fun c25 => ?_) (fun c25 => ?_)
      · have hf := si_ip c25 hf
        refine lv_aload_n X.1 X.2.1 dJ6_getChars_ba4f3_72 rfl (lv_at hl 1 rfl) ?_
        obtain ⟨v3, ev3, hf⟩ := si_ob hf
        refine lv_iinc (v := v3) (lv' := [(5, .int v3), (0, .int x0), (2, .ref (E.2.1 88)), (6, .int x6)]) X.1 X.2.1 dJ6_getChars_ba4f3_73 hl (k := 2) rfl (Option.some.inj ev3) (by decide) rfl (fun ls hl => ?_)
        refine lv_iload X.1 X.2.1 dJ6_getChars_ba4f3_76 (lv_at hl 0 rfl) ?_
        refine sd_getD1 X hw.2.2 gf_RJ6_83 dJ6_getChars_ba4f3_78 ?_
        refine lv_iload_n X.1 X.2.1 dJ6_getChars_ba4f3_81 rfl (lv_at hl 1 rfl) ?_
        refine lv_ineg X.1 X.2.1 dJ6_getChars_ba4f3_82 ?_
        obtain ⟨v4, ev4, hf⟩ := si_ob hf
        refine sd_dgld X hw.2.2 (Or.inl rfl) ev4 dJ6_getChars_ba4f3_83 ?_
        obtain ⟨S5, eS5, hf⟩ := si_ob hf
        refine sd_bast X hw rfl eS5 dJ6_getChars_ba4f3_84 (fun H locs hw => ?_)
        have hc := hc.up (sd_wr_m eS5)
        refine lv_iload_n X.1 X.2.1 dJ6_getChars_ba4f3_85 rfl (lv_at hl 1 rfl) ?_
        refine lv_bipush (v := (-9)) X.1 X.2.1 dJ6_getChars_ba4f3_86 (by decide) ?_
        refine lv_icmp_ge (tgt := 104) X.1 X.2.1 dJ6_getChars_ba4f3_88 (by decide) (fun c88 => ?_) (fun c88 => ?_)
        · have hf := si_ip c88 hf
          exact B104 _ _ _ _ _ _ _ _ _ hf hE X hw hc (lv_sub hl [2, 0, 3] rfl)
        · have hf := si_in c88 hf
          refine lv_aload_n X.1 X.2.1 dJ6_getChars_ba4f3_91 rfl (lv_at hl 2 rfl) ?_
          obtain ⟨v6, ev6, hf⟩ := si_ob hf
          refine lv_iinc (v := v6) (lv' := [(5, .int v6), (0, .int x0), (2, .ref (E.2.1 88)), (6, .int x6)]) X.1 X.2.1 dJ6_getChars_ba4f3_92 hl (k := 0) rfl (Option.some.inj ev6) (by decide) rfl (fun ls hl => ?_)
          refine lv_iload X.1 X.2.1 dJ6_getChars_ba4f3_95 (lv_at hl 0 rfl) ?_
          refine sd_getD2 X hw.2.2 gf_RJ6_87 dJ6_getChars_ba4f3_97 ?_
          refine lv_iload_n X.1 X.2.1 dJ6_getChars_ba4f3_100 rfl (lv_at hl 1 rfl) ?_
          refine lv_ineg X.1 X.2.1 dJ6_getChars_ba4f3_101 ?_
          obtain ⟨v7, ev7, hf⟩ := si_ob hf
          refine sd_dgld X hw.2.2 (Or.inr rfl) ev7 dJ6_getChars_ba4f3_102 ?_
          obtain ⟨S8, eS8, hf⟩ := si_ob hf
          refine sd_bast X hw rfl eS8 dJ6_getChars_ba4f3_103 (fun H locs hw => ?_)
          have hc := hc.up (sd_wr_m eS8)
          exact B104 _ _ _ _ _ _ _ _ _ hf hE X hw hc (lv_sub hl [2, 0, 3] rfl)
      · have hf := si_in c25 hf
        refine lv_iload_n X.1 X.2.1 dJ6_getChars_ba4f3_28 rfl (lv_at hl 0 rfl) ?_
        refine lv_bipush (v := 100) X.1 X.2.1 dJ6_getChars_ba4f3_29 (by decide) ?_
        refine lv_idiv X.1 X.2.1 dJ6_getChars_ba4f3_31 (by decide) ?_
        obtain ⟨v9, ev9, hf⟩ := si_ob hf
        refine si_nmI ev9 ?_
        refine lv_istore_n (lv' := [(3, .int v9), (0, .int x0), (2, .ref (E.2.1 88)), (5, .int x5), (6, .int x6)]) X.1 X.2.1 dJ6_getChars_ba4f3_32 rfl hl (by decide) rfl (fun ls hl => ?_)
        refine lv_iload_n X.1 X.2.1 dJ6_getChars_ba4f3_33 rfl (lv_at hl 0 rfl) ?_
        refine lv_bipush (v := 100) X.1 X.2.1 dJ6_getChars_ba4f3_34 (by decide) ?_
        refine lv_imul X.1 X.2.1 dJ6_getChars_ba4f3_36 ?_
        refine lv_iload_n X.1 X.2.1 dJ6_getChars_ba4f3_37 rfl (lv_at hl 1 rfl) ?_
        refine lv_isub X.1 X.2.1 dJ6_getChars_ba4f3_38 ?_
        obtain ⟨v10, ev10, hf⟩ := si_ob hf
        refine si_nmI ev10 ?_
        refine lv_istore (lv' := [(4, .int v10), (3, .int v9), (0, .int x0), (2, .ref (E.2.1 88)), (5, .int x5), (6, .int x6)]) X.1 X.2.1 dJ6_getChars_ba4f3_39 hl (by decide) rfl (fun ls hl => ?_)
        refine lv_iload_n X.1 X.2.1 dJ6_getChars_ba4f3_41 rfl (lv_at hl 1 rfl) ?_
        refine lv_istore_n (lv' := [(0, .int v9), (4, .int v10), (3, .int v9), (2, .ref (E.2.1 88)), (5, .int x5), (6, .int x6)]) X.1 X.2.1 dJ6_getChars_ba4f3_42 rfl hl (by decide) rfl (fun ls hl => ?_)
        refine lv_aload_n X.1 X.2.1 dJ6_getChars_ba4f3_43 rfl (lv_at hl 3 rfl) ?_
        obtain ⟨v11, ev11, hf⟩ := si_ob hf
        refine lv_iinc (v := v11) (lv' := [(5, .int v11), (0, .int v9), (4, .int v10), (3, .int v9), (2, .ref (E.2.1 88)), (6, .int x6)]) X.1 X.2.1 dJ6_getChars_ba4f3_44 hl (k := 4) rfl (Option.some.inj ev11) (by decide) rfl (fun ls hl => ?_)
        refine lv_iload X.1 X.2.1 dJ6_getChars_ba4f3_47 (lv_at hl 0 rfl) ?_
        refine sd_getD1 X hw.2.2 gf_RJ6_83 dJ6_getChars_ba4f3_49 ?_
        refine lv_iload X.1 X.2.1 dJ6_getChars_ba4f3_52 (lv_at hl 2 rfl) ?_
        obtain ⟨v12, ev12, hf⟩ := si_ob hf
        refine sd_dgld X hw.2.2 (Or.inl rfl) ev12 dJ6_getChars_ba4f3_54 ?_
        obtain ⟨S13, eS13, hf⟩ := si_ob hf
        refine sd_bast X hw rfl eS13 dJ6_getChars_ba4f3_55 (fun H locs hw => ?_)
        have hc := hc.up (sd_wr_m eS13)
        refine lv_aload_n X.1 X.2.1 dJ6_getChars_ba4f3_56 rfl (lv_at hl 4 rfl) ?_
        obtain ⟨v14, ev14, hf⟩ := si_ob hf
        refine lv_iinc (v := v14) (lv' := [(5, .int v14), (0, .int v9), (4, .int v10), (3, .int v9), (2, .ref (E.2.1 88)), (6, .int x6)]) X.1 X.2.1 dJ6_getChars_ba4f3_57 hl (k := 0) rfl (Option.some.inj ev14) (by decide) rfl (fun ls hl => ?_)
        refine lv_iload X.1 X.2.1 dJ6_getChars_ba4f3_60 (lv_at hl 0 rfl) ?_
        refine sd_getD2 X hw.2.2 gf_RJ6_87 dJ6_getChars_ba4f3_62 ?_
        refine lv_iload X.1 X.2.1 dJ6_getChars_ba4f3_65 (lv_at hl 2 rfl) ?_
        obtain ⟨v15, ev15, hf⟩ := si_ob hf
        refine sd_dgld X hw.2.2 (Or.inr rfl) ev15 dJ6_getChars_ba4f3_67 ?_
        obtain ⟨S16, eS16, hf⟩ := si_ob hf
        refine sd_bast X hw rfl eS16 dJ6_getChars_ba4f3_68 (fun H locs hw => ?_)
        have hc := hc.up (sd_wr_m eS16)
        refine lv_goto (tgt := 22) X.1 X.2.1 dJ6_getChars_ba4f3_69 (by decide) ?_
        exact ih22 _ _ _ _ _ _ _ _ _ _ hf hE X hw hc (lv_sub hl [1, 4, 0, 5] rfl)
  have B12 : ∀ (x0 : Int32) (x5 : Int32) (t0 : Int32) (E : si_Ev) (S : si_St) (H : Heap) (locs : List Loc) (ls : Array Slot) (cs ss : Nat), f_J6_getChars_ba4f3_h12 F x0 x5 t0 S = some o → sd_EE al_J6_getChars_ba4f3 E0 E → si_Cx p s m args c cJ6_getChars_ba4f3 7 yJ6_getChars_ba4f3.cls E A → si_Ws E A s.heap S H locs → sd_Ct S0 S cs ss → lv_has ls 7 [(0, .int x0), (2, .ref (E.2.1 88)), (5, .int x5)] → W p l e (sd_R fr_J6_getChars_ba4f3 lo_J6_getChars_ba4f3 S0 o.2) s m args below meth c H locs cs ss Q (F0 m 12 ls [.int t0]) := by
    intro x0 x5 t0  E S H locs ls cs ss hf hE X hw hc hl
    have hcs := sd_room hc (mo_J6_getChars_ba4f3_h12 F _ _ _ _ _ hf) hR
    unfold f_J6_getChars_ba4f3_h12 at hf
    refine lv_istore (lv' := [(6, .int t0), (0, .int x0), (2, .ref (E.2.1 88)), (5, .int x5)]) X.1 X.2.1 dJ6_getChars_ba4f3_12 hl (by decide) rfl (fun ls hl => ?_)
    refine lv_iload X.1 X.2.1 dJ6_getChars_ba4f3_14 (lv_at hl 0 rfl) ?_
    refine lv_if_ne (tgt := 22) X.1 X.2.1 dJ6_getChars_ba4f3_16 (by decide) (fun c16 => ?_) (fun c16 => ?_)
    · have hf := si_in c16 hf
      exact B22 F _ _ _ _ _ _ _ _ _ _ hf hE X hw hc (lv_sub hl [1, 2, 3, 0] rfl)
    · have hf := si_ip c16 hf
      refine lv_iload_n X.1 X.2.1 dJ6_getChars_ba4f3_19 rfl (lv_at hl 1 rfl) ?_
      refine lv_ineg X.1 X.2.1 dJ6_getChars_ba4f3_20 ?_
      obtain ⟨v17, ev17, hf⟩ := si_ob hf
      refine si_nmI ev17 ?_
      refine lv_istore_n (lv' := [(0, .int v17), (6, .int t0), (2, .ref (E.2.1 88)), (5, .int x5)]) X.1 X.2.1 dJ6_getChars_ba4f3_21 rfl hl (by decide) rfl (fun ls hl => ?_)
      exact B22 F _ _ _ _ _ _ _ _ _ _ hf hE X hw hc (lv_sub hl [0, 2, 3, 1] rfl)
  have B0 : ∀ (x0 : Int32) (x1 : Int32) (E : si_Ev) (S : si_St) (H : Heap) (locs : List Loc) (ls : Array Slot) (cs ss : Nat), f_J6_getChars_ba4f3_h0 F x0 x1 S = some o → sd_EE al_J6_getChars_ba4f3 E0 E → si_Cx p s m args c cJ6_getChars_ba4f3 7 yJ6_getChars_ba4f3.cls E A → si_Ws E A s.heap S H locs → sd_Ct S0 S cs ss → lv_has ls 7 [(0, .int x0), (1, .int x1), (2, .ref (E.2.1 88))] → W p l e (sd_R fr_J6_getChars_ba4f3 lo_J6_getChars_ba4f3 S0 o.2) s m args below meth c H locs cs ss Q (F0 m 0 ls []) := by
    intro x0 x1  E S H locs ls cs ss hf hE X hw hc hl
    have hcs := sd_room hc (mo_J6_getChars_ba4f3_h0 F _ _ _ _ hf) hR
    unfold f_J6_getChars_ba4f3_h0 at hf
    refine lv_iload_n X.1 X.2.1 dJ6_getChars_ba4f3_0 rfl (lv_at hl 1 rfl) ?_
    refine lv_istore (lv' := [(5, .int x1), (0, .int x0), (1, .int x1), (2, .ref (E.2.1 88))]) X.1 X.2.1 dJ6_getChars_ba4f3_1 hl (by decide) rfl (fun ls hl => ?_)
    refine lv_iload_n X.1 X.2.1 dJ6_getChars_ba4f3_3 rfl (lv_at hl 1 rfl) ?_
    refine lv_if_ge (tgt := 11) X.1 X.2.1 dJ6_getChars_ba4f3_4 (by decide) (fun c4 => ?_) (fun c4 => ?_)
    · have hf := si_ip c4 hf
      refine lv_iconst (v := 0) X.1 X.2.1 dJ6_getChars_ba4f3_11 (by decide) ?_
      exact B12 _ _ _ _ _ _ _ _ _ _ hf hE X hw hc (lv_sub hl [1, 3, 0] rfl)
    · have hf := si_in c4 hf
      refine lv_iconst (v := 1) X.1 X.2.1 dJ6_getChars_ba4f3_7 (by decide) ?_
      refine lv_goto (tgt := 12) X.1 X.2.1 dJ6_getChars_ba4f3_8 (by decide) ?_
      exact B12 _ _ _ _ _ _ _ _ _ _ hf hE X hw hc (lv_sub hl [1, 3, 0] rfl)
  unfold f_J6_getChars_ba4f3 at hf
  exact B0 _ _ _ _ _ _ _ _ _ hf hE X hw hc (lv_sub hl [0, 1, 2] rfl)
def al_J5_append_c97b9 : Nat → Bool := fun a => decide (a = 88 ∨ a = 100)
theorem sd_als_J5_append_c97b9_J5_ensureCapacityInternal_d00df : ∀ k, al_J5_append_c97b9 k = false → al_J5_ensureCapacityInternal_d00df k = false := by
  intro k h
  simp only [al_J5_append_c97b9, al_J5_ensureCapacityInternal_d00df, decide_eq_false_iff_not] at h ⊢
  omega
def f_J5_append_c97b9_h33 (F : Nat) (x3 : Int32) (t0 : Int32) (S : si_St) : Option (si_St) :=
  Option.bind (sd_pi S 87 3 x3) fun S1 => some S1
def f_J5_append_c97b9_h21 (F : Nat) (x1 : Int32) (x3 : Int32) (t0 : Int32) (S : si_St) : Option (si_St) :=
  if t0 = 0 then (none) else (if ¬ (sd_ok S 87 ∧ S.1 87 0 ≠ 0) then none else Option.bind (f_J6_getChars_ba4f3 F x1 x3 S) fun q2 => f_J5_append_c97b9_h33 F x3 q2.1 q2.2)
def f_J5_append_c97b9_h17 (F : Nat) (x1 : Int32) (x3 : Int32) (S : si_St) : Option (si_St) :=
  if ¬ (sd_ok S 87) then none else Option.bind (f_J5_isLatin1_aae02 F S) fun q3 => f_J5_append_c97b9_h21 F x1 x3 q3.1 q3.2
def f_J5_append_c97b9_h0 (F : Nat) (x1 : Int32) (S : si_St) : Option (si_St) :=
  Option.bind (sd_gi S 87 3) fun v4 => Option.bind (f_J6_stringSize_0f7a4 F x1 S) fun q5 => Option.bind (some (v4 + q5.1)) fun v6 => if ¬ (sd_ok q5.2 87) then none else Option.bind (f_J5_ensureCapacityInternal_d00df F v6 q5.2) fun S7 => f_J5_append_c97b9_h17 F x1 v6 S7
def f_J5_append_c97b9 (F : Nat) (x1 : Int32) (S : si_St) : Option (si_St) :=
  f_J5_append_c97b9_h0 F x1 S
theorem mo_J5_append_c97b9_h33 (F : Nat) (x3 : Int32) (t0 : Int32) (S : si_St) (o : si_St) (h : f_J5_append_c97b9_h33 F x3 t0 S = some o) : sd_le S o := by
  have g : sd_le S S := sd_le.rf
  unfold f_J5_append_c97b9_h33 at h
  obtain ⟨S1, eS1, h⟩ := si_ob h
  have g := g.tr (sd_pi_m eS1)
  obtain rfl := Option.some.inj h
  exact g
theorem mo_J5_append_c97b9_h21 (F : Nat) (x1 : Int32) (x3 : Int32) (t0 : Int32) (S : si_St) (o : si_St) (h : f_J5_append_c97b9_h21 F x1 x3 t0 S = some o) : sd_le S o := by
  have g : sd_le S S := sd_le.rf
  unfold f_J5_append_c97b9_h21 at h
  rcases Decidable.em (t0 = 0) with c21 | c21
  · have h := si_ip c21 h
    cases h
  · have h := si_in c21 h
    have hgr27 : sd_ok S 87 ∧ S.1 87 0 ≠ 0 := Decidable.byContradiction fun h9 => by rw [if_pos h9] at h; cases h
    have h := si_in (not_not_intro hgr27) h
    obtain ⟨q2, eq2, h⟩ := si_ob h
    have g := g.tr (mo_J6_getChars_ba4f3 F x1 x3 S q2 eq2)
    exact g.tr (mo_J5_append_c97b9_h33 F _ _ _ _ h)
theorem mo_J5_append_c97b9_h17 (F : Nat) (x1 : Int32) (x3 : Int32) (S : si_St) (o : si_St) (h : f_J5_append_c97b9_h17 F x1 x3 S = some o) : sd_le S o := by
  have g : sd_le S S := sd_le.rf
  unfold f_J5_append_c97b9_h17 at h
  have hok18 : sd_ok S 87 := Decidable.byContradiction fun h9 => by rw [if_pos h9] at h; cases h
  have h := si_in (not_not_intro hok18) h
  obtain ⟨q3, eq3, h⟩ := si_ob h
  have g := g.tr (mo_J5_isLatin1_aae02 F S q3 eq3)
  exact g.tr (mo_J5_append_c97b9_h21 F _ _ _ _ _ h)
theorem mo_J5_append_c97b9_h0 (F : Nat) (x1 : Int32) (S : si_St) (o : si_St) (h : f_J5_append_c97b9_h0 F x1 S = some o) : sd_le S o := by
  have g : sd_le S S := sd_le.rf
  unfold f_J5_append_c97b9_h0 at h
  obtain ⟨v4, ev4, h⟩ := si_ob h
  obtain ⟨q5, eq5, h⟩ := si_ob h
  have g := g.tr (fr_J6_stringSize_0f7a4 F x1 S q5 eq5).le
  obtain ⟨v6, ev6, h⟩ := si_ob h
  have hok14 : sd_ok q5.2 87 := Decidable.byContradiction fun h9 => by rw [if_pos h9] at h; cases h
  have h := si_in (not_not_intro hok14) h
  obtain ⟨S7, eS7, h⟩ := si_ob h
  have g := g.tr (mo_J5_ensureCapacityInternal_d00df F v6 q5.2 S7 eS7)
  exact g.tr (mo_J5_append_c97b9_h17 F _ _ _ _ h)
theorem mo_J5_append_c97b9 (F : Nat) (x1 : Int32) (S : si_St) (o : si_St) (h : f_J5_append_c97b9 F x1 S = some o) : sd_le S o := by
  have g : sd_le S S := sd_le.rf
  unfold f_J5_append_c97b9 at h
  exact g.tr (mo_J5_append_c97b9_h0 F _ _ _ h)
abbrev fr_J5_append_c97b9 : Nat := 4
abbrev lo_J5_append_c97b9 : Nat := 93
set_option maxHeartbeats 4000000 in
set_option maxRecDepth 100000 in
theorem c_J5_append_c97b9 (l : Launch) (E0 : si_Ev) (F : Nat) (x1 : Int32) (S0 : si_St) (o : si_St) (hf : f_J5_append_c97b9 F x1 S0 = some o) : sd_Mr l al_J5_append_c97b9 E0 yJ5_append_c97b9 cJ5_append_c97b9 4 (some (.object "java/lang/AbstractStringBuilder")) fr_J5_append_c97b9 lo_J5_append_c97b9 [.ref (E0.2.1 87), .int x1] S0 87 o := by
  refine sd_ofWr (Or.inl ⟨_, rfl⟩) (plainFor_of_name (by decide +kernel)) (Nat.le_of_ble_eq_true rfl) ?_
  intro p e s m args below meth c ls Q A X hmn hw hA hl hret
  have hl : lv_has ls 4 [(0, .ref (E0.2.1 87)), (1, .int x1)] := hl
  have hR : sd_RR (sd_R fr_J5_append_c97b9 lo_J5_append_c97b9 S0 o) S0 o := ⟨Nat.le_refl _, Nat.le_refl _⟩
  have hE : sd_EE al_J5_append_c97b9 E0 E0 := sd_EE.rf
  have hc : sd_Ct S0 S0 0 0 := ⟨Nat.le_refl _, Nat.le_refl _⟩
  have B33 : ∀ (x3 : Int32) (t0 : Int32) (E : si_Ev) (S : si_St) (H : Heap) (locs : List Loc) (ls : Array Slot) (cs ss : Nat), f_J5_append_c97b9_h33 F x3 t0 S = some o → sd_EE al_J5_append_c97b9 E0 E → si_Cx p s m args c cJ5_append_c97b9 4 yJ5_append_c97b9.cls E A → si_Ws E A s.heap S H locs → sd_Ct S0 S cs ss → lv_has ls 4 [(0, .ref (E.2.1 87)), (3, .int x3)] → W p l e (sd_R fr_J5_append_c97b9 lo_J5_append_c97b9 S0 o) s m args below meth c H locs cs ss Q (F0 m 33 ls [.int t0]) := by
    intro x3 t0  E S H locs ls cs ss hf hE X hw hc hl
    have hcs := sd_room hc (mo_J5_append_c97b9_h33 F _ _ _ _ hf) hR
    unfold f_J5_append_c97b9_h33 at hf
    refine lv_pop X.1 X.2.1 dJ5_append_c97b9_33 rfl ?_
    refine lv_goto (tgt := 48) X.1 X.2.1 dJ5_append_c97b9_34 (by decide) ?_
    refine lv_aload_n X.1 X.2.1 dJ5_append_c97b9_48 rfl (lv_at hl 0 rfl) ?_
    refine lv_iload_n X.1 X.2.1 dJ5_append_c97b9_49 rfl (lv_at hl 1 rfl) ?_
    obtain ⟨S1, eS1, hf⟩ := si_ob hf
    refine sd_putI X hw sd_cl20 3 (by decide) (Or.inl gf_RJ5_79) rfl (Or.inl rfl) rfl rfl (tyJ4_ok 3 (by decide)) rfl rfl eS1 dJ5_append_c97b9_50 (fun H locs hw => ?_)
    have hc := hc.up (sd_pi_m eS1)
    refine lv_aload_n X.1 X.2.1 dJ5_append_c97b9_53 rfl (lv_at hl 0 rfl) ?_
    exact hret _ _ _ _ _ _ _ _ hf ⟨hE, hw, hc⟩ dJ5_append_c97b9_54
  have B21 : ∀ (x1 : Int32) (x3 : Int32) (t0 : Int32) (E : si_Ev) (S : si_St) (H : Heap) (locs : List Loc) (ls : Array Slot) (cs ss : Nat), f_J5_append_c97b9_h21 F x1 x3 t0 S = some o → sd_EE al_J5_append_c97b9 E0 E → si_Cx p s m args c cJ5_append_c97b9 4 yJ5_append_c97b9.cls E A → si_Ws E A s.heap S H locs → sd_Ct S0 S cs ss → lv_has ls 4 [(0, .ref (E.2.1 87)), (1, .int x1), (3, .int x3)] → W p l e (sd_R fr_J5_append_c97b9 lo_J5_append_c97b9 S0 o) s m args below meth c H locs cs ss Q (F0 m 21 ls [.int t0]) := by
    intro x1 x3 t0  E S H locs ls cs ss hf hE X hw hc hl
    have hcs := sd_room hc (mo_J5_append_c97b9_h21 F _ _ _ _ _ hf) hR
    unfold f_J5_append_c97b9_h21 at hf
    refine lv_if_eq (tgt := 37) X.1 X.2.1 dJ5_append_c97b9_21 (by decide) (fun c21 => ?_) (fun c21 => ?_)
    · have hf := si_ip c21 hf
      cases hf
    · have hf := si_in c21 hf
      refine lv_iload_n X.1 X.2.1 dJ5_append_c97b9_24 rfl (lv_at hl 1 rfl) ?_
      refine lv_iload_n X.1 X.2.1 dJ5_append_c97b9_25 rfl (lv_at hl 2 rfl) ?_
      refine lv_aload_n X.1 X.2.1 dJ5_append_c97b9_26 rfl (lv_at hl 0 rfl) ?_
      have hgr27 : sd_ok S 87 ∧ S.1 87 0 ≠ 0 := Decidable.byContradiction fun h9 => by rw [if_pos h9] at hf; cases hf
      have hf := si_in (not_not_intro hgr27) hf
      refine sd_getR X hw sd_cl20 0 (by decide) (Or.inl gf_RJ5_15) rfl rfl rfl hgr27 dJ5_append_c97b9_27 ?_
      obtain ⟨q2, eq2, hf⟩ := si_ob hf
      refine sd_goi (sd_runS (As := [.int x1, .int x3, .ref (E.2.1 88)]) (rest := []) cal_J6_getChars_ba4f3 gm_RJ5_248 X hw hA hl.1 ((c_J6_getChars_ba4f3 l E F x1 x3 S q2 eq2) H.size) ⟨Nat.le_of_ble_eq_true rfl, Nat.le_of_ble_eq_true rfl⟩ rfl (Nat.le_of_ble_eq_true rfl) (sd_room2 hc (mo_J6_getChars_ba4f3 F x1 x3 S q2 eq2) (mo_J5_append_c97b9_h33 F _ _ _ _ hf) hR) dJ5_append_c97b9_30) X hw hA hE hc (mo_J6_getChars_ba4f3 F x1 x3 S q2 eq2) (fun _ _ => rfl) (fun E H locs cs ss hZ hE X hw hc => ?_)
      rw [← hZ.at 87 rfl] at hl
      exact B33 _ _ _ _ _ _ _ _ _ hf hE X hw hc (lv_sub hl [0, 2] rfl)
  have B17 : ∀ (x1 : Int32) (x3 : Int32) (E : si_Ev) (S : si_St) (H : Heap) (locs : List Loc) (ls : Array Slot) (cs ss : Nat), f_J5_append_c97b9_h17 F x1 x3 S = some o → sd_EE al_J5_append_c97b9 E0 E → si_Cx p s m args c cJ5_append_c97b9 4 yJ5_append_c97b9.cls E A → si_Ws E A s.heap S H locs → sd_Ct S0 S cs ss → lv_has ls 4 [(0, .ref (E.2.1 87)), (1, .int x1), (3, .int x3)] → W p l e (sd_R fr_J5_append_c97b9 lo_J5_append_c97b9 S0 o) s m args below meth c H locs cs ss Q (F0 m 17 ls []) := by
    intro x1 x3  E S H locs ls cs ss hf hE X hw hc hl
    have hcs := sd_room hc (mo_J5_append_c97b9_h17 F _ _ _ _ hf) hR
    unfold f_J5_append_c97b9_h17 at hf
    refine lv_aload_n X.1 X.2.1 dJ5_append_c97b9_17 rfl (lv_at hl 0 rfl) ?_
    have hok18 : sd_ok S 87 := Decidable.byContradiction fun h9 => by rw [if_pos h9] at hf; cases hf
    have hf := si_in (not_not_intro hok18) hf
    obtain ⟨q3, eq3, hf⟩ := si_ob hf
    refine sd_goi (sd_runU (As := []) (rest := []) sd_cl20 rfl hok18 cu_J5_isLatin1_aae02_J5_isLatin1_aae02 gm_RJ5_83 X hw hA hl.1 ((c_J5_isLatin1_aae02 l E F S q3 eq3) H.size) ⟨Nat.le_of_ble_eq_true rfl, Nat.le_of_ble_eq_true rfl⟩ rfl (Nat.le_of_ble_eq_true rfl) (sd_room2 hc (mo_J5_isLatin1_aae02 F S q3 eq3) (mo_J5_append_c97b9_h21 F _ _ _ _ _ hf) hR) dJ5_append_c97b9_18) X hw hA hE hc (mo_J5_isLatin1_aae02 F S q3 eq3) (fun _ _ => rfl) (fun E H locs cs ss hZ hE X hw hc => ?_)
    rw [← hZ.at 87 rfl] at hl
    exact B21 _ _ _ _ _ _ _ _ _ _ hf hE X hw hc (lv_sub hl [0, 1, 2] rfl)
  have B0 : ∀ (x1 : Int32) (E : si_Ev) (S : si_St) (H : Heap) (locs : List Loc) (ls : Array Slot) (cs ss : Nat), f_J5_append_c97b9_h0 F x1 S = some o → sd_EE al_J5_append_c97b9 E0 E → si_Cx p s m args c cJ5_append_c97b9 4 yJ5_append_c97b9.cls E A → si_Ws E A s.heap S H locs → sd_Ct S0 S cs ss → lv_has ls 4 [(0, .ref (E.2.1 87)), (1, .int x1)] → W p l e (sd_R fr_J5_append_c97b9 lo_J5_append_c97b9 S0 o) s m args below meth c H locs cs ss Q (F0 m 0 ls []) := by
    intro x1  E S H locs ls cs ss hf hE X hw hc hl
    have hcs := sd_room hc (mo_J5_append_c97b9_h0 F _ _ _ hf) hR
    unfold f_J5_append_c97b9_h0 at hf
    refine lv_aload_n X.1 X.2.1 dJ5_append_c97b9_0 rfl (lv_at hl 0 rfl) ?_
    obtain ⟨v4, ev4, hf⟩ := si_ob hf
    refine sd_getI X hw sd_cl20 3 (by decide) (Or.inl gf_RJ5_79) rfl rfl rfl ev4 dJ5_append_c97b9_1 ?_
    refine lv_istore_n (lv' := [(2, .int v4), (0, .ref (E.2.1 87)), (1, .int x1)]) X.1 X.2.1 dJ5_append_c97b9_4 rfl hl (by decide) rfl (fun ls hl => ?_)
    refine lv_iload_n X.1 X.2.1 dJ5_append_c97b9_5 rfl (lv_at hl 0 rfl) ?_
    refine lv_iload_n X.1 X.2.1 dJ5_append_c97b9_6 rfl (lv_at hl 2 rfl) ?_
    obtain ⟨q5, eq5, hf⟩ := si_ob hf
    refine si_cSi [.int x1] cal_J6_stringSize_0f7a4 gm_RJ5_245 X hw hA hl.1 (c_J6_stringSize_0f7a4 l E F x1 S q5 eq5) ⟨⟨rfl, rfl⟩, Nat.le_of_ble_eq_true rfl, Nat.le_of_ble_eq_true rfl⟩ rfl rfl (Nat.le_of_ble_eq_true rfl) hcs dJ5_append_c97b9_7 (fun H locs hw => ?_)
    have hc := hc.up (fr_J6_stringSize_0f7a4 F x1 S q5 eq5).le
    refine lv_iadd X.1 X.2.1 dJ5_append_c97b9_10 ?_
    obtain ⟨v6, ev6, hf⟩ := si_ob hf
    refine si_nmI ev6 ?_
    refine lv_istore_n (lv' := [(3, .int v6), (2, .int v4), (0, .ref (E.2.1 87)), (1, .int x1)]) X.1 X.2.1 dJ5_append_c97b9_11 rfl hl (by decide) rfl (fun ls hl => ?_)
    refine lv_aload_n X.1 X.2.1 dJ5_append_c97b9_12 rfl (lv_at hl 2 rfl) ?_
    refine lv_iload_n X.1 X.2.1 dJ5_append_c97b9_13 rfl (lv_at hl 0 rfl) ?_
    have hok14 : sd_ok q5.2 87 := Decidable.byContradiction fun h9 => by rw [if_pos h9] at hf; cases hf
    have hf := si_in (not_not_intro hok14) hf
    obtain ⟨S7, eS7, hf⟩ := si_ob hf
    refine sd_gov (sd_runU (As := [.int v6]) (rest := []) sd_cl20 rfl hok14 cu_J5_ensureCapacityInternal_d00df_J5_ensureCapacityInternal_d00df gm_RJ5_100 X hw hA hl.1 ((c_J5_ensureCapacityInternal_d00df l E F v6 q5.2 S7 eS7) H.size) ⟨Nat.le_of_ble_eq_true rfl, Nat.le_of_ble_eq_true rfl⟩ rfl (Nat.le_of_ble_eq_true rfl) (sd_room2 hc (mo_J5_ensureCapacityInternal_d00df F v6 q5.2 S7 eS7) (mo_J5_append_c97b9_h17 F _ _ _ _ hf) hR) dJ5_append_c97b9_14) X hw hA hE hc (mo_J5_ensureCapacityInternal_d00df F v6 q5.2 S7 eS7) (sd_als_J5_append_c97b9_J5_ensureCapacityInternal_d00df) (fun E H locs cs ss hZ hE X hw hc => ?_)
    rw [← hZ.at 87 rfl] at hl
    exact B17 _ _ _ _ _ _ _ _ _ hf hE X hw hc (lv_sub hl [2, 3, 0] rfl)
  unfold f_J5_append_c97b9 at hf
  exact B0 _ _ _ _ _ _ _ _ hf hE X hw hc (lv_sub hl [0, 1] rfl)
def al_J4_append_bf812 : Nat → Bool := fun a => decide (a = 88 ∨ a = 100)
theorem sd_als_J4_append_bf812_J5_append_c97b9 : ∀ k, al_J4_append_bf812 k = false → al_J5_append_c97b9 k = false := by
  intro k h
  simp only [al_J4_append_bf812, al_J5_append_c97b9, decide_eq_false_iff_not] at h ⊢
  omega
def f_J4_append_bf812_h5 (F : Nat) (S : si_St) : Option (si_St) :=
  some S
def f_J4_append_bf812_h0 (F : Nat) (x1 : Int32) (S : si_St) : Option (si_St) :=
  if ¬ (sd_ok S 87) then none else Option.bind (f_J5_append_c97b9 F x1 S) fun S1 => f_J4_append_bf812_h5 F S1
def f_J4_append_bf812 (F : Nat) (x1 : Int32) (S : si_St) : Option (si_St) :=
  f_J4_append_bf812_h0 F x1 S
theorem mo_J4_append_bf812_h5 (F : Nat) (S : si_St) (o : si_St) (h : f_J4_append_bf812_h5 F S = some o) : sd_le S o := by
  have g : sd_le S S := sd_le.rf
  unfold f_J4_append_bf812_h5 at h
  obtain rfl := Option.some.inj h
  exact g
theorem mo_J4_append_bf812_h0 (F : Nat) (x1 : Int32) (S : si_St) (o : si_St) (h : f_J4_append_bf812_h0 F x1 S = some o) : sd_le S o := by
  have g : sd_le S S := sd_le.rf
  unfold f_J4_append_bf812_h0 at h
  have hok2 : sd_ok S 87 := Decidable.byContradiction fun h9 => by rw [if_pos h9] at h; cases h
  have h := si_in (not_not_intro hok2) h
  obtain ⟨S1, eS1, h⟩ := si_ob h
  have g := g.tr (mo_J5_append_c97b9 F x1 S S1 eS1)
  exact g.tr (mo_J4_append_bf812_h5 F _ _ h)
theorem mo_J4_append_bf812 (F : Nat) (x1 : Int32) (S : si_St) (o : si_St) (h : f_J4_append_bf812 F x1 S = some o) : sd_le S o := by
  have g : sd_le S S := sd_le.rf
  unfold f_J4_append_bf812 at h
  exact g.tr (mo_J4_append_bf812_h0 F _ _ _ h)
abbrev fr_J4_append_bf812 : Nat := 5
abbrev lo_J4_append_bf812 : Nat := 116
set_option maxHeartbeats 4000000 in
set_option maxRecDepth 100000 in
theorem c_J4_append_bf812 (l : Launch) (E0 : si_Ev) (F : Nat) (x1 : Int32) (S0 : si_St) (o : si_St) (hf : f_J4_append_bf812 F x1 S0 = some o) : sd_Mr l al_J4_append_bf812 E0 yJ4_append_bf812 cJ4_append_bf812 2 (some (.object "java/lang/StringBuilder")) fr_J4_append_bf812 lo_J4_append_bf812 [.ref (E0.2.1 87), .int x1] S0 87 o := by
  refine sd_ofWr (Or.inl ⟨_, rfl⟩) (plainFor_of_name (by decide +kernel)) (Nat.le_of_ble_eq_true rfl) ?_
  intro p e s m args below meth c ls Q A X hmn hw hA hl hret
  have hl : lv_has ls 2 [(0, .ref (E0.2.1 87)), (1, .int x1)] := hl
  have hR : sd_RR (sd_R fr_J4_append_bf812 lo_J4_append_bf812 S0 o) S0 o := ⟨Nat.le_refl _, Nat.le_refl _⟩
  have hE : sd_EE al_J4_append_bf812 E0 E0 := sd_EE.rf
  have hc : sd_Ct S0 S0 0 0 := ⟨Nat.le_refl _, Nat.le_refl _⟩
  have B5 : ∀ (E : si_Ev) (S : si_St) (H : Heap) (locs : List Loc) (ls : Array Slot) (cs ss : Nat), f_J4_append_bf812_h5 F S = some o → sd_EE al_J4_append_bf812 E0 E → si_Cx p s m args c cJ4_append_bf812 2 yJ4_append_bf812.cls E A → si_Ws E A s.heap S H locs → sd_Ct S0 S cs ss → lv_has ls 2 [(0, .ref (E.2.1 87))] → W p l e (sd_R fr_J4_append_bf812 lo_J4_append_bf812 S0 o) s m args below meth c H locs cs ss Q (F0 m 5 ls [.ref (E.2.1 87)]) := by
    intro   E S H locs ls cs ss hf hE X hw hc hl
    have hcs := sd_room hc (mo_J4_append_bf812_h5 F _ _ hf) hR
    unfold f_J4_append_bf812_h5 at hf
    refine lv_pop X.1 X.2.1 dJ4_append_bf812_5 rfl ?_
    refine lv_aload_n X.1 X.2.1 dJ4_append_bf812_6 rfl (lv_at hl 0 rfl) ?_
    exact hret _ _ _ _ _ _ _ _ hf ⟨hE, hw, hc⟩ dJ4_append_bf812_7
  have B0 : ∀ (x1 : Int32) (E : si_Ev) (S : si_St) (H : Heap) (locs : List Loc) (ls : Array Slot) (cs ss : Nat), f_J4_append_bf812_h0 F x1 S = some o → sd_EE al_J4_append_bf812 E0 E → si_Cx p s m args c cJ4_append_bf812 2 yJ4_append_bf812.cls E A → si_Ws E A s.heap S H locs → sd_Ct S0 S cs ss → lv_has ls 2 [(0, .ref (E.2.1 87)), (1, .int x1)] → W p l e (sd_R fr_J4_append_bf812 lo_J4_append_bf812 S0 o) s m args below meth c H locs cs ss Q (F0 m 0 ls []) := by
    intro x1  E S H locs ls cs ss hf hE X hw hc hl
    have hcs := sd_room hc (mo_J4_append_bf812_h0 F _ _ _ hf) hR
    unfold f_J4_append_bf812_h0 at hf
    refine lv_aload_n X.1 X.2.1 dJ4_append_bf812_0 rfl (lv_at hl 0 rfl) ?_
    refine lv_iload_n X.1 X.2.1 dJ4_append_bf812_1 rfl (lv_at hl 1 rfl) ?_
    have hok2 : sd_ok S 87 := Decidable.byContradiction fun h9 => by rw [if_pos h9] at hf; cases hf
    have hf := si_in (not_not_intro hok2) hf
    obtain ⟨S1, eS1, hf⟩ := si_ob hf
    refine sd_gor (sd_runSU (As := [.int x1]) (rest := []) sd_cl20 rfl hok2 csu_J5_append_c97b9 gm_RJ4_53 X hw hA hl.1 ((c_J5_append_c97b9 l E F x1 S S1 eS1) H.size) ⟨Nat.le_of_ble_eq_true rfl, Nat.le_of_ble_eq_true rfl⟩ rfl (Nat.le_of_ble_eq_true rfl) (sd_room2 hc (mo_J5_append_c97b9 F x1 S S1 eS1) (mo_J4_append_bf812_h5 F _ _ hf) hR) dJ4_append_bf812_2) X hw hA hE hc (mo_J5_append_c97b9 F x1 S S1 eS1) (sd_als_J4_append_bf812_J5_append_c97b9) (fun E H locs cs ss hZ hE X hw hc => ?_)
    rw [← hZ.at 87 rfl] at hl
    exact B5 _ _ _ _ _ _ _ hf hE X hw hc (lv_sub hl [0] rfl)
  unfold f_J4_append_bf812 at hf
  exact B0 _ _ _ _ _ _ _ _ hf hE X hw hc (lv_sub hl [0, 1] rfl)
def al_J5_inflateIfNeededFor_a7421 : Nat → Bool := fun _ => false
def f_J5_inflateIfNeededFor_a7421_h21 (F : Nat) (g1 : Nat) (S : si_St) : Option (si_St) :=
  some S
def f_J5_inflateIfNeededFor_a7421_h14 (F : Nat) (g1 : Nat) (t0 : Int32) (t1 : Int32) (S : si_St) : Option (si_St) :=
  if t1 = t0 then (f_J5_inflateIfNeededFor_a7421_h21 F g1 S) else (none)
def f_J5_inflateIfNeededFor_a7421_h0 (F : Nat) (g1 : Nat) (S : si_St) : Option (si_St) :=
  if (1 : Int32) = 0 then (f_J5_inflateIfNeededFor_a7421_h21 F g1 S) else (Option.bind (sd_gi S 87 1) fun v1 => Option.bind (f_J0_coder_7d493 F g1 S) fun q2 => f_J5_inflateIfNeededFor_a7421_h14 F g1 q2.1 v1 q2.2)
def f_J5_inflateIfNeededFor_a7421 (F : Nat) (g1 : Nat) (S : si_St) : Option (si_St) :=
  f_J5_inflateIfNeededFor_a7421_h0 F g1 S
theorem mo_J5_inflateIfNeededFor_a7421_h21 (F : Nat) (g1 : Nat) (hg1 : g1 < 17) (S : si_St) (o : si_St) (h : f_J5_inflateIfNeededFor_a7421_h21 F g1 S = some o) : sd_le S o := by
  have g : sd_le S S := sd_le.rf
  unfold f_J5_inflateIfNeededFor_a7421_h21 at h
  obtain rfl := Option.some.inj h
  exact g
theorem mo_J5_inflateIfNeededFor_a7421_h14 (F : Nat) (g1 : Nat) (hg1 : g1 < 17) (t0 : Int32) (t1 : Int32) (S : si_St) (o : si_St) (h : f_J5_inflateIfNeededFor_a7421_h14 F g1 t0 t1 S = some o) : sd_le S o := by
  have g : sd_le S S := sd_le.rf
  unfold f_J5_inflateIfNeededFor_a7421_h14 at h
  rcases Decidable.em (t1 = t0) with c14 | c14
  · have h := si_ip c14 h
    exact g.tr (mo_J5_inflateIfNeededFor_a7421_h21 F g1 hg1 _ _ h)
  · have h := si_in c14 h
    cases h
theorem mo_J5_inflateIfNeededFor_a7421_h0 (F : Nat) (g1 : Nat) (hg1 : g1 < 17) (S : si_St) (o : si_St) (h : f_J5_inflateIfNeededFor_a7421_h0 F g1 S = some o) : sd_le S o := by
  have g : sd_le S S := sd_le.rf
  unfold f_J5_inflateIfNeededFor_a7421_h0 at h
  rcases Decidable.em ((1 : Int32) = 0) with c3 | c3
  · have h := si_ip c3 h
    exact g.tr (mo_J5_inflateIfNeededFor_a7421_h21 F g1 hg1 _ _ h)
  · have h := si_in c3 h
    obtain ⟨v1, ev1, h⟩ := si_ob h
    obtain ⟨q2, eq2, h⟩ := si_ob h
    have g := g.tr (fr_J0_coder_7d493 F g1 hg1 S q2 eq2).le
    exact g.tr (mo_J5_inflateIfNeededFor_a7421_h14 F g1 hg1 _ _ _ _ h)
theorem mo_J5_inflateIfNeededFor_a7421 (F : Nat) (g1 : Nat) (hg1 : g1 < 17) (S : si_St) (o : si_St) (h : f_J5_inflateIfNeededFor_a7421 F g1 S = some o) : sd_le S o := by
  have g : sd_le S S := sd_le.rf
  unfold f_J5_inflateIfNeededFor_a7421 at h
  exact g.tr (mo_J5_inflateIfNeededFor_a7421_h0 F g1 hg1 _ _ h)
abbrev fr_J5_inflateIfNeededFor_a7421 : Nat := 1
abbrev lo_J5_inflateIfNeededFor_a7421 : Nat := 20
set_option maxHeartbeats 4000000 in
set_option maxRecDepth 100000 in
theorem c_J5_inflateIfNeededFor_a7421 (l : Launch) (E0 : si_Ev) (F : Nat) (g1 : Nat) (hg1 : g1 < 17) (S0 : si_St) (o : si_St) (hf : f_J5_inflateIfNeededFor_a7421 F g1 S0 = some o) : sd_Mv l al_J5_inflateIfNeededFor_a7421 E0 yJ5_inflateIfNeededFor_a7421 cJ5_inflateIfNeededFor_a7421 2 fr_J5_inflateIfNeededFor_a7421 lo_J5_inflateIfNeededFor_a7421 [.ref (E0.2.1 87), .ref (E0.2.2.2.1 g1)] S0 o := by
  refine sd_ofWv (plainFor_of_name (by decide +kernel)) (Nat.le_of_ble_eq_true rfl) ?_
  intro p e s m args below meth c ls Q A X hmn hw hA hl hret
  have hl : lv_has ls 2 [(0, .ref (E0.2.1 87)), (1, .ref (E0.2.2.2.1 g1))] := hl
  have hR : sd_RR (sd_R fr_J5_inflateIfNeededFor_a7421 lo_J5_inflateIfNeededFor_a7421 S0 o) S0 o := ⟨Nat.le_refl _, Nat.le_refl _⟩
  have hE : sd_EE al_J5_inflateIfNeededFor_a7421 E0 E0 := sd_EE.rf
  have hc : sd_Ct S0 S0 0 0 := ⟨Nat.le_refl _, Nat.le_refl _⟩
  have B21 : ∀ (E : si_Ev) (S : si_St) (H : Heap) (locs : List Loc) (ls : Array Slot) (cs ss : Nat), f_J5_inflateIfNeededFor_a7421_h21 F g1 S = some o → sd_EE al_J5_inflateIfNeededFor_a7421 E0 E → si_Cx p s m args c cJ5_inflateIfNeededFor_a7421 2 yJ5_inflateIfNeededFor_a7421.cls E A → si_Ws E A s.heap S H locs → sd_Ct S0 S cs ss → lv_has ls 2 [] → W p l e (sd_R fr_J5_inflateIfNeededFor_a7421 lo_J5_inflateIfNeededFor_a7421 S0 o) s m args below meth c H locs cs ss Q (F0 m 21 ls []) := by
    intro   E S H locs ls cs ss hf hE X hw hc hl
    have hcs := sd_room hc (mo_J5_inflateIfNeededFor_a7421_h21 F g1 hg1 _ _ hf) hR
    unfold f_J5_inflateIfNeededFor_a7421_h21 at hf
    exact hret _ _ _ _ _ _ _ _ hf ⟨hE, hw, hc⟩ dJ5_inflateIfNeededFor_a7421_21
  have B14 : ∀ (t0 : Int32) (t1 : Int32) (E : si_Ev) (S : si_St) (H : Heap) (locs : List Loc) (ls : Array Slot) (cs ss : Nat), f_J5_inflateIfNeededFor_a7421_h14 F g1 t0 t1 S = some o → sd_EE al_J5_inflateIfNeededFor_a7421 E0 E → si_Cx p s m args c cJ5_inflateIfNeededFor_a7421 2 yJ5_inflateIfNeededFor_a7421.cls E A → si_Ws E A s.heap S H locs → sd_Ct S0 S cs ss → lv_has ls 2 [(0, .ref (E.2.1 87))] → W p l e (sd_R fr_J5_inflateIfNeededFor_a7421 lo_J5_inflateIfNeededFor_a7421 S0 o) s m args below meth c H locs cs ss Q (F0 m 14 ls [.int t0, .int t1]) := by
    intro t0 t1  E S H locs ls cs ss hf hE X hw hc hl
    have hcs := sd_room hc (mo_J5_inflateIfNeededFor_a7421_h14 F g1 hg1 _ _ _ _ hf) hR
    unfold f_J5_inflateIfNeededFor_a7421_h14 at hf
    refine lv_icmp_eq (tgt := 21) X.1 X.2.1 dJ5_inflateIfNeededFor_a7421_14 (by decide) (fun c14 => ?_) (fun c14 => ?_)
    · have hf := si_ip c14 hf
      exact B21 _ _ _ _ _ _ _ hf hE X hw hc (lv_sub hl [] rfl)
    · have hf := si_in c14 hf
      cases hf
  have B0 : ∀ (E : si_Ev) (S : si_St) (H : Heap) (locs : List Loc) (ls : Array Slot) (cs ss : Nat), f_J5_inflateIfNeededFor_a7421_h0 F g1 S = some o → sd_EE al_J5_inflateIfNeededFor_a7421 E0 E → si_Cx p s m args c cJ5_inflateIfNeededFor_a7421 2 yJ5_inflateIfNeededFor_a7421.cls E A → si_Ws E A s.heap S H locs → sd_Ct S0 S cs ss → lv_has ls 2 [(0, .ref (E.2.1 87)), (1, .ref (E.2.2.2.1 g1))] → W p l e (sd_R fr_J5_inflateIfNeededFor_a7421 lo_J5_inflateIfNeededFor_a7421 S0 o) s m args below meth c H locs cs ss Q (F0 m 0 ls []) := by
    intro   E S H locs ls cs ss hf hE X hw hc hl
    have hcs := sd_room hc (mo_J5_inflateIfNeededFor_a7421_h0 F g1 hg1 _ _ hf) hR
    unfold f_J5_inflateIfNeededFor_a7421_h0 at hf
    refine si_gsC X hw.2.2 gf_RJ5_18 dJ5_inflateIfNeededFor_a7421_0 ?_
    refine lv_if_eq (tgt := 21) X.1 X.2.1 dJ5_inflateIfNeededFor_a7421_3 (by decide) (fun c3 => ?_) (fun c3 => ?_)
    · have hf := si_ip c3 hf
      exact B21 _ _ _ _ _ _ _ hf hE X hw hc (lv_sub hl [] rfl)
    · have hf := si_in c3 hf
      refine lv_aload_n X.1 X.2.1 dJ5_inflateIfNeededFor_a7421_6 rfl (lv_at hl 0 rfl) ?_
      obtain ⟨v1, ev1, hf⟩ := si_ob hf
      refine sd_getI X hw sd_cl20 1 (by decide) (Or.inl gf_RJ5_22) rfl rfl rfl ev1 dJ5_inflateIfNeededFor_a7421_7 ?_
      refine lv_aload_n X.1 X.2.1 dJ5_inflateIfNeededFor_a7421_10 rfl (lv_at hl 1 rfl) ?_
      obtain ⟨q2, eq2, hf⟩ := si_ob hf
      refine si_cVS [] cal_J0_coder_7d493 gm_RJ5_40 X hw hA hl.1 (c_J0_coder_7d493 l E F g1 hg1 S q2 eq2) hg1 ⟨⟨rfl, rfl⟩, Nat.le_of_ble_eq_true rfl, Nat.le_of_ble_eq_true rfl⟩ rfl rfl (Nat.le_of_ble_eq_true rfl) hcs dJ5_inflateIfNeededFor_a7421_11 (fun H locs hw => ?_)
      have hc := hc.up (fr_J0_coder_7d493 F g1 hg1 S q2 eq2).le
      exact B14 _ _ _ _ _ _ _ _ _ hf hE X hw hc (lv_sub hl [0] rfl)
  unfold f_J5_inflateIfNeededFor_a7421 at hf
  exact B0 _ _ _ _ _ _ _ hf hE X hw hc (lv_sub hl [0, 1] rfl)
def al_J0_getBytes_840e7 : Nat → Bool := fun _ => false
def f_J0_getBytes_840e7_h4 (F : Nat) (g0 : Nat) (x2 : Int32) (x3 : Int32) (t0 : Int32) (S : si_St) : Option (si_St) :=
  if t0 = x3 then (Option.bind (sd_cs S g0 0 88 (x2 <<< (x3 &&& 31)) (si_sl g0)) fun S1 => some S1) else (none)
def f_J0_getBytes_840e7_h0 (F : Nat) (g0 : Nat) (x2 : Int32) (x3 : Int32) (S : si_St) : Option (si_St) :=
  Option.bind (f_J0_coder_7d493 F g0 S) fun q2 => f_J0_getBytes_840e7_h4 F g0 x2 x3 q2.1 q2.2
def f_J0_getBytes_840e7 (F : Nat) (g0 : Nat) (x2 : Int32) (x3 : Int32) (S : si_St) : Option (si_St) :=
  f_J0_getBytes_840e7_h0 F g0 x2 x3 S
theorem mo_J0_getBytes_840e7_h4 (F : Nat) (g0 : Nat) (hg0 : g0 < 17) (x2 : Int32) (x3 : Int32) (t0 : Int32) (S : si_St) (o : si_St) (h : f_J0_getBytes_840e7_h4 F g0 x2 x3 t0 S = some o) : sd_le S o := by
  have g : sd_le S S := sd_le.rf
  unfold f_J0_getBytes_840e7_h4 at h
  rcases Decidable.em (t0 = x3) with c5 | c5
  · have h := si_ip c5 h
    obtain ⟨S1, eS1, h⟩ := si_ob h
    have g := g.tr (sd_cs_m eS1)
    obtain rfl := Option.some.inj h
    exact g
  · have h := si_in c5 h
    cases h
theorem mo_J0_getBytes_840e7_h0 (F : Nat) (g0 : Nat) (hg0 : g0 < 17) (x2 : Int32) (x3 : Int32) (S : si_St) (o : si_St) (h : f_J0_getBytes_840e7_h0 F g0 x2 x3 S = some o) : sd_le S o := by
  have g : sd_le S S := sd_le.rf
  unfold f_J0_getBytes_840e7_h0 at h
  obtain ⟨q2, eq2, h⟩ := si_ob h
  have g := g.tr (fr_J0_coder_7d493 F g0 hg0 S q2 eq2).le
  exact g.tr (mo_J0_getBytes_840e7_h4 F g0 hg0 _ _ _ _ _ h)
theorem mo_J0_getBytes_840e7 (F : Nat) (g0 : Nat) (hg0 : g0 < 17) (x2 : Int32) (x3 : Int32) (S : si_St) (o : si_St) (h : f_J0_getBytes_840e7 F g0 x2 x3 S = some o) : sd_le S o := by
  have g : sd_le S S := sd_le.rf
  unfold f_J0_getBytes_840e7 at h
  exact g.tr (mo_J0_getBytes_840e7_h0 F g0 hg0 _ _ _ _ h)
abbrev fr_J0_getBytes_840e7 : Nat := 1
abbrev lo_J0_getBytes_840e7 : Nat := 40
set_option maxHeartbeats 4000000 in
set_option maxRecDepth 100000 in
theorem c_J0_getBytes_840e7 (l : Launch) (E0 : si_Ev) (F : Nat) (g0 : Nat) (hg0 : g0 < 17) (x2 : Int32) (x3 : Int32) (S0 : si_St) (o : si_St) (hf : f_J0_getBytes_840e7 F g0 x2 x3 S0 = some o) : sd_Mv l al_J0_getBytes_840e7 E0 yJ0_getBytes_840e7 cJ0_getBytes_840e7 4 fr_J0_getBytes_840e7 lo_J0_getBytes_840e7 [.ref (E0.2.2.2.1 g0), .ref (E0.2.1 88), .int x2, .int x3] S0 o := by
  refine sd_ofWv (plainFor_of_name (by decide +kernel)) (Nat.le_of_ble_eq_true rfl) ?_
  intro p e s m args below meth c ls Q A X hmn hw hA hl hret
  have hl : lv_has ls 4 [(0, .ref (E0.2.2.2.1 g0)), (1, .ref (E0.2.1 88)), (2, .int x2), (3, .int x3)] := hl
  have hR : sd_RR (sd_R fr_J0_getBytes_840e7 lo_J0_getBytes_840e7 S0 o) S0 o := ⟨Nat.le_refl _, Nat.le_refl _⟩
  have hE : sd_EE al_J0_getBytes_840e7 E0 E0 := sd_EE.rf
  have hc : sd_Ct S0 S0 0 0 := ⟨Nat.le_refl _, Nat.le_refl _⟩
  have B4 : ∀ (x2 : Int32) (x3 : Int32) (t0 : Int32) (E : si_Ev) (S : si_St) (H : Heap) (locs : List Loc) (ls : Array Slot) (cs ss : Nat), f_J0_getBytes_840e7_h4 F g0 x2 x3 t0 S = some o → sd_EE al_J0_getBytes_840e7 E0 E → si_Cx p s m args c cJ0_getBytes_840e7 4 yJ0_getBytes_840e7.cls E A → si_Ws E A s.heap S H locs → sd_Ct S0 S cs ss → lv_has ls 4 [(0, .ref (E.2.2.2.1 g0)), (1, .ref (E.2.1 88)), (2, .int x2), (3, .int x3)] → W p l e (sd_R fr_J0_getBytes_840e7 lo_J0_getBytes_840e7 S0 o) s m args below meth c H locs cs ss Q (F0 m 4 ls [.int t0]) := by
    intro x2 x3 t0  E S H locs ls cs ss hf hE X hw hc hl
    have hcs := sd_room hc (mo_J0_getBytes_840e7_h4 F g0 hg0 _ _ _ _ _ hf) hR
    unfold f_J0_getBytes_840e7_h4 at hf
    refine lv_iload_n X.1 X.2.1 dJ0_getBytes_840e7_4 rfl (lv_at hl 3 rfl) ?_
    refine lv_icmp_ne (tgt := 28) X.1 X.2.1 dJ0_getBytes_840e7_5 (by decide) (fun c5 => ?_) (fun c5 => ?_)
    · have hf := si_in c5 hf
      cases hf
    · have hf := si_ip c5 hf
      refine lv_aload_n X.1 X.2.1 dJ0_getBytes_840e7_8 rfl (lv_at hl 0 rfl) ?_
      refine si_strvalue X hw.2.2 hg0 gf_RJ0_9 dJ0_getBytes_840e7_9 ?_
      refine lv_iconst (v := 0) X.1 X.2.1 dJ0_getBytes_840e7_12 (by decide) ?_
      refine lv_aload_n X.1 X.2.1 dJ0_getBytes_840e7_13 rfl (lv_at hl 1 rfl) ?_
      refine lv_iload_n X.1 X.2.1 dJ0_getBytes_840e7_14 rfl (lv_at hl 2 rfl) ?_
      refine lv_iload_n X.1 X.2.1 dJ0_getBytes_840e7_15 rfl (lv_at hl 3 rfl) ?_
      refine lv_ishl X.1 X.2.1 dJ0_getBytes_840e7_16 ?_
      refine lv_aload_n X.1 X.2.1 dJ0_getBytes_840e7_17 rfl (lv_at hl 0 rfl) ?_
      refine si_strvalue X hw.2.2 hg0 gf_RJ0_9 dJ0_getBytes_840e7_18 ?_
      refine si_strl X hw.2.2 hg0 dJ0_getBytes_840e7_21 ?_
      obtain ⟨S1, eS1, hf⟩ := si_ob hf
      refine sd_cpyT hl.1 X hw hg0 rfl (Nat.le_of_ble_eq_true rfl) (Nat.le_of_ble_eq_true rfl) eS1 gm_RJ0_212 dJ0_getBytes_840e7_22 (fun H locs hw => ?_)
      have hc := hc.up (sd_cs_m eS1)
      refine lv_goto (tgt := 43) X.1 X.2.1 dJ0_getBytes_840e7_25 (by decide) ?_
      exact hret _ _ _ _ _ _ _ _ hf ⟨hE, hw, hc⟩ dJ0_getBytes_840e7_43
  have B0 : ∀ (x2 : Int32) (x3 : Int32) (E : si_Ev) (S : si_St) (H : Heap) (locs : List Loc) (ls : Array Slot) (cs ss : Nat), f_J0_getBytes_840e7_h0 F g0 x2 x3 S = some o → sd_EE al_J0_getBytes_840e7 E0 E → si_Cx p s m args c cJ0_getBytes_840e7 4 yJ0_getBytes_840e7.cls E A → si_Ws E A s.heap S H locs → sd_Ct S0 S cs ss → lv_has ls 4 [(0, .ref (E.2.2.2.1 g0)), (1, .ref (E.2.1 88)), (2, .int x2), (3, .int x3)] → W p l e (sd_R fr_J0_getBytes_840e7 lo_J0_getBytes_840e7 S0 o) s m args below meth c H locs cs ss Q (F0 m 0 ls []) := by
    intro x2 x3  E S H locs ls cs ss hf hE X hw hc hl
    have hcs := sd_room hc (mo_J0_getBytes_840e7_h0 F g0 hg0 _ _ _ _ hf) hR
    unfold f_J0_getBytes_840e7_h0 at hf
    refine lv_aload_n X.1 X.2.1 dJ0_getBytes_840e7_0 rfl (lv_at hl 0 rfl) ?_
    obtain ⟨q2, eq2, hf⟩ := si_ob hf
    refine si_cVS [] cal_J0_coder_7d493 gm_RJ0_335 X hw hA hl.1 (c_J0_coder_7d493 l E F g0 hg0 S q2 eq2) hg0 ⟨⟨rfl, rfl⟩, Nat.le_of_ble_eq_true rfl, Nat.le_of_ble_eq_true rfl⟩ rfl rfl (Nat.le_of_ble_eq_true rfl) hcs dJ0_getBytes_840e7_1 (fun H locs hw => ?_)
    have hc := hc.up (fr_J0_coder_7d493 F g0 hg0 S q2 eq2).le
    exact B4 _ _ _ _ _ _ _ _ _ _ hf hE X hw hc (lv_sub hl [0, 1, 2, 3] rfl)
  unfold f_J0_getBytes_840e7 at hf
  exact B0 _ _ _ _ _ _ _ _ _ hf hE X hw hc (lv_sub hl [0, 1, 2, 3] rfl)
def al_J5_putStringAt_47b60 : Nat → Bool := fun _ => false
def f_J5_putStringAt_47b60_h18 (F : Nat) (g2 : Nat) (S : si_St) : Option (si_St) :=
  some S
def f_J5_putStringAt_47b60_h5 (F : Nat) (g2 : Nat) (x1 : Int32) (S : si_St) : Option (si_St) :=
  if ¬ (sd_ok S 87 ∧ S.1 87 0 ≠ 0) then none else Option.bind (sd_gi S 87 1) fun v1 => Option.bind (f_J0_getBytes_840e7 F g2 x1 v1 S) fun S2 => f_J5_putStringAt_47b60_h18 F g2 S2
def f_J5_putStringAt_47b60_h0 (F : Nat) (g2 : Nat) (x1 : Int32) (S : si_St) : Option (si_St) :=
  if ¬ (sd_ok S 87) then none else Option.bind (f_J5_inflateIfNeededFor_a7421 F g2 S) fun S3 => f_J5_putStringAt_47b60_h5 F g2 x1 S3
def f_J5_putStringAt_47b60 (F : Nat) (g2 : Nat) (x1 : Int32) (S : si_St) : Option (si_St) :=
  f_J5_putStringAt_47b60_h0 F g2 x1 S
theorem mo_J5_putStringAt_47b60_h18 (F : Nat) (g2 : Nat) (hg2 : g2 < 17) (S : si_St) (o : si_St) (h : f_J5_putStringAt_47b60_h18 F g2 S = some o) : sd_le S o := by
  have g : sd_le S S := sd_le.rf
  unfold f_J5_putStringAt_47b60_h18 at h
  obtain rfl := Option.some.inj h
  exact g
theorem mo_J5_putStringAt_47b60_h5 (F : Nat) (g2 : Nat) (hg2 : g2 < 17) (x1 : Int32) (S : si_St) (o : si_St) (h : f_J5_putStringAt_47b60_h5 F g2 x1 S = some o) : sd_le S o := by
  have g : sd_le S S := sd_le.rf
  unfold f_J5_putStringAt_47b60_h5 at h
  have hgr7 : sd_ok S 87 ∧ S.1 87 0 ≠ 0 := Decidable.byContradiction fun h9 => by rw [if_pos h9] at h; cases h
  have h := si_in (not_not_intro hgr7) h
  obtain ⟨v1, ev1, h⟩ := si_ob h
  obtain ⟨S2, eS2, h⟩ := si_ob h
  have g := g.tr (mo_J0_getBytes_840e7 F g2 hg2 x1 v1 S S2 eS2)
  exact g.tr (mo_J5_putStringAt_47b60_h18 F g2 hg2 _ _ h)
theorem mo_J5_putStringAt_47b60_h0 (F : Nat) (g2 : Nat) (hg2 : g2 < 17) (x1 : Int32) (S : si_St) (o : si_St) (h : f_J5_putStringAt_47b60_h0 F g2 x1 S = some o) : sd_le S o := by
  have g : sd_le S S := sd_le.rf
  unfold f_J5_putStringAt_47b60_h0 at h
  have hok2 : sd_ok S 87 := Decidable.byContradiction fun h9 => by rw [if_pos h9] at h; cases h
  have h := si_in (not_not_intro hok2) h
  obtain ⟨S3, eS3, h⟩ := si_ob h
  have g := g.tr (mo_J5_inflateIfNeededFor_a7421 F g2 hg2 S S3 eS3)
  exact g.tr (mo_J5_putStringAt_47b60_h5 F g2 hg2 _ _ _ h)
theorem mo_J5_putStringAt_47b60 (F : Nat) (g2 : Nat) (hg2 : g2 < 17) (x1 : Int32) (S : si_St) (o : si_St) (h : f_J5_putStringAt_47b60 F g2 x1 S = some o) : sd_le S o := by
  have g : sd_le S S := sd_le.rf
  unfold f_J5_putStringAt_47b60 at h
  exact g.tr (mo_J5_putStringAt_47b60_h0 F g2 hg2 _ _ _ h)
abbrev fr_J5_putStringAt_47b60 : Nat := 2
abbrev lo_J5_putStringAt_47b60 : Nat := 63
set_option maxHeartbeats 4000000 in
set_option maxRecDepth 100000 in
theorem c_J5_putStringAt_47b60 (l : Launch) (E0 : si_Ev) (F : Nat) (g2 : Nat) (hg2 : g2 < 17) (x1 : Int32) (S0 : si_St) (o : si_St) (hf : f_J5_putStringAt_47b60 F g2 x1 S0 = some o) : sd_Mv l al_J5_putStringAt_47b60 E0 yJ5_putStringAt_47b60 cJ5_putStringAt_47b60 3 fr_J5_putStringAt_47b60 lo_J5_putStringAt_47b60 [.ref (E0.2.1 87), .int x1, .ref (E0.2.2.2.1 g2)] S0 o := by
  refine sd_ofWv (plainFor_of_name (by decide +kernel)) (Nat.le_of_ble_eq_true rfl) ?_
  intro p e s m args below meth c ls Q A X hmn hw hA hl hret
  have hl : lv_has ls 3 [(0, .ref (E0.2.1 87)), (1, .int x1), (2, .ref (E0.2.2.2.1 g2))] := hl
  have hR : sd_RR (sd_R fr_J5_putStringAt_47b60 lo_J5_putStringAt_47b60 S0 o) S0 o := ⟨Nat.le_refl _, Nat.le_refl _⟩
  have hE : sd_EE al_J5_putStringAt_47b60 E0 E0 := sd_EE.rf
  have hc : sd_Ct S0 S0 0 0 := ⟨Nat.le_refl _, Nat.le_refl _⟩
  have B18 : ∀ (E : si_Ev) (S : si_St) (H : Heap) (locs : List Loc) (ls : Array Slot) (cs ss : Nat), f_J5_putStringAt_47b60_h18 F g2 S = some o → sd_EE al_J5_putStringAt_47b60 E0 E → si_Cx p s m args c cJ5_putStringAt_47b60 3 yJ5_putStringAt_47b60.cls E A → si_Ws E A s.heap S H locs → sd_Ct S0 S cs ss → lv_has ls 3 [] → W p l e (sd_R fr_J5_putStringAt_47b60 lo_J5_putStringAt_47b60 S0 o) s m args below meth c H locs cs ss Q (F0 m 18 ls []) := by
    intro   E S H locs ls cs ss hf hE X hw hc hl
    have hcs := sd_room hc (mo_J5_putStringAt_47b60_h18 F g2 hg2 _ _ hf) hR
    unfold f_J5_putStringAt_47b60_h18 at hf
    exact hret _ _ _ _ _ _ _ _ hf ⟨hE, hw, hc⟩ dJ5_putStringAt_47b60_18
  have B5 : ∀ (x1 : Int32) (E : si_Ev) (S : si_St) (H : Heap) (locs : List Loc) (ls : Array Slot) (cs ss : Nat), f_J5_putStringAt_47b60_h5 F g2 x1 S = some o → sd_EE al_J5_putStringAt_47b60 E0 E → si_Cx p s m args c cJ5_putStringAt_47b60 3 yJ5_putStringAt_47b60.cls E A → si_Ws E A s.heap S H locs → sd_Ct S0 S cs ss → lv_has ls 3 [(0, .ref (E.2.1 87)), (1, .int x1), (2, .ref (E.2.2.2.1 g2))] → W p l e (sd_R fr_J5_putStringAt_47b60 lo_J5_putStringAt_47b60 S0 o) s m args below meth c H locs cs ss Q (F0 m 5 ls []) := by
    intro x1  E S H locs ls cs ss hf hE X hw hc hl
    have hcs := sd_room hc (mo_J5_putStringAt_47b60_h5 F g2 hg2 _ _ _ hf) hR
    unfold f_J5_putStringAt_47b60_h5 at hf
    refine lv_aload_n X.1 X.2.1 dJ5_putStringAt_47b60_5 rfl (lv_at hl 2 rfl) ?_
    refine lv_aload_n X.1 X.2.1 dJ5_putStringAt_47b60_6 rfl (lv_at hl 0 rfl) ?_
    have hgr7 : sd_ok S 87 ∧ S.1 87 0 ≠ 0 := Decidable.byContradiction fun h9 => by rw [if_pos h9] at hf; cases hf
    have hf := si_in (not_not_intro hgr7) hf
    refine sd_getR X hw sd_cl20 0 (by decide) (Or.inl gf_RJ5_15) rfl rfl rfl hgr7 dJ5_putStringAt_47b60_7 ?_
    refine lv_iload_n X.1 X.2.1 dJ5_putStringAt_47b60_10 rfl (lv_at hl 1 rfl) ?_
    refine lv_aload_n X.1 X.2.1 dJ5_putStringAt_47b60_11 rfl (lv_at hl 0 rfl) ?_
    obtain ⟨v1, ev1, hf⟩ := si_ob hf
    refine sd_getI X hw sd_cl20 1 (by decide) (Or.inl gf_RJ5_22) rfl rfl rfl ev1 dJ5_putStringAt_47b60_12 ?_
    obtain ⟨S2, eS2, hf⟩ := si_ob hf
    refine sd_gov (sd_runVS (As := [.ref (E.2.1 88), .int x1, .int v1]) (rest := []) hg2 cal_J0_getBytes_840e7 gm_RJ5_399 X hw hA hl.1 ((c_J0_getBytes_840e7 l E F g2 hg2 x1 v1 S S2 eS2) H.size) ⟨Nat.le_of_ble_eq_true rfl, Nat.le_of_ble_eq_true rfl⟩ rfl (Nat.le_of_ble_eq_true rfl) (sd_room2 hc (mo_J0_getBytes_840e7 F g2 hg2 x1 v1 S S2 eS2) (mo_J5_putStringAt_47b60_h18 F g2 hg2 _ _ hf) hR) dJ5_putStringAt_47b60_15) X hw hA hE hc (mo_J0_getBytes_840e7 F g2 hg2 x1 v1 S S2 eS2) (fun _ _ => rfl) (fun E H locs cs ss hZ hE X hw hc => ?_)
    rw [← hZ.at 87 rfl] at hl
    rw [← hZ.2.1] at hl
    exact B18 _ _ _ _ _ _ _ hf hE X hw hc (lv_sub hl [] rfl)
  have B0 : ∀ (x1 : Int32) (E : si_Ev) (S : si_St) (H : Heap) (locs : List Loc) (ls : Array Slot) (cs ss : Nat), f_J5_putStringAt_47b60_h0 F g2 x1 S = some o → sd_EE al_J5_putStringAt_47b60 E0 E → si_Cx p s m args c cJ5_putStringAt_47b60 3 yJ5_putStringAt_47b60.cls E A → si_Ws E A s.heap S H locs → sd_Ct S0 S cs ss → lv_has ls 3 [(0, .ref (E.2.1 87)), (1, .int x1), (2, .ref (E.2.2.2.1 g2))] → W p l e (sd_R fr_J5_putStringAt_47b60 lo_J5_putStringAt_47b60 S0 o) s m args below meth c H locs cs ss Q (F0 m 0 ls []) := by
    intro x1  E S H locs ls cs ss hf hE X hw hc hl
    have hcs := sd_room hc (mo_J5_putStringAt_47b60_h0 F g2 hg2 _ _ _ hf) hR
    unfold f_J5_putStringAt_47b60_h0 at hf
    refine lv_aload_n X.1 X.2.1 dJ5_putStringAt_47b60_0 rfl (lv_at hl 0 rfl) ?_
    refine lv_aload_n X.1 X.2.1 dJ5_putStringAt_47b60_1 rfl (lv_at hl 2 rfl) ?_
    have hok2 : sd_ok S 87 := Decidable.byContradiction fun h9 => by rw [if_pos h9] at hf; cases hf
    have hf := si_in (not_not_intro hok2) hf
    obtain ⟨S3, eS3, hf⟩ := si_ob hf
    refine sd_gov (sd_runU (As := [.ref (E.2.2.2.1 g2)]) (rest := []) sd_cl20 rfl hok2 cu_J5_inflateIfNeededFor_a7421_J5_inflateIfNeededFor_a7421 gm_RJ5_397 X hw hA hl.1 ((c_J5_inflateIfNeededFor_a7421 l E F g2 hg2 S S3 eS3) H.size) ⟨Nat.le_of_ble_eq_true rfl, Nat.le_of_ble_eq_true rfl⟩ rfl (Nat.le_of_ble_eq_true rfl) (sd_room2 hc (mo_J5_inflateIfNeededFor_a7421 F g2 hg2 S S3 eS3) (mo_J5_putStringAt_47b60_h5 F g2 hg2 _ _ _ hf) hR) dJ5_putStringAt_47b60_2) X hw hA hE hc (mo_J5_inflateIfNeededFor_a7421 F g2 hg2 S S3 eS3) (fun _ _ => rfl) (fun E H locs cs ss hZ hE X hw hc => ?_)
    rw [← hZ.at 87 rfl] at hl
    rw [← hZ.2.1] at hl
    exact B5 _ _ _ _ _ _ _ _ hf hE X hw hc (lv_sub hl [0, 1, 2] rfl)
  unfold f_J5_putStringAt_47b60 at hf
  exact B0 _ _ _ _ _ _ _ _ hf hE X hw hc (lv_sub hl [0, 1, 2] rfl)
def al_J5_append_cf1ce : Nat → Bool := fun a => decide (a = 88 ∨ a = 100)
theorem sd_als_J5_append_cf1ce_J5_ensureCapacityInternal_d00df : ∀ k, al_J5_append_cf1ce k = false → al_J5_ensureCapacityInternal_d00df k = false := by
  intro k h
  simp only [al_J5_append_cf1ce, al_J5_ensureCapacityInternal_d00df, decide_eq_false_iff_not] at h ⊢
  omega
def f_J5_append_cf1ce_h33 (F : Nat) (g1 : Nat) (x2 : Int32) (S : si_St) : Option (si_St) :=
  Option.bind (sd_gi S 87 3) fun v1 => Option.bind (sd_pi S 87 3 (v1 + x2)) fun S2 => some S2
def f_J5_append_cf1ce_h24 (F : Nat) (g1 : Nat) (x2 : Int32) (S : si_St) : Option (si_St) :=
  Option.bind (sd_gi S 87 3) fun v3 => if ¬ (sd_ok S 87) then none else Option.bind (f_J5_putStringAt_47b60 F g1 v3 S) fun S4 => f_J5_append_cf1ce_h33 F g1 x2 S4
def f_J5_append_cf1ce_h13 (F : Nat) (g1 : Nat) (t0 : Int32) (S : si_St) : Option (si_St) :=
  Option.bind (sd_gi S 87 3) fun v5 => if ¬ (sd_ok S 87) then none else Option.bind (f_J5_ensureCapacityInternal_d00df F (v5 + t0) S) fun S6 => f_J5_append_cf1ce_h24 F g1 t0 S6
def f_J5_append_cf1ce_h0 (F : Nat) (g1 : Nat) (S : si_St) : Option (si_St) :=
  Option.bind (f_J0_length_8abf5 F g1 S) fun q7 => f_J5_append_cf1ce_h13 F g1 q7.1 q7.2
def f_J5_append_cf1ce (F : Nat) (g1 : Nat) (S : si_St) : Option (si_St) :=
  f_J5_append_cf1ce_h0 F g1 S
theorem mo_J5_append_cf1ce_h33 (F : Nat) (g1 : Nat) (hg1 : g1 < 17) (x2 : Int32) (S : si_St) (o : si_St) (h : f_J5_append_cf1ce_h33 F g1 x2 S = some o) : sd_le S o := by
  have g : sd_le S S := sd_le.rf
  unfold f_J5_append_cf1ce_h33 at h
  obtain ⟨v1, ev1, h⟩ := si_ob h
  obtain ⟨S2, eS2, h⟩ := si_ob h
  have g := g.tr (sd_pi_m eS2)
  obtain rfl := Option.some.inj h
  exact g
theorem mo_J5_append_cf1ce_h24 (F : Nat) (g1 : Nat) (hg1 : g1 < 17) (x2 : Int32) (S : si_St) (o : si_St) (h : f_J5_append_cf1ce_h24 F g1 x2 S = some o) : sd_le S o := by
  have g : sd_le S S := sd_le.rf
  unfold f_J5_append_cf1ce_h24 at h
  obtain ⟨v3, ev3, h⟩ := si_ob h
  have hok30 : sd_ok S 87 := Decidable.byContradiction fun h9 => by rw [if_pos h9] at h; cases h
  have h := si_in (not_not_intro hok30) h
  obtain ⟨S4, eS4, h⟩ := si_ob h
  have g := g.tr (mo_J5_putStringAt_47b60 F g1 hg1 v3 S S4 eS4)
  exact g.tr (mo_J5_append_cf1ce_h33 F g1 hg1 _ _ _ h)
theorem mo_J5_append_cf1ce_h13 (F : Nat) (g1 : Nat) (hg1 : g1 < 17) (t0 : Int32) (S : si_St) (o : si_St) (h : f_J5_append_cf1ce_h13 F g1 t0 S = some o) : sd_le S o := by
  have g : sd_le S S := sd_le.rf
  unfold f_J5_append_cf1ce_h13 at h
  obtain ⟨v5, ev5, h⟩ := si_ob h
  have hok21 : sd_ok S 87 := Decidable.byContradiction fun h9 => by rw [if_pos h9] at h; cases h
  have h := si_in (not_not_intro hok21) h
  obtain ⟨S6, eS6, h⟩ := si_ob h
  have g := g.tr (mo_J5_ensureCapacityInternal_d00df F (v5 + t0) S S6 eS6)
  exact g.tr (mo_J5_append_cf1ce_h24 F g1 hg1 _ _ _ h)
theorem mo_J5_append_cf1ce_h0 (F : Nat) (g1 : Nat) (hg1 : g1 < 17) (S : si_St) (o : si_St) (h : f_J5_append_cf1ce_h0 F g1 S = some o) : sd_le S o := by
  have g : sd_le S S := sd_le.rf
  unfold f_J5_append_cf1ce_h0 at h
  obtain ⟨q7, eq7, h⟩ := si_ob h
  have g := g.tr (fr_J0_length_8abf5 F g1 hg1 S q7 eq7).le
  exact g.tr (mo_J5_append_cf1ce_h13 F g1 hg1 _ _ _ h)
theorem mo_J5_append_cf1ce (F : Nat) (g1 : Nat) (hg1 : g1 < 17) (S : si_St) (o : si_St) (h : f_J5_append_cf1ce F g1 S = some o) : sd_le S o := by
  have g : sd_le S S := sd_le.rf
  unfold f_J5_append_cf1ce at h
  exact g.tr (mo_J5_append_cf1ce_h0 F g1 hg1 _ _ h)
abbrev fr_J5_append_cf1ce : Nat := 4
abbrev lo_J5_append_cf1ce : Nat := 93
set_option maxHeartbeats 4000000 in
set_option maxRecDepth 100000 in
theorem c_J5_append_cf1ce (l : Launch) (E0 : si_Ev) (F : Nat) (g1 : Nat) (hg1 : g1 < 17) (S0 : si_St) (o : si_St) (hf : f_J5_append_cf1ce F g1 S0 = some o) : sd_Mr l al_J5_append_cf1ce E0 yJ5_append_cf1ce cJ5_append_cf1ce 3 (some (.object "java/lang/AbstractStringBuilder")) fr_J5_append_cf1ce lo_J5_append_cf1ce [.ref (E0.2.1 87), .ref (E0.2.2.2.1 g1)] S0 87 o := by
  refine sd_ofWr (Or.inl ⟨_, rfl⟩) (plainFor_of_name (by decide +kernel)) (Nat.le_of_ble_eq_true rfl) ?_
  intro p e s m args below meth c ls Q A X hmn hw hA hl hret
  have hl : lv_has ls 3 [(0, .ref (E0.2.1 87)), (1, .ref (E0.2.2.2.1 g1))] := hl
  have hR : sd_RR (sd_R fr_J5_append_cf1ce lo_J5_append_cf1ce S0 o) S0 o := ⟨Nat.le_refl _, Nat.le_refl _⟩
  have hE : sd_EE al_J5_append_cf1ce E0 E0 := sd_EE.rf
  have hc : sd_Ct S0 S0 0 0 := ⟨Nat.le_refl _, Nat.le_refl _⟩
  have B33 : ∀ (x2 : Int32) (E : si_Ev) (S : si_St) (H : Heap) (locs : List Loc) (ls : Array Slot) (cs ss : Nat), f_J5_append_cf1ce_h33 F g1 x2 S = some o → sd_EE al_J5_append_cf1ce E0 E → si_Cx p s m args c cJ5_append_cf1ce 3 yJ5_append_cf1ce.cls E A → si_Ws E A s.heap S H locs → sd_Ct S0 S cs ss → lv_has ls 3 [(0, .ref (E.2.1 87)), (2, .int x2)] → W p l e (sd_R fr_J5_append_cf1ce lo_J5_append_cf1ce S0 o) s m args below meth c H locs cs ss Q (F0 m 33 ls []) := by
    intro x2  E S H locs ls cs ss hf hE X hw hc hl
    have hcs := sd_room hc (mo_J5_append_cf1ce_h33 F g1 hg1 _ _ _ hf) hR
    unfold f_J5_append_cf1ce_h33 at hf
    refine lv_aload_n X.1 X.2.1 dJ5_append_cf1ce_33 rfl (lv_at hl 0 rfl) ?_
    refine lv_dup X.1 X.2.1 dJ5_append_cf1ce_34 rfl ?_
    obtain ⟨v1, ev1, hf⟩ := si_ob hf
    refine sd_getI X hw sd_cl20 3 (by decide) (Or.inl gf_RJ5_79) rfl rfl rfl ev1 dJ5_append_cf1ce_35 ?_
    refine lv_iload_n X.1 X.2.1 dJ5_append_cf1ce_38 rfl (lv_at hl 1 rfl) ?_
    refine lv_iadd X.1 X.2.1 dJ5_append_cf1ce_39 ?_
    obtain ⟨S2, eS2, hf⟩ := si_ob hf
    refine sd_putI X hw sd_cl20 3 (by decide) (Or.inl gf_RJ5_79) rfl (Or.inl rfl) rfl rfl (tyJ4_ok 3 (by decide)) rfl rfl eS2 dJ5_append_cf1ce_40 (fun H locs hw => ?_)
    have hc := hc.up (sd_pi_m eS2)
    refine lv_aload_n X.1 X.2.1 dJ5_append_cf1ce_43 rfl (lv_at hl 0 rfl) ?_
    exact hret _ _ _ _ _ _ _ _ hf ⟨hE, hw, hc⟩ dJ5_append_cf1ce_44
  have B24 : ∀ (x2 : Int32) (E : si_Ev) (S : si_St) (H : Heap) (locs : List Loc) (ls : Array Slot) (cs ss : Nat), f_J5_append_cf1ce_h24 F g1 x2 S = some o → sd_EE al_J5_append_cf1ce E0 E → si_Cx p s m args c cJ5_append_cf1ce 3 yJ5_append_cf1ce.cls E A → si_Ws E A s.heap S H locs → sd_Ct S0 S cs ss → lv_has ls 3 [(0, .ref (E.2.1 87)), (1, .ref (E.2.2.2.1 g1)), (2, .int x2)] → W p l e (sd_R fr_J5_append_cf1ce lo_J5_append_cf1ce S0 o) s m args below meth c H locs cs ss Q (F0 m 24 ls []) := by
    intro x2  E S H locs ls cs ss hf hE X hw hc hl
    have hcs := sd_room hc (mo_J5_append_cf1ce_h24 F g1 hg1 _ _ _ hf) hR
    unfold f_J5_append_cf1ce_h24 at hf
    refine lv_aload_n X.1 X.2.1 dJ5_append_cf1ce_24 rfl (lv_at hl 0 rfl) ?_
    refine lv_aload_n X.1 X.2.1 dJ5_append_cf1ce_25 rfl (lv_at hl 0 rfl) ?_
    obtain ⟨v3, ev3, hf⟩ := si_ob hf
    refine sd_getI X hw sd_cl20 3 (by decide) (Or.inl gf_RJ5_79) rfl rfl rfl ev3 dJ5_append_cf1ce_26 ?_
    refine lv_aload_n X.1 X.2.1 dJ5_append_cf1ce_29 rfl (lv_at hl 1 rfl) ?_
    have hok30 : sd_ok S 87 := Decidable.byContradiction fun h9 => by rw [if_pos h9] at hf; cases hf
    have hf := si_in (not_not_intro hok30) hf
    obtain ⟨S4, eS4, hf⟩ := si_ob hf
    refine sd_gov (sd_runU (As := [.int v3, .ref (E.2.2.2.1 g1)]) (rest := []) sd_cl20 rfl hok30 cu_J5_putStringAt_47b60_J5_putStringAt_47b60 gm_RJ5_208 X hw hA hl.1 ((c_J5_putStringAt_47b60 l E F g1 hg1 v3 S S4 eS4) H.size) ⟨Nat.le_of_ble_eq_true rfl, Nat.le_of_ble_eq_true rfl⟩ rfl (Nat.le_of_ble_eq_true rfl) (sd_room2 hc (mo_J5_putStringAt_47b60 F g1 hg1 v3 S S4 eS4) (mo_J5_append_cf1ce_h33 F g1 hg1 _ _ _ hf) hR) dJ5_append_cf1ce_30) X hw hA hE hc (mo_J5_putStringAt_47b60 F g1 hg1 v3 S S4 eS4) (fun _ _ => rfl) (fun E H locs cs ss hZ hE X hw hc => ?_)
    rw [← hZ.at 87 rfl] at hl
    rw [← hZ.2.1] at hl
    exact B33 _ _ _ _ _ _ _ _ hf hE X hw hc (lv_sub hl [0, 2] rfl)
  have B13 : ∀ (t0 : Int32) (E : si_Ev) (S : si_St) (H : Heap) (locs : List Loc) (ls : Array Slot) (cs ss : Nat), f_J5_append_cf1ce_h13 F g1 t0 S = some o → sd_EE al_J5_append_cf1ce E0 E → si_Cx p s m args c cJ5_append_cf1ce 3 yJ5_append_cf1ce.cls E A → si_Ws E A s.heap S H locs → sd_Ct S0 S cs ss → lv_has ls 3 [(0, .ref (E.2.1 87)), (1, .ref (E.2.2.2.1 g1))] → W p l e (sd_R fr_J5_append_cf1ce lo_J5_append_cf1ce S0 o) s m args below meth c H locs cs ss Q (F0 m 13 ls [.int t0]) := by
    intro t0  E S H locs ls cs ss hf hE X hw hc hl
    have hcs := sd_room hc (mo_J5_append_cf1ce_h13 F g1 hg1 _ _ _ hf) hR
    unfold f_J5_append_cf1ce_h13 at hf
    refine lv_istore_n (lv' := [(2, .int t0), (0, .ref (E.2.1 87)), (1, .ref (E.2.2.2.1 g1))]) X.1 X.2.1 dJ5_append_cf1ce_13 rfl hl (by decide) rfl (fun ls hl => ?_)
    refine lv_aload_n X.1 X.2.1 dJ5_append_cf1ce_14 rfl (lv_at hl 1 rfl) ?_
    refine lv_aload_n X.1 X.2.1 dJ5_append_cf1ce_15 rfl (lv_at hl 1 rfl) ?_
    obtain ⟨v5, ev5, hf⟩ := si_ob hf
    refine sd_getI X hw sd_cl20 3 (by decide) (Or.inl gf_RJ5_79) rfl rfl rfl ev5 dJ5_append_cf1ce_16 ?_
    refine lv_iload_n X.1 X.2.1 dJ5_append_cf1ce_19 rfl (lv_at hl 0 rfl) ?_
    refine lv_iadd X.1 X.2.1 dJ5_append_cf1ce_20 ?_
    have hok21 : sd_ok S 87 := Decidable.byContradiction fun h9 => by rw [if_pos h9] at hf; cases hf
    have hf := si_in (not_not_intro hok21) hf
    obtain ⟨S6, eS6, hf⟩ := si_ob hf
    refine sd_gov (sd_runU (As := [.int (v5 + t0)]) (rest := []) sd_cl20 rfl hok21 cu_J5_ensureCapacityInternal_d00df_J5_ensureCapacityInternal_d00df gm_RJ5_100 X hw hA hl.1 ((c_J5_ensureCapacityInternal_d00df l E F (v5 + t0) S S6 eS6) H.size) ⟨Nat.le_of_ble_eq_true rfl, Nat.le_of_ble_eq_true rfl⟩ rfl (Nat.le_of_ble_eq_true rfl) (sd_room2 hc (mo_J5_ensureCapacityInternal_d00df F (v5 + t0) S S6 eS6) (mo_J5_append_cf1ce_h24 F g1 hg1 _ _ _ hf) hR) dJ5_append_cf1ce_21) X hw hA hE hc (mo_J5_ensureCapacityInternal_d00df F (v5 + t0) S S6 eS6) (sd_als_J5_append_cf1ce_J5_ensureCapacityInternal_d00df) (fun E H locs cs ss hZ hE X hw hc => ?_)
    rw [← hZ.at 87 rfl] at hl
    rw [← hZ.2.1] at hl
    exact B24 _ _ _ _ _ _ _ _ hf hE X hw hc (lv_sub hl [1, 2, 0] rfl)
  have B0 : ∀ (E : si_Ev) (S : si_St) (H : Heap) (locs : List Loc) (ls : Array Slot) (cs ss : Nat), f_J5_append_cf1ce_h0 F g1 S = some o → sd_EE al_J5_append_cf1ce E0 E → si_Cx p s m args c cJ5_append_cf1ce 3 yJ5_append_cf1ce.cls E A → si_Ws E A s.heap S H locs → sd_Ct S0 S cs ss → lv_has ls 3 [(0, .ref (E.2.1 87)), (1, .ref (E.2.2.2.1 g1))] → W p l e (sd_R fr_J5_append_cf1ce lo_J5_append_cf1ce S0 o) s m args below meth c H locs cs ss Q (F0 m 0 ls []) := by
    intro   E S H locs ls cs ss hf hE X hw hc hl
    have hcs := sd_room hc (mo_J5_append_cf1ce_h0 F g1 hg1 _ _ hf) hR
    unfold f_J5_append_cf1ce_h0 at hf
    refine lv_aload_n X.1 X.2.1 dJ5_append_cf1ce_0 rfl (lv_at hl 1 rfl) ?_
    refine lv_ifnonnull (tgt := 9) X.1 X.2.1 dJ5_append_cf1ce_1 (by decide) ?_
    refine lv_aload_n X.1 X.2.1 dJ5_append_cf1ce_9 rfl (lv_at hl 1 rfl) ?_
    obtain ⟨q7, eq7, hf⟩ := si_ob hf
    refine si_cVS [] cal_J0_length_8abf5 gm_RJ5_32 X hw hA hl.1 (c_J0_length_8abf5 l E F g1 hg1 S q7 eq7) hg1 ⟨⟨rfl, rfl⟩, Nat.le_of_ble_eq_true rfl, Nat.le_of_ble_eq_true rfl⟩ rfl rfl (Nat.le_of_ble_eq_true rfl) hcs dJ5_append_cf1ce_10 (fun H locs hw => ?_)
    have hc := hc.up (fr_J0_length_8abf5 F g1 hg1 S q7 eq7).le
    exact B13 _ _ _ _ _ _ _ _ hf hE X hw hc (lv_sub hl [0, 1] rfl)
  unfold f_J5_append_cf1ce at hf
  exact B0 _ _ _ _ _ _ _ hf hE X hw hc (lv_sub hl [0, 1] rfl)
def al_J4_append_15ec4 : Nat → Bool := fun a => decide (a = 88 ∨ a = 100)
theorem sd_als_J4_append_15ec4_J5_append_cf1ce : ∀ k, al_J4_append_15ec4 k = false → al_J5_append_cf1ce k = false := by
  intro k h
  simp only [al_J4_append_15ec4, al_J5_append_cf1ce, decide_eq_false_iff_not] at h ⊢
  omega
def f_J4_append_15ec4_h5 (F : Nat) (g1 : Nat) (S : si_St) : Option (si_St) :=
  some S
def f_J4_append_15ec4_h0 (F : Nat) (g1 : Nat) (S : si_St) : Option (si_St) :=
  if ¬ (sd_ok S 87) then none else Option.bind (f_J5_append_cf1ce F g1 S) fun S1 => f_J4_append_15ec4_h5 F g1 S1
def f_J4_append_15ec4 (F : Nat) (g1 : Nat) (S : si_St) : Option (si_St) :=
  f_J4_append_15ec4_h0 F g1 S
theorem mo_J4_append_15ec4_h5 (F : Nat) (g1 : Nat) (hg1 : g1 < 17) (S : si_St) (o : si_St) (h : f_J4_append_15ec4_h5 F g1 S = some o) : sd_le S o := by
  have g : sd_le S S := sd_le.rf
  unfold f_J4_append_15ec4_h5 at h
  obtain rfl := Option.some.inj h
  exact g
theorem mo_J4_append_15ec4_h0 (F : Nat) (g1 : Nat) (hg1 : g1 < 17) (S : si_St) (o : si_St) (h : f_J4_append_15ec4_h0 F g1 S = some o) : sd_le S o := by
  have g : sd_le S S := sd_le.rf
  unfold f_J4_append_15ec4_h0 at h
  have hok2 : sd_ok S 87 := Decidable.byContradiction fun h9 => by rw [if_pos h9] at h; cases h
  have h := si_in (not_not_intro hok2) h
  obtain ⟨S1, eS1, h⟩ := si_ob h
  have g := g.tr (mo_J5_append_cf1ce F g1 hg1 S S1 eS1)
  exact g.tr (mo_J4_append_15ec4_h5 F g1 hg1 _ _ h)
theorem mo_J4_append_15ec4 (F : Nat) (g1 : Nat) (hg1 : g1 < 17) (S : si_St) (o : si_St) (h : f_J4_append_15ec4 F g1 S = some o) : sd_le S o := by
  have g : sd_le S S := sd_le.rf
  unfold f_J4_append_15ec4 at h
  exact g.tr (mo_J4_append_15ec4_h0 F g1 hg1 _ _ h)
abbrev fr_J4_append_15ec4 : Nat := 5
abbrev lo_J4_append_15ec4 : Nat := 115
set_option maxHeartbeats 4000000 in
set_option maxRecDepth 100000 in
theorem c_J4_append_15ec4 (l : Launch) (E0 : si_Ev) (F : Nat) (g1 : Nat) (hg1 : g1 < 17) (S0 : si_St) (o : si_St) (hf : f_J4_append_15ec4 F g1 S0 = some o) : sd_Mr l al_J4_append_15ec4 E0 yJ4_append_15ec4 cJ4_append_15ec4 2 (some (.object "java/lang/StringBuilder")) fr_J4_append_15ec4 lo_J4_append_15ec4 [.ref (E0.2.1 87), .ref (E0.2.2.2.1 g1)] S0 87 o := by
  refine sd_ofWr (Or.inl ⟨_, rfl⟩) (plainFor_of_name (by decide +kernel)) (Nat.le_of_ble_eq_true rfl) ?_
  intro p e s m args below meth c ls Q A X hmn hw hA hl hret
  have hl : lv_has ls 2 [(0, .ref (E0.2.1 87)), (1, .ref (E0.2.2.2.1 g1))] := hl
  have hR : sd_RR (sd_R fr_J4_append_15ec4 lo_J4_append_15ec4 S0 o) S0 o := ⟨Nat.le_refl _, Nat.le_refl _⟩
  have hE : sd_EE al_J4_append_15ec4 E0 E0 := sd_EE.rf
  have hc : sd_Ct S0 S0 0 0 := ⟨Nat.le_refl _, Nat.le_refl _⟩
  have B5 : ∀ (E : si_Ev) (S : si_St) (H : Heap) (locs : List Loc) (ls : Array Slot) (cs ss : Nat), f_J4_append_15ec4_h5 F g1 S = some o → sd_EE al_J4_append_15ec4 E0 E → si_Cx p s m args c cJ4_append_15ec4 2 yJ4_append_15ec4.cls E A → si_Ws E A s.heap S H locs → sd_Ct S0 S cs ss → lv_has ls 2 [(0, .ref (E.2.1 87))] → W p l e (sd_R fr_J4_append_15ec4 lo_J4_append_15ec4 S0 o) s m args below meth c H locs cs ss Q (F0 m 5 ls [.ref (E.2.1 87)]) := by
    intro   E S H locs ls cs ss hf hE X hw hc hl
    have hcs := sd_room hc (mo_J4_append_15ec4_h5 F g1 hg1 _ _ hf) hR
    unfold f_J4_append_15ec4_h5 at hf
    refine lv_pop X.1 X.2.1 dJ4_append_15ec4_5 rfl ?_
    refine lv_aload_n X.1 X.2.1 dJ4_append_15ec4_6 rfl (lv_at hl 0 rfl) ?_
    exact hret _ _ _ _ _ _ _ _ hf ⟨hE, hw, hc⟩ dJ4_append_15ec4_7
  have B0 : ∀ (E : si_Ev) (S : si_St) (H : Heap) (locs : List Loc) (ls : Array Slot) (cs ss : Nat), f_J4_append_15ec4_h0 F g1 S = some o → sd_EE al_J4_append_15ec4 E0 E → si_Cx p s m args c cJ4_append_15ec4 2 yJ4_append_15ec4.cls E A → si_Ws E A s.heap S H locs → sd_Ct S0 S cs ss → lv_has ls 2 [(0, .ref (E.2.1 87)), (1, .ref (E.2.2.2.1 g1))] → W p l e (sd_R fr_J4_append_15ec4 lo_J4_append_15ec4 S0 o) s m args below meth c H locs cs ss Q (F0 m 0 ls []) := by
    intro   E S H locs ls cs ss hf hE X hw hc hl
    have hcs := sd_room hc (mo_J4_append_15ec4_h0 F g1 hg1 _ _ hf) hR
    unfold f_J4_append_15ec4_h0 at hf
    refine lv_aload_n X.1 X.2.1 dJ4_append_15ec4_0 rfl (lv_at hl 0 rfl) ?_
    refine lv_aload_n X.1 X.2.1 dJ4_append_15ec4_1 rfl (lv_at hl 1 rfl) ?_
    have hok2 : sd_ok S 87 := Decidable.byContradiction fun h9 => by rw [if_pos h9] at hf; cases hf
    have hf := si_in (not_not_intro hok2) hf
    obtain ⟨S1, eS1, hf⟩ := si_ob hf
    refine sd_gor (sd_runSU (As := [.ref (E.2.2.2.1 g1)]) (rest := []) sd_cl20 rfl hok2 csu_J5_append_cf1ce gm_RJ4_29 X hw hA hl.1 ((c_J5_append_cf1ce l E F g1 hg1 S S1 eS1) H.size) ⟨Nat.le_of_ble_eq_true rfl, Nat.le_of_ble_eq_true rfl⟩ rfl (Nat.le_of_ble_eq_true rfl) (sd_room2 hc (mo_J5_append_cf1ce F g1 hg1 S S1 eS1) (mo_J4_append_15ec4_h5 F g1 hg1 _ _ hf) hR) dJ4_append_15ec4_2) X hw hA hE hc (mo_J5_append_cf1ce F g1 hg1 S S1 eS1) (sd_als_J4_append_15ec4_J5_append_cf1ce) (fun E H locs cs ss hZ hE X hw hc => ?_)
    rw [← hZ.at 87 rfl] at hl
    rw [← hZ.2.1] at hl
    exact B5 _ _ _ _ _ _ _ hf hE X hw hc (lv_sub hl [0] rfl)
  unfold f_J4_append_15ec4 at hf
  exact B0 _ _ _ _ _ _ _ hf hE X hw hc (lv_sub hl [0, 1] rfl)

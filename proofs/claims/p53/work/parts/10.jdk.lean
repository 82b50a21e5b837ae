theorem dJ6_numberOfTrailingZeros_0f7a4_0 : decode cJ6_numberOfTrailingZeros_0f7a4 0 = .ok (.iload_n 0, 1) := by decide +kernel
theorem dJ6_numberOfTrailingZeros_0f7a4_1 : decode cJ6_numberOfTrailingZeros_0f7a4 1 = .ok (.iconst (-1), 1) := by decide +kernel
theorem dJ6_numberOfTrailingZeros_0f7a4_2 : decode cJ6_numberOfTrailingZeros_0f7a4 2 = .ok (.ixor, 1) := by decide +kernel
theorem dJ6_numberOfTrailingZeros_0f7a4_3 : decode cJ6_numberOfTrailingZeros_0f7a4 3 = .ok (.iload_n 0, 1) := by decide +kernel
theorem dJ6_numberOfTrailingZeros_0f7a4_4 : decode cJ6_numberOfTrailingZeros_0f7a4 4 = .ok (.iconst 1, 1) := by decide +kernel
theorem dJ6_numberOfTrailingZeros_0f7a4_5 : decode cJ6_numberOfTrailingZeros_0f7a4 5 = .ok (.isub, 1) := by decide +kernel
theorem dJ6_numberOfTrailingZeros_0f7a4_6 : decode cJ6_numberOfTrailingZeros_0f7a4 6 = .ok (.iand, 1) := by decide +kernel
theorem dJ6_numberOfTrailingZeros_0f7a4_7 : decode cJ6_numberOfTrailingZeros_0f7a4 7 = .ok (.istore_n 0, 1) := by decide +kernel
theorem dJ6_numberOfTrailingZeros_0f7a4_8 : decode cJ6_numberOfTrailingZeros_0f7a4 8 = .ok (.iload_n 0, 1) := by decide +kernel
theorem dJ6_numberOfTrailingZeros_0f7a4_9 : decode cJ6_numberOfTrailingZeros_0f7a4 9 = .ok (.ifCond .gt 8, 3) := by decide +kernel
theorem dJ6_numberOfTrailingZeros_0f7a4_12 : decode cJ6_numberOfTrailingZeros_0f7a4 12 = .ok (.iload_n 0, 1) := by decide +kernel
theorem dJ6_numberOfTrailingZeros_0f7a4_13 : decode cJ6_numberOfTrailingZeros_0f7a4 13 = .ok (.bipush 32, 2) := by decide +kernel
theorem dJ6_numberOfTrailingZeros_0f7a4_15 : decode cJ6_numberOfTrailingZeros_0f7a4 15 = .ok (.iand, 1) := by decide +kernel
theorem dJ6_numberOfTrailingZeros_0f7a4_16 : decode cJ6_numberOfTrailingZeros_0f7a4 16 = .ok (.ireturn, 1) := by decide +kernel
theorem dJ6_numberOfTrailingZeros_0f7a4_17 : decode cJ6_numberOfTrailingZeros_0f7a4 17 = .ok (.iconst 1, 1) := by decide +kernel
theorem dJ6_numberOfTrailingZeros_0f7a4_18 : decode cJ6_numberOfTrailingZeros_0f7a4 18 = .ok (.istore_n 1, 1) := by decide +kernel
theorem dJ6_numberOfTrailingZeros_0f7a4_19 : decode cJ6_numberOfTrailingZeros_0f7a4 19 = .ok (.iload_n 0, 1) := by decide +kernel
theorem dJ6_numberOfTrailingZeros_0f7a4_20 : decode cJ6_numberOfTrailingZeros_0f7a4 20 = .ok (.ldc_w 264, 3) := by decide +kernel
theorem dJ6_numberOfTrailingZeros_0f7a4_23 : decode cJ6_numberOfTrailingZeros_0f7a4 23 = .ok (.if_icmp .le 11, 3) := by decide +kernel
theorem dJ6_numberOfTrailingZeros_0f7a4_26 : decode cJ6_numberOfTrailingZeros_0f7a4 26 = .ok (.iinc 1 16, 3) := by decide +kernel
theorem dJ6_numberOfTrailingZeros_0f7a4_29 : decode cJ6_numberOfTrailingZeros_0f7a4 29 = .ok (.iload_n 0, 1) := by decide +kernel
theorem dJ6_numberOfTrailingZeros_0f7a4_30 : decode cJ6_numberOfTrailingZeros_0f7a4 30 = .ok (.bipush 16, 2) := by decide +kernel
theorem dJ6_numberOfTrailingZeros_0f7a4_32 : decode cJ6_numberOfTrailingZeros_0f7a4 32 = .ok (.iushr, 1) := by decide +kernel
theorem dJ6_numberOfTrailingZeros_0f7a4_33 : decode cJ6_numberOfTrailingZeros_0f7a4 33 = .ok (.istore_n 0, 1) := by decide +kernel
theorem dJ6_numberOfTrailingZeros_0f7a4_34 : decode cJ6_numberOfTrailingZeros_0f7a4 34 = .ok (.iload_n 0, 1) := by decide +kernel
theorem dJ6_numberOfTrailingZeros_0f7a4_35 : decode cJ6_numberOfTrailingZeros_0f7a4 35 = .ok (.sipush 256, 3) := by decide +kernel
theorem dJ6_numberOfTrailingZeros_0f7a4_38 : decode cJ6_numberOfTrailingZeros_0f7a4 38 = .ok (.if_icmp .le 11, 3) := by decide +kernel
theorem dJ6_numberOfTrailingZeros_0f7a4_41 : decode cJ6_numberOfTrailingZeros_0f7a4 41 = .ok (.iinc 1 8, 3) := by decide +kernel
theorem dJ6_numberOfTrailingZeros_0f7a4_44 : decode cJ6_numberOfTrailingZeros_0f7a4 44 = .ok (.iload_n 0, 1) := by decide +kernel
theorem dJ6_numberOfTrailingZeros_0f7a4_45 : decode cJ6_numberOfTrailingZeros_0f7a4 45 = .ok (.bipush 8, 2) := by decide +kernel
theorem dJ6_numberOfTrailingZeros_0f7a4_47 : decode cJ6_numberOfTrailingZeros_0f7a4 47 = .ok (.iushr, 1) := by decide +kernel
theorem dJ6_numberOfTrailingZeros_0f7a4_48 : decode cJ6_numberOfTrailingZeros_0f7a4 48 = .ok (.istore_n 0, 1) := by decide +kernel
theorem dJ6_numberOfTrailingZeros_0f7a4_49 : decode cJ6_numberOfTrailingZeros_0f7a4 49 = .ok (.iload_n 0, 1) := by decide +kernel
theorem dJ6_numberOfTrailingZeros_0f7a4_50 : decode cJ6_numberOfTrailingZeros_0f7a4 50 = .ok (.bipush 16, 2) := by decide +kernel
theorem dJ6_numberOfTrailingZeros_0f7a4_52 : decode cJ6_numberOfTrailingZeros_0f7a4 52 = .ok (.if_icmp .le 10, 3) := by decide +kernel
theorem dJ6_numberOfTrailingZeros_0f7a4_55 : decode cJ6_numberOfTrailingZeros_0f7a4 55 = .ok (.iinc 1 4, 3) := by decide +kernel
theorem dJ6_numberOfTrailingZeros_0f7a4_58 : decode cJ6_numberOfTrailingZeros_0f7a4 58 = .ok (.iload_n 0, 1) := by decide +kernel
theorem dJ6_numberOfTrailingZeros_0f7a4_59 : decode cJ6_numberOfTrailingZeros_0f7a4 59 = .ok (.iconst 4, 1) := by decide +kernel
theorem dJ6_numberOfTrailingZeros_0f7a4_60 : decode cJ6_numberOfTrailingZeros_0f7a4 60 = .ok (.iushr, 1) := by decide +kernel
theorem dJ6_numberOfTrailingZeros_0f7a4_61 : decode cJ6_numberOfTrailingZeros_0f7a4 61 = .ok (.istore_n 0, 1) := by decide +kernel
theorem dJ6_numberOfTrailingZeros_0f7a4_62 : decode cJ6_numberOfTrailingZeros_0f7a4 62 = .ok (.iload_n 0, 1) := by decide +kernel
theorem dJ6_numberOfTrailingZeros_0f7a4_63 : decode cJ6_numberOfTrailingZeros_0f7a4 63 = .ok (.iconst 4, 1) := by decide +kernel
theorem dJ6_numberOfTrailingZeros_0f7a4_64 : decode cJ6_numberOfTrailingZeros_0f7a4 64 = .ok (.if_icmp .le 10, 3) := by decide +kernel
theorem dJ6_numberOfTrailingZeros_0f7a4_67 : decode cJ6_numberOfTrailingZeros_0f7a4 67 = .ok (.iinc 1 2, 3) := by decide +kernel
theorem dJ6_numberOfTrailingZeros_0f7a4_70 : decode cJ6_numberOfTrailingZeros_0f7a4 70 = .ok (.iload_n 0, 1) := by decide +kernel
theorem dJ6_numberOfTrailingZeros_0f7a4_71 : decode cJ6_numberOfTrailingZeros_0f7a4 71 = .ok (.iconst 2, 1) := by decide +kernel
theorem dJ6_numberOfTrailingZeros_0f7a4_72 : decode cJ6_numberOfTrailingZeros_0f7a4 72 = .ok (.iushr, 1) := by decide +kernel
theorem dJ6_numberOfTrailingZeros_0f7a4_73 : decode cJ6_numberOfTrailingZeros_0f7a4 73 = .ok (.istore_n 0, 1) := by decide +kernel
theorem dJ6_numberOfTrailingZeros_0f7a4_74 : decode cJ6_numberOfTrailingZeros_0f7a4 74 = .ok (.iload_n 1, 1) := by decide +kernel
theorem dJ6_numberOfTrailingZeros_0f7a4_75 : decode cJ6_numberOfTrailingZeros_0f7a4 75 = .ok (.iload_n 0, 1) := by decide +kernel
theorem dJ6_numberOfTrailingZeros_0f7a4_76 : decode cJ6_numberOfTrailingZeros_0f7a4 76 = .ok (.iconst 1, 1) := by decide +kernel
theorem dJ6_numberOfTrailingZeros_0f7a4_77 : decode cJ6_numberOfTrailingZeros_0f7a4 77 = .ok (.iushr, 1) := by decide +kernel
theorem dJ6_numberOfTrailingZeros_0f7a4_78 : decode cJ6_numberOfTrailingZeros_0f7a4 78 = .ok (.iadd, 1) := by decide +kernel
theorem dJ6_numberOfTrailingZeros_0f7a4_79 : decode cJ6_numberOfTrailingZeros_0f7a4 79 = .ok (.ireturn, 1) := by decide +kernel
theorem dJ6_bitCount_0f7a4_0 : decode cJ6_bitCount_0f7a4 0 = .ok (.iload_n 0, 1) := by decide +kernel
theorem dJ6_bitCount_0f7a4_1 : decode cJ6_bitCount_0f7a4 1 = .ok (.iload_n 0, 1) := by decide +kernel
theorem dJ6_bitCount_0f7a4_2 : decode cJ6_bitCount_0f7a4 2 = .ok (.iconst 1, 1) := by decide +kernel
theorem dJ6_bitCount_0f7a4_3 : decode cJ6_bitCount_0f7a4 3 = .ok (.iushr, 1) := by decide +kernel
theorem dJ6_bitCount_0f7a4_4 : decode cJ6_bitCount_0f7a4 4 = .ok (.ldc_w 265, 3) := by decide +kernel
theorem dJ6_bitCount_0f7a4_7 : decode cJ6_bitCount_0f7a4 7 = .ok (.iand, 1) := by decide +kernel
theorem dJ6_bitCount_0f7a4_8 : decode cJ6_bitCount_0f7a4 8 = .ok (.isub, 1) := by decide +kernel
theorem dJ6_bitCount_0f7a4_9 : decode cJ6_bitCount_0f7a4 9 = .ok (.istore_n 0, 1) := by decide +kernel
theorem dJ6_bitCount_0f7a4_10 : decode cJ6_bitCount_0f7a4 10 = .ok (.iload_n 0, 1) := by decide +kernel
theorem dJ6_bitCount_0f7a4_11 : decode cJ6_bitCount_0f7a4 11 = .ok (.ldc_w 266, 3) := by decide +kernel
theorem dJ6_bitCount_0f7a4_14 : decode cJ6_bitCount_0f7a4 14 = .ok (.iand, 1) := by decide +kernel
theorem dJ6_bitCount_0f7a4_15 : decode cJ6_bitCount_0f7a4 15 = .ok (.iload_n 0, 1) := by decide +kernel
theorem dJ6_bitCount_0f7a4_16 : decode cJ6_bitCount_0f7a4 16 = .ok (.iconst 2, 1) := by decide +kernel
theorem dJ6_bitCount_0f7a4_17 : decode cJ6_bitCount_0f7a4 17 = .ok (.iushr, 1) := by decide +kernel
theorem dJ6_bitCount_0f7a4_18 : decode cJ6_bitCount_0f7a4 18 = .ok (.ldc_w 266, 3) := by decide +kernel
theorem dJ6_bitCount_0f7a4_21 : decode cJ6_bitCount_0f7a4 21 = .ok (.iand, 1) := by decide +kernel
theorem dJ6_bitCount_0f7a4_22 : decode cJ6_bitCount_0f7a4 22 = .ok (.iadd, 1) := by decide +kernel
theorem dJ6_bitCount_0f7a4_23 : decode cJ6_bitCount_0f7a4 23 = .ok (.istore_n 0, 1) := by decide +kernel
theorem dJ6_bitCount_0f7a4_24 : decode cJ6_bitCount_0f7a4 24 = .ok (.iload_n 0, 1) := by decide +kernel
theorem dJ6_bitCount_0f7a4_25 : decode cJ6_bitCount_0f7a4 25 = .ok (.iload_n 0, 1) := by decide +kernel
theorem dJ6_bitCount_0f7a4_26 : decode cJ6_bitCount_0f7a4 26 = .ok (.iconst 4, 1) := by decide +kernel
theorem dJ6_bitCount_0f7a4_27 : decode cJ6_bitCount_0f7a4 27 = .ok (.iushr, 1) := by decide +kernel
theorem dJ6_bitCount_0f7a4_28 : decode cJ6_bitCount_0f7a4 28 = .ok (.iadd, 1) := by decide +kernel
theorem dJ6_bitCount_0f7a4_29 : decode cJ6_bitCount_0f7a4 29 = .ok (.ldc_w 267, 3) := by decide +kernel
theorem dJ6_bitCount_0f7a4_32 : decode cJ6_bitCount_0f7a4 32 = .ok (.iand, 1) := by decide +kernel
theorem dJ6_bitCount_0f7a4_33 : decode cJ6_bitCount_0f7a4 33 = .ok (.istore_n 0, 1) := by decide +kernel
theorem dJ6_bitCount_0f7a4_34 : decode cJ6_bitCount_0f7a4 34 = .ok (.iload_n 0, 1) := by decide +kernel
theorem dJ6_bitCount_0f7a4_35 : decode cJ6_bitCount_0f7a4 35 = .ok (.iload_n 0, 1) := by decide +kernel
theorem dJ6_bitCount_0f7a4_36 : decode cJ6_bitCount_0f7a4 36 = .ok (.bipush 8, 2) := by decide +kernel
theorem dJ6_bitCount_0f7a4_38 : decode cJ6_bitCount_0f7a4 38 = .ok (.iushr, 1) := by decide +kernel
theorem dJ6_bitCount_0f7a4_39 : decode cJ6_bitCount_0f7a4 39 = .ok (.iadd, 1) := by decide +kernel
theorem dJ6_bitCount_0f7a4_40 : decode cJ6_bitCount_0f7a4 40 = .ok (.istore_n 0, 1) := by decide +kernel
theorem dJ6_bitCount_0f7a4_41 : decode cJ6_bitCount_0f7a4 41 = .ok (.iload_n 0, 1) := by decide +kernel
theorem dJ6_bitCount_0f7a4_42 : decode cJ6_bitCount_0f7a4 42 = .ok (.iload_n 0, 1) := by decide +kernel
theorem dJ6_bitCount_0f7a4_43 : decode cJ6_bitCount_0f7a4 43 = .ok (.bipush 16, 2) := by decide +kernel
theorem dJ6_bitCount_0f7a4_45 : decode cJ6_bitCount_0f7a4 45 = .ok (.iushr, 1) := by decide +kernel
theorem dJ6_bitCount_0f7a4_46 : decode cJ6_bitCount_0f7a4 46 = .ok (.iadd, 1) := by decide +kernel
theorem dJ6_bitCount_0f7a4_47 : decode cJ6_bitCount_0f7a4 47 = .ok (.istore_n 0, 1) := by decide +kernel
theorem dJ6_bitCount_0f7a4_48 : decode cJ6_bitCount_0f7a4 48 = .ok (.iload_n 0, 1) := by decide +kernel
theorem dJ6_bitCount_0f7a4_49 : decode cJ6_bitCount_0f7a4 49 = .ok (.bipush 63, 2) := by decide +kernel
theorem dJ6_bitCount_0f7a4_51 : decode cJ6_bitCount_0f7a4 51 = .ok (.iand, 1) := by decide +kernel
theorem dJ6_bitCount_0f7a4_52 : decode cJ6_bitCount_0f7a4 52 = .ok (.ireturn, 1) := by decide +kernel
theorem dJ7_fill_53178_0 : decode cJ7_fill_53178 0 = .ok (.iconst 0, 1) := by decide +kernel
theorem dJ7_fill_53178_1 : decode cJ7_fill_53178 1 = .ok (.istore_n 2, 1) := by decide +kernel
theorem dJ7_fill_53178_2 : decode cJ7_fill_53178 2 = .ok (.aload_n 0, 1) := by decide +kernel
theorem dJ7_fill_53178_3 : decode cJ7_fill_53178 3 = .ok (.arraylength, 1) := by decide +kernel
theorem dJ7_fill_53178_4 : decode cJ7_fill_53178 4 = .ok (.istore_n 3, 1) := by decide +kernel
theorem dJ7_fill_53178_5 : decode cJ7_fill_53178 5 = .ok (.iload_n 2, 1) := by decide +kernel
theorem dJ7_fill_53178_6 : decode cJ7_fill_53178 6 = .ok (.iload_n 3, 1) := by decide +kernel
theorem dJ7_fill_53178_7 : decode cJ7_fill_53178 7 = .ok (.if_icmp .ge 13, 3) := by decide +kernel
theorem dJ7_fill_53178_10 : decode cJ7_fill_53178 10 = .ok (.aload_n 0, 1) := by decide +kernel
theorem dJ7_fill_53178_11 : decode cJ7_fill_53178 11 = .ok (.iload_n 2, 1) := by decide +kernel
theorem dJ7_fill_53178_12 : decode cJ7_fill_53178 12 = .ok (.iload_n 1, 1) := by decide +kernel
theorem dJ7_fill_53178_13 : decode cJ7_fill_53178 13 = .ok (.iastore, 1) := by decide +kernel
theorem dJ7_fill_53178_14 : decode cJ7_fill_53178 14 = .ok (.iinc 2 1, 3) := by decide +kernel
theorem dJ7_fill_53178_17 : decode cJ7_fill_53178 17 = .ok (.goto (-12), 3) := by decide +kernel
theorem dJ7_fill_53178_20 : decode cJ7_fill_53178 20 = .ok (.return_, 1) := by decide +kernel
theorem dJ0_coder_7d493_0 : decode cJ0_coder_7d493 0 = .ok (.getstatic 38, 3) := by decide +kernel
theorem dJ0_coder_7d493_3 : decode cJ0_coder_7d493 3 = .ok (.ifCond .eq 10, 3) := by decide +kernel
theorem dJ0_coder_7d493_6 : decode cJ0_coder_7d493 6 = .ok (.aload_n 0, 1) := by decide +kernel
theorem dJ0_coder_7d493_7 : decode cJ0_coder_7d493 7 = .ok (.getfield 15, 3) := by decide +kernel
theorem dJ0_coder_7d493_10 : decode cJ0_coder_7d493 10 = .ok (.goto 4, 3) := by decide +kernel
theorem dJ0_coder_7d493_13 : decode cJ0_coder_7d493 13 = .ok (.iconst 1, 1) := by decide +kernel
theorem dJ0_coder_7d493_14 : decode cJ0_coder_7d493 14 = .ok (.ireturn, 1) := by decide +kernel
theorem dJ0_length_8abf5_0 : decode cJ0_length_8abf5 0 = .ok (.aload_n 0, 1) := by decide +kernel
theorem dJ0_length_8abf5_1 : decode cJ0_length_8abf5 1 = .ok (.getfield 9, 3) := by decide +kernel
theorem dJ0_length_8abf5_4 : decode cJ0_length_8abf5 4 = .ok (.arraylength, 1) := by decide +kernel
theorem dJ0_length_8abf5_5 : decode cJ0_length_8abf5 5 = .ok (.aload_n 0, 1) := by decide +kernel
theorem dJ0_length_8abf5_6 : decode cJ0_length_8abf5 6 = .ok (.invokevirtual 335, 3) := by decide +kernel
theorem dJ0_length_8abf5_9 : decode cJ0_length_8abf5 9 = .ok (.ishr, 1) := by decide +kernel
theorem dJ0_length_8abf5_10 : decode cJ0_length_8abf5 10 = .ok (.ireturn, 1) := by decide +kernel
theorem dJ0_isLatin1_aae02_0 : decode cJ0_isLatin1_aae02 0 = .ok (.getstatic 38, 3) := by decide +kernel
theorem dJ0_isLatin1_aae02_3 : decode cJ0_isLatin1_aae02 3 = .ok (.ifCond .eq 14, 3) := by decide +kernel
theorem dJ0_isLatin1_aae02_6 : decode cJ0_isLatin1_aae02 6 = .ok (.aload_n 0, 1) := by decide +kernel
theorem dJ0_isLatin1_aae02_7 : decode cJ0_isLatin1_aae02 7 = .ok (.getfield 15, 3) := by decide +kernel
theorem dJ0_isLatin1_aae02_10 : decode cJ0_isLatin1_aae02 10 = .ok (.ifCond .ne 7, 3) := by decide +kernel
theorem dJ0_isLatin1_aae02_13 : decode cJ0_isLatin1_aae02 13 = .ok (.iconst 1, 1) := by decide +kernel
theorem dJ0_isLatin1_aae02_14 : decode cJ0_isLatin1_aae02 14 = .ok (.goto 4, 3) := by decide +kernel
theorem dJ0_isLatin1_aae02_17 : decode cJ0_isLatin1_aae02 17 = .ok (.iconst 0, 1) := by decide +kernel
theorem dJ0_isLatin1_aae02_18 : decode cJ0_isLatin1_aae02 18 = .ok (.ireturn, 1) := by decide +kernel
theorem dJ3_checkIndex_8e157_0 : decode cJ3_checkIndex_8e157 0 = .ok (.iload_n 0, 1) := by decide +kernel
theorem dJ3_checkIndex_8e157_1 : decode cJ3_checkIndex_8e157 1 = .ok (.ifCond .lt 8, 3) := by decide +kernel
theorem dJ3_checkIndex_8e157_4 : decode cJ3_checkIndex_8e157 4 = .ok (.iload_n 0, 1) := by decide +kernel
theorem dJ3_checkIndex_8e157_5 : decode cJ3_checkIndex_8e157 5 = .ok (.iload_n 1, 1) := by decide +kernel
theorem dJ3_checkIndex_8e157_6 : decode cJ3_checkIndex_8e157 6 = .ok (.if_icmp .lt 10, 3) := by decide +kernel
theorem dJ3_checkIndex_8e157_9 : decode cJ3_checkIndex_8e157 9 = .ok (.aload_n 2, 1) := by decide +kernel
theorem dJ3_checkIndex_8e157_10 : decode cJ3_checkIndex_8e157 10 = .ok (.iload_n 0, 1) := by decide +kernel
theorem dJ3_checkIndex_8e157_11 : decode cJ3_checkIndex_8e157 11 = .ok (.iload_n 1, 1) := by decide +kernel
theorem dJ3_checkIndex_8e157_12 : decode cJ3_checkIndex_8e157 12 = .ok (.invokestatic 95, 3) := by decide +kernel
theorem dJ3_checkIndex_8e157_15 : decode cJ3_checkIndex_8e157 15 = .ok (.athrow, 1) := by decide +kernel
theorem dJ3_checkIndex_8e157_16 : decode cJ3_checkIndex_8e157 16 = .ok (.iload_n 0, 1) := by decide +kernel
theorem dJ3_checkIndex_8e157_17 : decode cJ3_checkIndex_8e157 17 = .ok (.ireturn, 1) := by decide +kernel
theorem dJ0_checkIndex_df160_0 : decode cJ0_checkIndex_df160 0 = .ok (.iload_n 0, 1) := by decide +kernel
theorem dJ0_checkIndex_df160_1 : decode cJ0_checkIndex_df160 1 = .ok (.iload_n 1, 1) := by decide +kernel
theorem dJ0_checkIndex_df160_2 : decode cJ0_checkIndex_df160 2 = .ok (.getstatic 1053, 3) := by decide +kernel
theorem dJ0_checkIndex_df160_5 : decode cJ0_checkIndex_df160 5 = .ok (.invokestatic 1059, 3) := by decide +kernel
theorem dJ0_checkIndex_df160_8 : decode cJ0_checkIndex_df160 8 = .ok (.pop, 1) := by decide +kernel
theorem dJ0_checkIndex_df160_9 : decode cJ0_checkIndex_df160 9 = .ok (.return_, 1) := by decide +kernel
theorem dJ1_charAt_3b067_0 : decode cJ1_charAt_3b067 0 = .ok (.iload_n 1, 1) := by decide +kernel
theorem dJ1_charAt_3b067_1 : decode cJ1_charAt_3b067 1 = .ok (.aload_n 0, 1) := by decide +kernel
theorem dJ1_charAt_3b067_2 : decode cJ1_charAt_3b067 2 = .ok (.arraylength, 1) := by decide +kernel
theorem dJ1_charAt_3b067_3 : decode cJ1_charAt_3b067 3 = .ok (.invokestatic 9, 3) := by decide +kernel
theorem dJ1_charAt_3b067_6 : decode cJ1_charAt_3b067 6 = .ok (.aload_n 0, 1) := by decide +kernel
theorem dJ1_charAt_3b067_7 : decode cJ1_charAt_3b067 7 = .ok (.iload_n 1, 1) := by decide +kernel
theorem dJ1_charAt_3b067_8 : decode cJ1_charAt_3b067 8 = .ok (.baload, 1) := by decide +kernel
theorem dJ1_charAt_3b067_9 : decode cJ1_charAt_3b067 9 = .ok (.sipush 255, 3) := by decide +kernel
theorem dJ1_charAt_3b067_12 : decode cJ1_charAt_3b067 12 = .ok (.iand, 1) := by decide +kernel
theorem dJ1_charAt_3b067_13 : decode cJ1_charAt_3b067 13 = .ok (.i2c, 1) := by decide +kernel
theorem dJ1_charAt_3b067_14 : decode cJ1_charAt_3b067 14 = .ok (.ireturn, 1) := by decide +kernel
theorem dJ0_charAt_5068e_0 : decode cJ0_charAt_5068e 0 = .ok (.aload_n 0, 1) := by decide +kernel
theorem dJ0_charAt_5068e_1 : decode cJ0_charAt_5068e 1 = .ok (.invokevirtual 492, 3) := by decide +kernel
theorem dJ0_charAt_5068e_4 : decode cJ0_charAt_5068e 4 = .ok (.ifCond .eq 12, 3) := by decide +kernel
theorem dJ0_charAt_5068e_7 : decode cJ0_charAt_5068e 7 = .ok (.aload_n 0, 1) := by decide +kernel
theorem dJ0_charAt_5068e_8 : decode cJ0_charAt_5068e 8 = .ok (.getfield 9, 3) := by decide +kernel
theorem dJ0_charAt_5068e_11 : decode cJ0_charAt_5068e 11 = .ok (.iload_n 1, 1) := by decide +kernel
theorem dJ0_charAt_5068e_12 : decode cJ0_charAt_5068e 12 = .ok (.invokestatic 495, 3) := by decide +kernel
theorem dJ0_charAt_5068e_15 : decode cJ0_charAt_5068e 15 = .ok (.ireturn, 1) := by decide +kernel
theorem dJ0_charAt_5068e_16 : decode cJ0_charAt_5068e 16 = .ok (.aload_n 0, 1) := by decide +kernel
theorem dJ0_charAt_5068e_17 : decode cJ0_charAt_5068e 17 = .ok (.getfield 9, 3) := by decide +kernel
theorem dJ0_charAt_5068e_20 : decode cJ0_charAt_5068e 20 = .ok (.iload_n 1, 1) := by decide +kernel
theorem dJ0_charAt_5068e_21 : decode cJ0_charAt_5068e 21 = .ok (.invokestatic 498, 3) := by decide +kernel
theorem dJ0_charAt_5068e_24 : decode cJ0_charAt_5068e 24 = .ok (.ireturn, 1) := by decide +kernel
def f_J6_numberOfTrailingZeros_0f7a4_h74 (F : Nat) (x0 : Int32) (x1 : Int32) (S : si_St) : Option (Int32 × si_St) :=
  some ((x1 + (si_ushr x0 1)), S)
def f_J6_numberOfTrailingZeros_0f7a4_h62 (F : Nat) (x0 : Int32) (x1 : Int32) (S : si_St) : Option (Int32 × si_St) :=
  if x0 ≤ 4 then (f_J6_numberOfTrailingZeros_0f7a4_h74 F x0 x1 S) else (Option.bind (some (x1 + 2)) fun v1 => Option.bind (some (si_ushr x0 2)) fun v2 => f_J6_numberOfTrailingZeros_0f7a4_h74 F v2 v1 S)
def f_J6_numberOfTrailingZeros_0f7a4_h49 (F : Nat) (x0 : Int32) (x1 : Int32) (S : si_St) : Option (Int32 × si_St) :=
  if x0 ≤ 16 then (f_J6_numberOfTrailingZeros_0f7a4_h62 F x0 x1 S) else (Option.bind (some (x1 + 4)) fun v3 => Option.bind (some (si_ushr x0 4)) fun v4 => f_J6_numberOfTrailingZeros_0f7a4_h62 F v4 v3 S)
def f_J6_numberOfTrailingZeros_0f7a4_h34 (F : Nat) (x0 : Int32) (x1 : Int32) (S : si_St) : Option (Int32 × si_St) :=
  if x0 ≤ 256 then (f_J6_numberOfTrailingZeros_0f7a4_h49 F x0 x1 S) else (Option.bind (some (x1 + 8)) fun v5 => Option.bind (some (si_ushr x0 8)) fun v6 => f_J6_numberOfTrailingZeros_0f7a4_h49 F v6 v5 S)
def f_J6_numberOfTrailingZeros_0f7a4 (F : Nat) (x0 : Int32) (S : si_St) : Option (Int32 × si_St) :=
  Option.bind (some ((x0 ^^^ (-1)) &&& (x0 - 1))) fun v7 => if 0 < v7 then (if v7 ≤ 65536 then (f_J6_numberOfTrailingZeros_0f7a4_h34 F v7 1 S) else (Option.bind (some (1 + 16)) fun v8 => Option.bind (some (si_ushr v7 16)) fun v9 => f_J6_numberOfTrailingZeros_0f7a4_h34 F v9 v8 S)) else (some ((v7 &&& 32), S))
def f_J6_bitCount_0f7a4 (F : Nat) (x0 : Int32) (S : si_St) : Option (Int32 × si_St) :=
  Option.bind (some (x0 - ((si_ushr x0 1) &&& 1431655765))) fun v1 => Option.bind (some ((v1 &&& 858993459) + ((si_ushr v1 2) &&& 858993459))) fun v2 => Option.bind (some ((v2 + (si_ushr v2 4)) &&& 252645135)) fun v3 => Option.bind (some (v3 + (si_ushr v3 8))) fun v4 => Option.bind (some (v4 + (si_ushr v4 16))) fun v5 => some ((v5 &&& 63), S)
def f_J7_fill_53178_h5 (F : Nat) (k0 : Nat) (r5 : Int32 → Int32 → Int32 → si_St → Option (si_St)) (x1 : Int32) (x2 : Int32) (x3 : Int32) (S : si_St) : Option (si_St) :=
  if x3 ≤ x2 then (some S) else (Option.bind (si_wr S k0 x2 x1) fun S1 => Option.bind (some (x2 + 1)) fun v2 => r5 x1 v2 x3 S1)
def f_J7_fill_53178_l5 (F : Nat) (k0 : Nat) : Nat → Int32 → Int32 → Int32 → si_St → Option (si_St)
 | 0 => fun _ _ _ _ => none
 | n + 1 => fun x1 x2 x3 S => f_J7_fill_53178_h5 F k0 (f_J7_fill_53178_l5 F k0 n) x1 x2 x3 S
def f_J7_fill_53178 (F : Nat) (k0 : Nat) (x1 : Int32) (S : si_St) : Option (si_St) :=
  Option.bind (some (Int32.ofNat (si_ln k0))) fun v3 => f_J7_fill_53178_l5 F k0 F x1 0 v3 S
def f_J0_coder_7d493 (F : Nat) (g0 : Nat) (S : si_St) : Option (Int32 × si_St) :=
  if (1 : Int32) = 0 then (none) else (Option.bind (si_gn .byte 0) fun v1 => some (v1, S))
def f_J0_length_8abf5 (F : Nat) (g0 : Nat) (S : si_St) : Option (Int32 × si_St) :=
  Option.bind (f_J0_coder_7d493 F g0 S) fun q1 => some (((si_sl g0) >>> (q1.1 &&& 31)), q1.2)
def f_J0_isLatin1_aae02_h18 (F : Nat) (g0 : Nat) (t0 : Int32) (S : si_St) : Option (Int32 × si_St) :=
  Option.bind (si_bz t0) fun v1 => some (v1, S)
def f_J0_isLatin1_aae02_h17 (F : Nat) (g0 : Nat) (S : si_St) : Option (Int32 × si_St) :=
  f_J0_isLatin1_aae02_h18 F g0 0 S
def f_J0_isLatin1_aae02 (F : Nat) (g0 : Nat) (S : si_St) : Option (Int32 × si_St) :=
  if (1 : Int32) = 0 then (f_J0_isLatin1_aae02_h17 F g0 S) else (if (0 : Int32) = 0 then (f_J0_isLatin1_aae02_h18 F g0 1 S) else (f_J0_isLatin1_aae02_h17 F g0 S))
def f_J3_checkIndex_8e157 (F : Nat) (x0 : Int32) (x1 : Int32) (S : si_St) : Option (Int32 × si_St) :=
  if x0 < 0 then (none) else (if x0 < x1 then (some (x0, S)) else (none))
def f_J0_checkIndex_df160 (F : Nat) (x0 : Int32) (x1 : Int32) (S : si_St) : Option (si_St) :=
  Option.bind (f_J3_checkIndex_8e157 F x0 x1 S) fun q1 => some q1.2
def f_J1_charAt_3b067 (F : Nat) (g0 : Nat) (x1 : Int32) (S : si_St) : Option (Int32 × si_St) :=
  Option.bind (f_J0_checkIndex_df160 F x1 (si_sl g0) S) fun S1 => Option.bind (si_sb g0 x1) fun v2 => Option.bind (si_gn .char (si_i2c (v2 &&& 255))) fun v3 => some (v3, S1)
def f_J0_charAt_5068e (F : Nat) (g0 : Nat) (x1 : Int32) (S : si_St) : Option (Int32 × si_St) :=
  Option.bind (f_J0_isLatin1_aae02 F g0 S) fun q1 => if q1.1 = 0 then (none) else (Option.bind (f_J1_charAt_3b067 F g0 x1 q1.2) fun q2 => Option.bind (si_gn .char q2.1) fun v3 => some (v3, q2.2))
abbrev rm_J6_numberOfTrailingZeros_0f7a4 : Room := { frames := 0, cells := 0, slots := 0, locals := 0 }
set_option maxHeartbeats 4000000 in
set_option maxRecDepth 100000 in
theorem c_J6_numberOfTrailingZeros_0f7a4 (l : Launch) (E : si_Ev) (F : Nat) (x0 : Int32) (S : si_St) (o : Int32 × si_St) (hf : f_J6_numberOfTrailingZeros_0f7a4 F x0 S = some o) : si_Mi l E yJ6_numberOfTrailingZeros_0f7a4 cJ6_numberOfTrailingZeros_0f7a4 2 (some .int) rm_J6_numberOfTrailingZeros_0f7a4 [.int x0] S o := by
  refine si_ofWi (plainFor_of_name (by decide +kernel)) (Nat.le_of_ble_eq_true rfl) ?_
  intro p e s m args below meth c ls Q A X hw hA hl hret
  have hl : lv_has ls 2 [(0, .int x0)] := hl
  have B74 : ∀ (x0 : Int32) (x1 : Int32) (S : si_St) (H : Heap) (locs : List Loc) (ls : Array Slot), f_J6_numberOfTrailingZeros_0f7a4_h74 F x0 x1 S = some o → si_Ws E A s.heap S H locs → lv_has ls 2 [(0, .int x0), (1, .int x1)] → W p l e rm_J6_numberOfTrailingZeros_0f7a4 s m args below meth c H locs 0 0 Q (F0 m 74 ls []) := by
    intro x0 x1  S H locs ls hf hw hl
    unfold f_J6_numberOfTrailingZeros_0f7a4_h74 at hf
    refine lv_iload_n X.1 X.2.1 dJ6_numberOfTrailingZeros_0f7a4_74 rfl (lv_at hl 1 rfl) ?_
    refine lv_iload_n X.1 X.2.1 dJ6_numberOfTrailingZeros_0f7a4_75 rfl (lv_at hl 0 rfl) ?_
    refine lv_iconst (v := 1) X.1 X.2.1 dJ6_numberOfTrailingZeros_0f7a4_76 (by decide) ?_
    refine lv_iushr (v := (si_ushr x0 1)) X.1 X.2.1 dJ6_numberOfTrailingZeros_0f7a4_77 rfl ?_
    refine lv_iadd X.1 X.2.1 dJ6_numberOfTrailingZeros_0f7a4_78 ?_
    exact hret _ _ _ _ _ _ hf hw dJ6_numberOfTrailingZeros_0f7a4_79
  have B62 : ∀ (x0 : Int32) (x1 : Int32) (S : si_St) (H : Heap) (locs : List Loc) (ls : Array Slot), f_J6_numberOfTrailingZeros_0f7a4_h62 F x0 x1 S = some o → si_Ws E A s.heap S H locs → lv_has ls 2 [(0, .int x0), (1, .int x1)] → W p l e rm_J6_numberOfTrailingZeros_0f7a4 s m args below meth c H locs 0 0 Q (F0 m 62 ls []) := by
    intro x0 x1  S H locs ls hf hw hl
    unfold f_J6_numberOfTrailingZeros_0f7a4_h62 at hf
    refine lv_iload_n X.1 X.2.1 dJ6_numberOfTrailingZeros_0f7a4_62 rfl (lv_at hl 0 rfl) ?_
    refine lv_iconst (v := 4) X.1 X.2.1 dJ6_numberOfTrailingZeros_0f7a4_63 (by decide) ?_
    refine lv_icmp_le (tgt := 74) X.1 X.2.1 dJ6_numberOfTrailingZeros_0f7a4_64 (by decide) (fun c64 => ?_) (fun c64 => ?_)
    · have hf := si_ip c64 hf
      exact B74 _ _ _ _ _ _ hf hw (lv_sub hl [0, 1] rfl)
    · have hf := si_in c64 hf
      obtain ⟨v1, ev1, hf⟩ := si_ob hf
      refine lv_iinc (v := v1) (lv' := [(1, .int v1), (0, .int x0)]) X.1 X.2.1 dJ6_numberOfTrailingZeros_0f7a4_67 hl (k := 1) rfl (Option.some.inj ev1) (by decide) rfl (fun ls hl => ?_)
      refine lv_iload_n X.1 X.2.1 dJ6_numberOfTrailingZeros_0f7a4_70 rfl (lv_at hl 1 rfl) ?_
      refine lv_iconst (v := 2) X.1 X.2.1 dJ6_numberOfTrailingZeros_0f7a4_71 (by decide) ?_
      refine lv_iushr (v := (si_ushr x0 2)) X.1 X.2.1 dJ6_numberOfTrailingZeros_0f7a4_72 rfl ?_
      obtain ⟨v2, ev2, hf⟩ := si_ob hf
      refine si_nmI ev2 ?_
      refine lv_istore_n (lv' := [(0, .int v2), (1, .int v1)]) X.1 X.2.1 dJ6_numberOfTrailingZeros_0f7a4_73 rfl hl (by decide) rfl (fun ls hl => ?_)
      exact B74 _ _ _ _ _ _ hf hw (lv_sub hl [0, 1] rfl)
  have B49 : ∀ (x0 : Int32) (x1 : Int32) (S : si_St) (H : Heap) (locs : List Loc) (ls : Array Slot), f_J6_numberOfTrailingZeros_0f7a4_h49 F x0 x1 S = some o → si_Ws E A s.heap S H locs → lv_has ls 2 [(0, .int x0), (1, .int x1)] → W p l e rm_J6_numberOfTrailingZeros_0f7a4 s m args below meth c H locs 0 0 Q (F0 m 49 ls []) := by
    intro x0 x1  S H locs ls hf hw hl
    unfold f_J6_numberOfTrailingZeros_0f7a4_h49 at hf
    refine lv_iload_n X.1 X.2.1 dJ6_numberOfTrailingZeros_0f7a4_49 rfl (lv_at hl 0 rfl) ?_
    refine lv_bipush (v := 16) X.1 X.2.1 dJ6_numberOfTrailingZeros_0f7a4_50 (by decide) ?_
    refine lv_icmp_le (tgt := 62) X.1 X.2.1 dJ6_numberOfTrailingZeros_0f7a4_52 (by decide) (fun c52 => ?_) (fun c52 => ?_)
    · have hf := si_ip c52 hf
      exact B62 _ _ _ _ _ _ hf hw (lv_sub hl [0, 1] rfl)
    · have hf := si_in c52 hf
      obtain ⟨v3, ev3, hf⟩ := si_ob hf
      refine lv_iinc (v := v3) (lv' := [(1, .int v3), (0, .int x0)]) X.1 X.2.1 dJ6_numberOfTrailingZeros_0f7a4_55 hl (k := 1) rfl (Option.some.inj ev3) (by decide) rfl (fun ls hl => ?_)
      refine lv_iload_n X.1 X.2.1 dJ6_numberOfTrailingZeros_0f7a4_58 rfl (lv_at hl 1 rfl) ?_
      refine lv_iconst (v := 4) X.1 X.2.1 dJ6_numberOfTrailingZeros_0f7a4_59 (by decide) ?_
      refine lv_iushr (v := (si_ushr x0 4)) X.1 X.2.1 dJ6_numberOfTrailingZeros_0f7a4_60 rfl ?_
      obtain ⟨v4, ev4, hf⟩ := si_ob hf
      refine si_nmI ev4 ?_
      refine lv_istore_n (lv' := [(0, .int v4), (1, .int v3)]) X.1 X.2.1 dJ6_numberOfTrailingZeros_0f7a4_61 rfl hl (by decide) rfl (fun ls hl => ?_)
      exact B62 _ _ _ _ _ _ hf hw (lv_sub hl [0, 1] rfl)
  have B34 : ∀ (x0 : Int32) (x1 : Int32) (S : si_St) (H : Heap) (locs : List Loc) (ls : Array Slot), f_J6_numberOfTrailingZeros_0f7a4_h34 F x0 x1 S = some o → si_Ws E A s.heap S H locs → lv_has ls 2 [(0, .int x0), (1, .int x1)] → W p l e rm_J6_numberOfTrailingZeros_0f7a4 s m args below meth c H locs 0 0 Q (F0 m 34 ls []) := by
    intro x0 x1  S H locs ls hf hw hl
    unfold f_J6_numberOfTrailingZeros_0f7a4_h34 at hf
    refine lv_iload_n X.1 X.2.1 dJ6_numberOfTrailingZeros_0f7a4_34 rfl (lv_at hl 0 rfl) ?_
    refine lv_sipush (v := 256) X.1 X.2.1 dJ6_numberOfTrailingZeros_0f7a4_35 (by decide) ?_
    refine lv_icmp_le (tgt := 49) X.1 X.2.1 dJ6_numberOfTrailingZeros_0f7a4_38 (by decide) (fun c38 => ?_) (fun c38 => ?_)
    · have hf := si_ip c38 hf
      exact B49 _ _ _ _ _ _ hf hw (lv_sub hl [0, 1] rfl)
    · have hf := si_in c38 hf
      obtain ⟨v5, ev5, hf⟩ := si_ob hf
      refine lv_iinc (v := v5) (lv' := [(1, .int v5), (0, .int x0)]) X.1 X.2.1 dJ6_numberOfTrailingZeros_0f7a4_41 hl (k := 1) rfl (Option.some.inj ev5) (by decide) rfl (fun ls hl => ?_)
      refine lv_iload_n X.1 X.2.1 dJ6_numberOfTrailingZeros_0f7a4_44 rfl (lv_at hl 1 rfl) ?_
      refine lv_bipush (v := 8) X.1 X.2.1 dJ6_numberOfTrailingZeros_0f7a4_45 (by decide) ?_
      refine lv_iushr (v := (si_ushr x0 8)) X.1 X.2.1 dJ6_numberOfTrailingZeros_0f7a4_47 rfl ?_
      obtain ⟨v6, ev6, hf⟩ := si_ob hf
      refine si_nmI ev6 ?_
      refine lv_istore_n (lv' := [(0, .int v6), (1, .int v5)]) X.1 X.2.1 dJ6_numberOfTrailingZeros_0f7a4_48 rfl hl (by decide) rfl (fun ls hl => ?_)
      exact B49 _ _ _ _ _ _ hf hw (lv_sub hl [0, 1] rfl)
  unfold f_J6_numberOfTrailingZeros_0f7a4 at hf
  refine lv_iload_n X.1 X.2.1 dJ6_numberOfTrailingZeros_0f7a4_0 rfl (lv_at hl 0 rfl) ?_
  refine lv_iconst (v := (-1)) X.1 X.2.1 dJ6_numberOfTrailingZeros_0f7a4_1 (by decide) ?_
  refine lv_ixor X.1 X.2.1 dJ6_numberOfTrailingZeros_0f7a4_2 ?_
  refine lv_iload_n X.1 X.2.1 dJ6_numberOfTrailingZeros_0f7a4_3 rfl (lv_at hl 0 rfl) ?_
  refine lv_iconst (v := 1) X.1 X.2.1 dJ6_numberOfTrailingZeros_0f7a4_4 (by decide) ?_
  refine lv_isub X.1 X.2.1 dJ6_numberOfTrailingZeros_0f7a4_5 ?_
  refine lv_iand X.1 X.2.1 dJ6_numberOfTrailingZeros_0f7a4_6 ?_
  obtain ⟨v7, ev7, hf⟩ := si_ob hf
  refine si_nmI ev7 ?_
  refine lv_istore_n (lv' := [(0, .int v7)]) X.1 X.2.1 dJ6_numberOfTrailingZeros_0f7a4_7 rfl hl (by decide) rfl (fun ls hl => ?_)
  refine lv_iload_n X.1 X.2.1 dJ6_numberOfTrailingZeros_0f7a4_8 rfl (lv_at hl 0 rfl) ?_
  refine lv_if_gt (tgt := 17) X.1 X.2.1 dJ6_numberOfTrailingZeros_0f7a4_9 (by decide) (fun c9 => ?_) (fun c9 => ?_)
  · have hf := si_ip c9 hf
    refine lv_iconst (v := 1) X.1 X.2.1 dJ6_numberOfTrailingZeros_0f7a4_17 (by decide) ?_
    refine lv_istore_n (lv' := [(1, .int 1), (0, .int v7)]) X.1 X.2.1 dJ6_numberOfTrailingZeros_0f7a4_18 rfl hl (by decide) rfl (fun ls hl => ?_)
    refine lv_iload_n X.1 X.2.1 dJ6_numberOfTrailingZeros_0f7a4_19 rfl (lv_at hl 1 rfl) ?_
    refine lv_ldcw (v := 65536) X.1 X.2.1 X.2.2.2.1 (si_wd X gk_RJ6_264) dJ6_numberOfTrailingZeros_0f7a4_20 ?_
    refine lv_icmp_le (tgt := 34) X.1 X.2.1 dJ6_numberOfTrailingZeros_0f7a4_23 (by decide) (fun c23 => ?_) (fun c23 => ?_)
    · have hf := si_ip c23 hf
      exact B34 _ _ _ _ _ _ hf hw (lv_sub hl [1, 0] rfl)
    · have hf := si_in c23 hf
      obtain ⟨v8, ev8, hf⟩ := si_ob hf
      refine lv_iinc (v := v8) (lv' := [(1, .int v8), (0, .int v7)]) X.1 X.2.1 dJ6_numberOfTrailingZeros_0f7a4_26 hl (k := 0) rfl (Option.some.inj ev8) (by decide) rfl (fun ls hl => ?_)
      refine lv_iload_n X.1 X.2.1 dJ6_numberOfTrailingZeros_0f7a4_29 rfl (lv_at hl 1 rfl) ?_
      refine lv_bipush (v := 16) X.1 X.2.1 dJ6_numberOfTrailingZeros_0f7a4_30 (by decide) ?_
      refine lv_iushr (v := (si_ushr v7 16)) X.1 X.2.1 dJ6_numberOfTrailingZeros_0f7a4_32 rfl ?_
      obtain ⟨v9, ev9, hf⟩ := si_ob hf
      refine si_nmI ev9 ?_
      refine lv_istore_n (lv' := [(0, .int v9), (1, .int v8)]) X.1 X.2.1 dJ6_numberOfTrailingZeros_0f7a4_33 rfl hl (by decide) rfl (fun ls hl => ?_)
      exact B34 _ _ _ _ _ _ hf hw (lv_sub hl [0, 1] rfl)
  · have hf := si_in c9 hf
    refine lv_iload_n X.1 X.2.1 dJ6_numberOfTrailingZeros_0f7a4_12 rfl (lv_at hl 0 rfl) ?_
    refine lv_bipush (v := 32) X.1 X.2.1 dJ6_numberOfTrailingZeros_0f7a4_13 (by decide) ?_
    refine lv_iand X.1 X.2.1 dJ6_numberOfTrailingZeros_0f7a4_15 ?_
    exact hret _ _ _ _ _ _ hf hw dJ6_numberOfTrailingZeros_0f7a4_16
abbrev rm_J6_bitCount_0f7a4 : Room := { frames := 0, cells := 0, slots := 0, locals := 0 }
set_option maxHeartbeats 4000000 in
set_option maxRecDepth 100000 in
theorem c_J6_bitCount_0f7a4 (l : Launch) (E : si_Ev) (F : Nat) (x0 : Int32) (S : si_St) (o : Int32 × si_St) (hf : f_J6_bitCount_0f7a4 F x0 S = some o) : si_Mi l E yJ6_bitCount_0f7a4 cJ6_bitCount_0f7a4 1 (some .int) rm_J6_bitCount_0f7a4 [.int x0] S o := by
  refine si_ofWi (plainFor_of_name (by decide +kernel)) (Nat.le_of_ble_eq_true rfl) ?_
  intro p e s m args below meth c ls Q A X hw hA hl hret
  have hl : lv_has ls 1 [(0, .int x0)] := hl
  unfold f_J6_bitCount_0f7a4 at hf
  refine lv_iload_n X.1 X.2.1 dJ6_bitCount_0f7a4_0 rfl (lv_at hl 0 rfl) ?_
  refine lv_iload_n X.1 X.2.1 dJ6_bitCount_0f7a4_1 rfl (lv_at hl 0 rfl) ?_
  refine lv_iconst (v := 1) X.1 X.2.1 dJ6_bitCount_0f7a4_2 (by decide) ?_
  refine lv_iushr (v := (si_ushr x0 1)) X.1 X.2.1 dJ6_bitCount_0f7a4_3 rfl ?_
  refine lv_ldcw (v := 1431655765) X.1 X.2.1 X.2.2.2.1 (si_wd X gk_RJ6_265) dJ6_bitCount_0f7a4_4 ?_
  refine lv_iand X.1 X.2.1 dJ6_bitCount_0f7a4_7 ?_
  refine lv_isub X.1 X.2.1 dJ6_bitCount_0f7a4_8 ?_
  obtain ⟨v1, ev1, hf⟩ := si_ob hf
  refine si_nmI ev1 ?_
  refine lv_istore_n (lv' := [(0, .int v1)]) X.1 X.2.1 dJ6_bitCount_0f7a4_9 rfl hl (by decide) rfl (fun ls hl => ?_)
  refine lv_iload_n X.1 X.2.1 dJ6_bitCount_0f7a4_10 rfl (lv_at hl 0 rfl) ?_
  refine lv_ldcw (v := 858993459) X.1 X.2.1 X.2.2.2.1 (si_wd X gk_RJ6_266) dJ6_bitCount_0f7a4_11 ?_
  refine lv_iand X.1 X.2.1 dJ6_bitCount_0f7a4_14 ?_
  refine lv_iload_n X.1 X.2.1 dJ6_bitCount_0f7a4_15 rfl (lv_at hl 0 rfl) ?_
  refine lv_iconst (v := 2) X.1 X.2.1 dJ6_bitCount_0f7a4_16 (by decide) ?_
  refine lv_iushr (v := (si_ushr v1 2)) X.1 X.2.1 dJ6_bitCount_0f7a4_17 rfl ?_
  refine lv_ldcw (v := 858993459) X.1 X.2.1 X.2.2.2.1 (si_wd X gk_RJ6_266) dJ6_bitCount_0f7a4_18 ?_
  refine lv_iand X.1 X.2.1 dJ6_bitCount_0f7a4_21 ?_
  refine lv_iadd X.1 X.2.1 dJ6_bitCount_0f7a4_22 ?_
  obtain ⟨v2, ev2, hf⟩ := si_ob hf
  refine si_nmI ev2 ?_
  refine lv_istore_n (lv' := [(0, .int v2)]) X.1 X.2.1 dJ6_bitCount_0f7a4_23 rfl hl (by decide) rfl (fun ls hl => ?_)
  refine lv_iload_n X.1 X.2.1 dJ6_bitCount_0f7a4_24 rfl (lv_at hl 0 rfl) ?_
  refine lv_iload_n X.1 X.2.1 dJ6_bitCount_0f7a4_25 rfl (lv_at hl 0 rfl) ?_
  refine lv_iconst (v := 4) X.1 X.2.1 dJ6_bitCount_0f7a4_26 (by decide) ?_
  refine lv_iushr (v := (si_ushr v2 4)) X.1 X.2.1 dJ6_bitCount_0f7a4_27 rfl ?_
  refine lv_iadd X.1 X.2.1 dJ6_bitCount_0f7a4_28 ?_
  refine lv_ldcw (v := 252645135) X.1 X.2.1 X.2.2.2.1 (si_wd X gk_RJ6_267) dJ6_bitCount_0f7a4_29 ?_
  refine lv_iand X.1 X.2.1 dJ6_bitCount_0f7a4_32 ?_
  obtain ⟨v3, ev3, hf⟩ := si_ob hf
  refine si_nmI ev3 ?_
  refine lv_istore_n (lv' := [(0, .int v3)]) X.1 X.2.1 dJ6_bitCount_0f7a4_33 rfl hl (by decide) rfl (fun ls hl => ?_)
  refine lv_iload_n X.1 X.2.1 dJ6_bitCount_0f7a4_34 rfl (lv_at hl 0 rfl) ?_
  refine lv_iload_n X.1 X.2.1 dJ6_bitCount_0f7a4_35 rfl (lv_at hl 0 rfl) ?_
  refine lv_bipush (v := 8) X.1 X.2.1 dJ6_bitCount_0f7a4_36 (by decide) ?_
  refine lv_iushr (v := (si_ushr v3 8)) X.1 X.2.1 dJ6_bitCount_0f7a4_38 rfl ?_
  refine lv_iadd X.1 X.2.1 dJ6_bitCount_0f7a4_39 ?_
  obtain ⟨v4, ev4, hf⟩ := si_ob hf
  refine si_nmI ev4 ?_
  refine lv_istore_n (lv' := [(0, .int v4)]) X.1 X.2.1 dJ6_bitCount_0f7a4_40 rfl hl (by decide) rfl (fun ls hl => ?_)
  refine lv_iload_n X.1 X.2.1 dJ6_bitCount_0f7a4_41 rfl (lv_at hl 0 rfl) ?_
  refine lv_iload_n X.1 X.2.1 dJ6_bitCount_0f7a4_42 rfl (lv_at hl 0 rfl) ?_
  refine lv_bipush (v := 16) X.1 X.2.1 dJ6_bitCount_0f7a4_43 (by decide) ?_
  refine lv_iushr (v := (si_ushr v4 16)) X.1 X.2.1 dJ6_bitCount_0f7a4_45 rfl ?_
  refine lv_iadd X.1 X.2.1 dJ6_bitCount_0f7a4_46 ?_
  obtain ⟨v5, ev5, hf⟩ := si_ob hf
  refine si_nmI ev5 ?_
  refine lv_istore_n (lv' := [(0, .int v5)]) X.1 X.2.1 dJ6_bitCount_0f7a4_47 rfl hl (by decide) rfl (fun ls hl => ?_)
  refine lv_iload_n X.1 X.2.1 dJ6_bitCount_0f7a4_48 rfl (lv_at hl 0 rfl) ?_
  refine lv_bipush (v := 63) X.1 X.2.1 dJ6_bitCount_0f7a4_49 (by decide) ?_
  refine lv_iand X.1 X.2.1 dJ6_bitCount_0f7a4_51 ?_
  exact hret _ _ _ _ _ _ hf hw dJ6_bitCount_0f7a4_52
abbrev rm_J7_fill_53178 : Room := { frames := 0, cells := 0, slots := 0, locals := 0 }
set_option maxHeartbeats 4000000 in
set_option maxRecDepth 100000 in
theorem c_J7_fill_53178 (l : Launch) (E : si_Ev) (F : Nat) (k0 : Nat) (hk0 : si_kd k0 = 12) (x1 : Int32) (S : si_St) (o : si_St) (hf : f_J7_fill_53178 F k0 x1 S = some o) : si_Mv l E yJ7_fill_53178 cJ7_fill_53178 4 rm_J7_fill_53178 [.ref (E.2.1 k0), .int x1] S o := by
  refine si_ofWv (plainFor_of_name (by decide +kernel)) (Nat.le_of_ble_eq_true rfl) ?_
  intro p e s m args below meth c ls Q A X hw hA hl hret
  have hl : lv_has ls 4 [(0, .ref (E.2.1 k0)), (1, .int x1)] := hl
  have B5 : ∀ (n5 : Nat) (x1 : Int32) (x2 : Int32) (x3 : Int32) (S : si_St) (H : Heap) (locs : List Loc) (ls : Array Slot), f_J7_fill_53178_l5 F k0 n5 x1 x2 x3 S = some o → si_Ws E A s.heap S H locs → lv_has ls 4 [(0, .ref (E.2.1 k0)), (1, .int x1), (2, .int x2), (3, .int x3)] → W p l e rm_J7_fill_53178 s m args below meth c H locs 0 0 Q (F0 m 5 ls []) := by
    intro n5
    induction n5 with
    | zero => intro x1 x2 x3  S H locs ls hf; cases hf
    | succ n5 ih5 =>
      intro x1 x2 x3  S H locs ls hf hw hl
      have hf : f_J7_fill_53178_h5 F k0 (f_J7_fill_53178_l5 F k0 n5) x1 x2 x3 S = some o := hf
      unfold f_J7_fill_53178_h5 at hf
      refine lv_iload_n X.1 X.2.1 dJ7_fill_53178_5 rfl (lv_at hl 2 rfl) ?_
      refine lv_iload_n X.1 X.2.1 dJ7_fill_53178_6 rfl (lv_at hl 3 rfl) ?_
      refine lv_icmp_ge (tgt := 20) X.1 X.2.1 dJ7_fill_53178_7 (by decide) (fun c7 => ?_) (fun c7 => ?_)
      · have hf := si_ip c7 hf
        exact hret _ _ _ _ _ hf hw dJ7_fill_53178_20
      · have hf := si_in c7 hf
        refine lv_aload_n X.1 X.2.1 dJ7_fill_53178_10 rfl (lv_at hl 0 rfl) ?_
        refine lv_iload_n X.1 X.2.1 dJ7_fill_53178_11 rfl (lv_at hl 2 rfl) ?_
        refine lv_iload_n X.1 X.2.1 dJ7_fill_53178_12 rfl (lv_at hl 1 rfl) ?_
        obtain ⟨S1, eS1, hf⟩ := si_ob hf
        refine si_iast X hw hk0 eS1 dJ7_fill_53178_13 (fun H locs hw => ?_)
        obtain ⟨v2, ev2, hf⟩ := si_ob hf
        refine lv_iinc (v := v2) (lv' := [(2, .int v2), (0, .ref (E.2.1 k0)), (1, .int x1), (3, .int x3)]) X.1 X.2.1 dJ7_fill_53178_14 hl (k := 2) rfl (Option.some.inj ev2) (by decide) rfl (fun ls hl => ?_)
        refine lv_goto (tgt := 5) X.1 X.2.1 dJ7_fill_53178_17 (by decide) ?_
        exact ih5 _ _ _ _ _ _ _ hf hw (lv_sub hl [1, 2, 0, 3] rfl)
  unfold f_J7_fill_53178 at hf
  refine lv_iconst (v := 0) X.1 X.2.1 dJ7_fill_53178_0 (by decide) ?_
  refine lv_istore_n (lv' := [(2, .int 0), (0, .ref (E.2.1 k0)), (1, .int x1)]) X.1 X.2.1 dJ7_fill_53178_1 rfl hl (by decide) rfl (fun ls hl => ?_)
  refine lv_aload_n X.1 X.2.1 dJ7_fill_53178_2 rfl (lv_at hl 1 rfl) ?_
  refine si_alen X hw hk0 rfl dJ7_fill_53178_3 ?_
  obtain ⟨v3, ev3, hf⟩ := si_ob hf
  refine si_nmI ev3 ?_
  refine lv_istore_n (lv' := [(3, .int v3), (2, .int 0), (0, .ref (E.2.1 k0)), (1, .int x1)]) X.1 X.2.1 dJ7_fill_53178_4 rfl hl (by decide) rfl (fun ls hl => ?_)
  exact B5 F _ _ _ _ _ _ _ hf hw (lv_sub hl [2, 3, 1, 0] rfl)
abbrev rm_J0_coder_7d493 : Room := { frames := 0, cells := 0, slots := 0, locals := 0 }
set_option maxHeartbeats 4000000 in
set_option maxRecDepth 100000 in
theorem c_J0_coder_7d493 (l : Launch) (E : si_Ev) (F : Nat) (g0 : Nat) (hg0 : g0 < 17) (S : si_St) (o : Int32 × si_St) (hf : f_J0_coder_7d493 F g0 S = some o) : si_Mi l E yJ0_coder_7d493 cJ0_coder_7d493 1 (some .byte) rm_J0_coder_7d493 [.ref (E.2.2.2.1 g0)] S o := by
  refine si_ofWz (plainFor_of_name (by decide +kernel)) (Nat.le_of_ble_eq_true rfl) ?_
  intro p e s m args below meth c ls Q A X hw hA hl hret
  have hl : lv_has ls 1 [(0, .ref (E.2.2.2.1 g0))] := hl
  unfold f_J0_coder_7d493 at hf
  refine si_gsC X hw.2.2 gf_RJ0_38 dJ0_coder_7d493_0 ?_
  refine lv_if_eq (tgt := 13) X.1 X.2.1 dJ0_coder_7d493_3 (by decide) (fun c3 => ?_) (fun c3 => ?_)
  · have hf := si_ip c3 hf
    cases hf
  · have hf := si_in c3 hf
    refine lv_aload_n X.1 X.2.1 dJ0_coder_7d493_6 rfl (lv_at hl 0 rfl) ?_
    refine si_strcoder X hw.2.2 hg0 gf_RJ0_15 dJ0_coder_7d493_7 ?_
    refine lv_goto (tgt := 14) X.1 X.2.1 dJ0_coder_7d493_10 (by decide) ?_
    obtain ⟨v1, ev1, hf⟩ := si_ob hf
    exact hret _ _ _ _ _ _ (si_gnf ev1 hf) (si_gnn ev1) hw dJ0_coder_7d493_14
abbrev rm_J0_length_8abf5 : Room := { frames := 1, cells := 0, slots := 0, locals := 20 }
set_option maxHeartbeats 4000000 in
set_option maxRecDepth 100000 in
theorem c_J0_length_8abf5 (l : Launch) (E : si_Ev) (F : Nat) (g0 : Nat) (hg0 : g0 < 17) (S : si_St) (o : Int32 × si_St) (hf : f_J0_length_8abf5 F g0 S = some o) : si_Mi l E yJ0_length_8abf5 cJ0_length_8abf5 1 (some .int) rm_J0_length_8abf5 [.ref (E.2.2.2.1 g0)] S o := by
  refine si_ofWi (plainFor_of_name (by decide +kernel)) (Nat.le_of_ble_eq_true rfl) ?_
  intro p e s m args below meth c ls Q A X hw hA hl hret
  have hl : lv_has ls 1 [(0, .ref (E.2.2.2.1 g0))] := hl
  unfold f_J0_length_8abf5 at hf
  refine lv_aload_n X.1 X.2.1 dJ0_length_8abf5_0 rfl (lv_at hl 0 rfl) ?_
  refine si_strvalue X hw.2.2 hg0 gf_RJ0_9 dJ0_length_8abf5_1 ?_
  refine si_strl X hw.2.2 hg0 dJ0_length_8abf5_4 ?_
  refine lv_aload_n X.1 X.2.1 dJ0_length_8abf5_5 rfl (lv_at hl 0 rfl) ?_
  obtain ⟨q1, eq1, hf⟩ := si_ob hf
  refine si_cVS [] cal_J0_coder_7d493 gm_RJ0_335 X hw hA hl.1 (c_J0_coder_7d493 l E F g0 hg0 S q1 eq1) hg0 ⟨⟨rfl, rfl⟩, Nat.le_of_ble_eq_true rfl, Nat.le_of_ble_eq_true rfl⟩ rfl rfl (Nat.le_of_ble_eq_true rfl) ⟨Nat.zero_le _, Nat.zero_le _⟩ dJ0_length_8abf5_6 (fun H locs hw => ?_)
  refine lv_ishr X.1 X.2.1 dJ0_length_8abf5_9 ?_
  exact hret _ _ _ _ _ _ hf hw dJ0_length_8abf5_10
abbrev rm_J0_isLatin1_aae02 : Room := { frames := 0, cells := 0, slots := 0, locals := 0 }
set_option maxHeartbeats 4000000 in
set_option maxRecDepth 100000 in
theorem c_J0_isLatin1_aae02 (l : Launch) (E : si_Ev) (F : Nat) (g0 : Nat) (hg0 : g0 < 17) (S : si_St) (o : Int32 × si_St) (hf : f_J0_isLatin1_aae02 F g0 S = some o) : si_Mi l E yJ0_isLatin1_aae02 cJ0_isLatin1_aae02 1 (some .boolean) rm_J0_isLatin1_aae02 [.ref (E.2.2.2.1 g0)] S o := by
  refine si_ofWz (plainFor_of_name (by decide +kernel)) (Nat.le_of_ble_eq_true rfl) ?_
  intro p e s m args below meth c ls Q A X hw hA hl hret
  have hl : lv_has ls 1 [(0, .ref (E.2.2.2.1 g0))] := hl
  have B18 : ∀ (t0 : Int32) (S : si_St) (H : Heap) (locs : List Loc) (ls : Array Slot), f_J0_isLatin1_aae02_h18 F g0 t0 S = some o → si_Ws E A s.heap S H locs → lv_has ls 1 [] → W p l e rm_J0_isLatin1_aae02 s m args below meth c H locs 0 0 Q (F0 m 18 ls [.int t0]) := by
    intro t0  S H locs ls hf hw hl
    unfold f_J0_isLatin1_aae02_h18 at hf
    obtain ⟨v1, ev1, hf⟩ := si_ob hf
    exact hret _ _ _ _ _ _ (si_bzf ev1 hf) (si_nz (si_bz_inv ev1).1) hw dJ0_isLatin1_aae02_18
  have B17 : ∀ (S : si_St) (H : Heap) (locs : List Loc) (ls : Array Slot), f_J0_isLatin1_aae02_h17 F g0 S = some o → si_Ws E A s.heap S H locs → lv_has ls 1 [] → W p l e rm_J0_isLatin1_aae02 s m args below meth c H locs 0 0 Q (F0 m 17 ls []) := by
    intro   S H locs ls hf hw hl
    unfold f_J0_isLatin1_aae02_h17 at hf
    refine lv_iconst (v := 0) X.1 X.2.1 dJ0_isLatin1_aae02_17 (by decide) ?_
    exact B18 _ _ _ _ _ hf hw (lv_sub hl [] rfl)
  unfold f_J0_isLatin1_aae02 at hf
  refine si_gsC X hw.2.2 gf_RJ0_38 dJ0_isLatin1_aae02_0 ?_
  refine lv_if_eq (tgt := 17) X.1 X.2.1 dJ0_isLatin1_aae02_3 (by decide) (fun c3 => ?_) (fun c3 => ?_)
  · have hf := si_ip c3 hf
    exact B17 _ _ _ _ hf hw (lv_sub hl [] rfl)
  · have hf := si_in c3 hf
    refine lv_aload_n X.1 X.2.1 dJ0_isLatin1_aae02_6 rfl (lv_at hl 0 rfl) ?_
    refine si_strcoder X hw.2.2 hg0 gf_RJ0_15 dJ0_isLatin1_aae02_7 ?_
    refine lv_if_ne (tgt := 17) X.1 X.2.1 dJ0_isLatin1_aae02_10 (by decide) (fun c10 => ?_) (fun c10 => ?_)
    · have hf := si_in c10 hf
      exact B17 _ _ _ _ hf hw (lv_sub hl [] rfl)
    · have hf := si_ip c10 hf
      refine lv_iconst (v := 1) X.1 X.2.1 dJ0_isLatin1_aae02_13 (by decide) ?_
      refine lv_goto (tgt := 18) X.1 X.2.1 dJ0_isLatin1_aae02_14 (by decide) ?_
      exact B18 _ _ _ _ _ hf hw (lv_sub hl [] rfl)
abbrev rm_J3_checkIndex_8e157 : Room := { frames := 0, cells := 0, slots := 0, locals := 0 }
set_option maxHeartbeats 4000000 in
set_option maxRecDepth 100000 in
theorem c_J3_checkIndex_8e157 (l : Launch) (E : si_Ev) (F : Nat) (z2 : Nat) (hz2 : True) (x0 : Int32) (x1 : Int32) (S : si_St) (o : Int32 × si_St) (hf : f_J3_checkIndex_8e157 F x0 x1 S = some o) : si_Mi l E yJ3_checkIndex_8e157 cJ3_checkIndex_8e157 3 (some .int) rm_J3_checkIndex_8e157 [.int x0, .int x1, .ref z2] S o := by
  refine si_ofWi (plainFor_of_name (by decide +kernel)) (Nat.le_of_ble_eq_true rfl) ?_
  intro p e s m args below meth c ls Q A X hw hA hl hret
  have hl : lv_has ls 3 [(0, .int x0), (1, .int x1), (2, .ref z2)] := hl
  unfold f_J3_checkIndex_8e157 at hf
  refine lv_iload_n X.1 X.2.1 dJ3_checkIndex_8e157_0 rfl (lv_at hl 0 rfl) ?_
  refine lv_if_lt (tgt := 9) X.1 X.2.1 dJ3_checkIndex_8e157_1 (by decide) (fun c1 => ?_) (fun c1 => ?_)
  · have hf := si_ip c1 hf
    cases hf
  · have hf := si_in c1 hf
    refine lv_iload_n X.1 X.2.1 dJ3_checkIndex_8e157_4 rfl (lv_at hl 0 rfl) ?_
    refine lv_iload_n X.1 X.2.1 dJ3_checkIndex_8e157_5 rfl (lv_at hl 1 rfl) ?_
    refine lv_icmp_lt (tgt := 16) X.1 X.2.1 dJ3_checkIndex_8e157_6 (by decide) (fun c6 => ?_) (fun c6 => ?_)
    · have hf := si_ip c6 hf
      refine lv_iload_n X.1 X.2.1 dJ3_checkIndex_8e157_16 rfl (lv_at hl 0 rfl) ?_
      exact hret _ _ _ _ _ _ hf hw dJ3_checkIndex_8e157_17
    · have hf := si_in c6 hf
      cases hf
set_option maxHeartbeats 4000000 in
set_option maxRecDepth 100000 in
theorem c_J3_checkIndex_8e157_n (l : Launch) (E : si_Ev) (F : Nat)   (x0 : Int32) (x1 : Int32) (S : si_St) (o : Int32 × si_St) (hf : f_J3_checkIndex_8e157 F x0 x1 S = some o) : si_Mi l E yJ3_checkIndex_8e157 cJ3_checkIndex_8e157 3 (some .int) rm_J3_checkIndex_8e157 [.int x0, .int x1, .null] S o := by
  refine si_ofWi (plainFor_of_name (by decide +kernel)) (Nat.le_of_ble_eq_true rfl) ?_
  intro p e s m args below meth c ls Q A X hw hA hl hret
  have hl : lv_has ls 3 [(0, .int x0), (1, .int x1), (2, .null)] := hl
  unfold f_J3_checkIndex_8e157 at hf
  refine lv_iload_n X.1 X.2.1 dJ3_checkIndex_8e157_0 rfl (lv_at hl 0 rfl) ?_
  refine lv_if_lt (tgt := 9) X.1 X.2.1 dJ3_checkIndex_8e157_1 (by decide) (fun c1 => ?_) (fun c1 => ?_)
  · have hf := si_ip c1 hf
    cases hf
  · have hf := si_in c1 hf
    refine lv_iload_n X.1 X.2.1 dJ3_checkIndex_8e157_4 rfl (lv_at hl 0 rfl) ?_
    refine lv_iload_n X.1 X.2.1 dJ3_checkIndex_8e157_5 rfl (lv_at hl 1 rfl) ?_
    refine lv_icmp_lt (tgt := 16) X.1 X.2.1 dJ3_checkIndex_8e157_6 (by decide) (fun c6 => ?_) (fun c6 => ?_)
    · have hf := si_ip c6 hf
      refine lv_iload_n X.1 X.2.1 dJ3_checkIndex_8e157_16 rfl (lv_at hl 0 rfl) ?_
      exact hret _ _ _ _ _ _ hf hw dJ3_checkIndex_8e157_17
    · have hf := si_in c6 hf
      cases hf
abbrev rm_J0_checkIndex_df160 : Room := { frames := 1, cells := 0, slots := 0, locals := 22 }
set_option maxHeartbeats 4000000 in
set_option maxRecDepth 100000 in
theorem c_J0_checkIndex_df160 (l : Launch) (E : si_Ev) (F : Nat) (x0 : Int32) (x1 : Int32) (S : si_St) (o : si_St) (hf : f_J0_checkIndex_df160 F x0 x1 S = some o) : si_Mv l E yJ0_checkIndex_df160 cJ0_checkIndex_df160 2 rm_J0_checkIndex_df160 [.int x0, .int x1] S o := by
  refine si_ofWv (plainFor_of_name (by decide +kernel)) (Nat.le_of_ble_eq_true rfl) ?_
  intro p e s m args below meth c ls Q A X hw hA hl hret
  have hl : lv_has ls 2 [(0, .int x0), (1, .int x1)] := hl
  unfold f_J0_checkIndex_df160 at hf
  refine lv_iload_n X.1 X.2.1 dJ0_checkIndex_df160_0 rfl (lv_at hl 0 rfl) ?_
  refine lv_iload_n X.1 X.2.1 dJ0_checkIndex_df160_1 rfl (lv_at hl 1 rfl) ?_
  obtain ⟨z9, hz9, hr9, -⟩ := X.2.2.2.2.2.2.2.2.2
  rcases hr9 with rfl | ⟨z9, rfl⟩
  · refine si_gsS X hw.2.2 hz9 gf_RJ0_1053 dJ0_checkIndex_df160_2 ?_
    obtain ⟨q1, eq1, hf⟩ := si_ob hf
    refine si_cSi [.int x0, .int x1, .null] cal_J3_checkIndex_8e157 gm_RJ0_1059 X hw hA hl.1 (c_J3_checkIndex_8e157_n l E F x0 x1 S q1 eq1) ⟨⟨rfl, rfl⟩, Nat.le_of_ble_eq_true rfl, Nat.le_of_ble_eq_true rfl⟩ rfl rfl (Nat.le_of_ble_eq_true rfl) ⟨Nat.zero_le _, Nat.zero_le _⟩ dJ0_checkIndex_df160_5 (fun H locs hw => ?_)
    refine lv_pop X.1 X.2.1 dJ0_checkIndex_df160_8 rfl ?_
    exact hret _ _ _ _ _ hf hw dJ0_checkIndex_df160_9
  · refine si_gsS X hw.2.2 hz9 gf_RJ0_1053 dJ0_checkIndex_df160_2 ?_
    obtain ⟨q1, eq1, hf⟩ := si_ob hf
    refine si_cSi [.int x0, .int x1, .ref z9] cal_J3_checkIndex_8e157 gm_RJ0_1059 X hw hA hl.1 (c_J3_checkIndex_8e157 l E F z9 trivial x0 x1 S q1 eq1) ⟨⟨rfl, rfl⟩, Nat.le_of_ble_eq_true rfl, Nat.le_of_ble_eq_true rfl⟩ rfl rfl (Nat.le_of_ble_eq_true rfl) ⟨Nat.zero_le _, Nat.zero_le _⟩ dJ0_checkIndex_df160_5 (fun H locs hw => ?_)
    refine lv_pop X.1 X.2.1 dJ0_checkIndex_df160_8 rfl ?_
    exact hret _ _ _ _ _ hf hw dJ0_checkIndex_df160_9
abbrev rm_J1_charAt_3b067 : Room := { frames := 2, cells := 0, slots := 0, locals := 43 }
set_option maxHeartbeats 4000000 in
set_option maxRecDepth 100000 in
theorem c_J1_charAt_3b067 (l : Launch) (E : si_Ev) (F : Nat) (g0 : Nat) (hg0 : g0 < 17) (x1 : Int32) (S : si_St) (o : Int32 × si_St) (hf : f_J1_charAt_3b067 F g0 x1 S = some o) : si_Mi l E yJ1_charAt_3b067 cJ1_charAt_3b067 2 (some .char) rm_J1_charAt_3b067 [.ref (E.2.2.2.2 g0), .int x1] S o := by
  refine si_ofWz (plainFor_of_name (by decide +kernel)) (Nat.le_of_ble_eq_true rfl) ?_
  intro p e s m args below meth c ls Q A X hw hA hl hret
  have hl : lv_has ls 2 [(0, .ref (E.2.2.2.2 g0)), (1, .int x1)] := hl
  unfold f_J1_charAt_3b067 at hf
  refine lv_iload_n X.1 X.2.1 dJ1_charAt_3b067_0 rfl (lv_at hl 1 rfl) ?_
  refine lv_aload_n X.1 X.2.1 dJ1_charAt_3b067_1 rfl (lv_at hl 0 rfl) ?_
  refine si_strl X hw.2.2 hg0 dJ1_charAt_3b067_2 ?_
  obtain ⟨S1, eS1, hf⟩ := si_ob hf
  refine si_cSv [.int x1, .int (si_sl g0)] cal_J0_checkIndex_df160 gm_RJ1_9 X hw hA hl.1 (c_J0_checkIndex_df160 l E F x1 (si_sl g0) S S1 eS1) ⟨⟨rfl, rfl⟩, Nat.le_of_ble_eq_true rfl, Nat.le_of_ble_eq_true rfl⟩ rfl rfl (Nat.le_of_ble_eq_true rfl) ⟨Nat.zero_le _, Nat.zero_le _⟩ dJ1_charAt_3b067_3 (fun H locs hw => ?_)
  refine lv_aload_n X.1 X.2.1 dJ1_charAt_3b067_6 rfl (lv_at hl 0 rfl) ?_
  refine lv_iload_n X.1 X.2.1 dJ1_charAt_3b067_7 rfl (lv_at hl 1 rfl) ?_
  obtain ⟨v2, ev2, hf⟩ := si_ob hf
  refine si_strb X hw.2.2 hg0 ev2 dJ1_charAt_3b067_8 ?_
  refine lv_sipush (v := 255) X.1 X.2.1 dJ1_charAt_3b067_9 (by decide) ?_
  refine lv_iand X.1 X.2.1 dJ1_charAt_3b067_12 ?_
  refine lv_i2c (v := (si_i2c (v2 &&& 255))) X.1 X.2.1 dJ1_charAt_3b067_13 rfl ?_
  obtain ⟨v3, ev3, hf⟩ := si_ob hf
  exact hret _ _ _ _ _ _ (si_gnf ev3 hf) (si_gnn ev3) hw dJ1_charAt_3b067_14
abbrev rm_J0_charAt_5068e : Room := { frames := 3, cells := 0, slots := 0, locals := 64 }
set_option maxHeartbeats 4000000 in
set_option maxRecDepth 100000 in
theorem c_J0_charAt_5068e (l : Launch) (E : si_Ev) (F : Nat) (g0 : Nat) (hg0 : g0 < 17) (x1 : Int32) (S : si_St) (o : Int32 × si_St) (hf : f_J0_charAt_5068e F g0 x1 S = some o) : si_Mi l E yJ0_charAt_5068e cJ0_charAt_5068e 2 (some .char) rm_J0_charAt_5068e [.ref (E.2.2.2.1 g0), .int x1] S o := by
  refine si_ofWz (plainFor_of_name (by decide +kernel)) (Nat.le_of_ble_eq_true rfl) ?_
  intro p e s m args below meth c ls Q A X hw hA hl hret
  have hl : lv_has ls 2 [(0, .ref (E.2.2.2.1 g0)), (1, .int x1)] := hl
  unfold f_J0_charAt_5068e at hf
  refine lv_aload_n X.1 X.2.1 dJ0_charAt_5068e_0 rfl (lv_at hl 0 rfl) ?_
  obtain ⟨q1, eq1, hf⟩ := si_ob hf
  refine si_cVS [] cal_J0_isLatin1_aae02 gm_RJ0_492 X hw hA hl.1 (c_J0_isLatin1_aae02 l E F g0 hg0 S q1 eq1) hg0 ⟨⟨rfl, rfl⟩, Nat.le_of_ble_eq_true rfl, Nat.le_of_ble_eq_true rfl⟩ rfl rfl (Nat.le_of_ble_eq_true rfl) ⟨Nat.zero_le _, Nat.zero_le _⟩ dJ0_charAt_5068e_1 (fun H locs hw => ?_)
  refine lv_if_eq (tgt := 16) X.1 X.2.1 dJ0_charAt_5068e_4 (by decide) (fun c4 => ?_) (fun c4 => ?_)
  · have hf := si_ip c4 hf
    cases hf
  · have hf := si_in c4 hf
    refine lv_aload_n X.1 X.2.1 dJ0_charAt_5068e_7 rfl (lv_at hl 0 rfl) ?_
    refine si_strvalue X hw.2.2 hg0 gf_RJ0_9 dJ0_charAt_5068e_8 ?_
    refine lv_iload_n X.1 X.2.1 dJ0_charAt_5068e_11 rfl (lv_at hl 1 rfl) ?_
    obtain ⟨q2, eq2, hf⟩ := si_ob hf
    refine si_cSi [.ref (E.2.2.2.2 g0), .int x1] cal_J1_charAt_3b067 gm_RJ0_495 X hw hA hl.1 (c_J1_charAt_3b067 l E F g0 hg0 x1 q1.2 q2 eq2) ⟨⟨rfl, rfl⟩, Nat.le_of_ble_eq_true rfl, Nat.le_of_ble_eq_true rfl⟩ rfl rfl (Nat.le_of_ble_eq_true rfl) ⟨Nat.zero_le _, Nat.zero_le _⟩ dJ0_charAt_5068e_12 (fun H locs hw => ?_)
    obtain ⟨v3, ev3, hf⟩ := si_ob hf
    exact hret _ _ _ _ _ _ (si_gnf ev3 hf) (si_gnn ev3) hw dJ0_charAt_5068e_15

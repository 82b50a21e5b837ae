theorem dX10_last_0 : decode cX10_last 0 = .ok (.bipush (-2), 2) := by decide +kernel
theorem dX10_last_2 : decode cX10_last 2 = .ok (.istore_n 3, 1) := by decide +kernel
theorem dX10_last_3 : decode cX10_last 3 = .ok (.iconst 0, 1) := by decide +kernel
theorem dX10_last_4 : decode cX10_last 4 = .ok (.istore 4, 2) := by decide +kernel
theorem dX10_last_6 : decode cX10_last 6 = .ok (.iload 4, 2) := by decide +kernel
theorem dX10_last_8 : decode cX10_last 8 = .ok (.aload_n 0, 1) := by decide +kernel
theorem dX10_last_9 : decode cX10_last 9 = .ok (.getfield 13, 3) := by decide +kernel
theorem dX10_last_12 : decode cX10_last 12 = .ok (.iconst 0, 1) := by decide +kernel
theorem dX10_last_13 : decode cX10_last 13 = .ok (.iaload, 1) := by decide +kernel
theorem dX10_last_14 : decode cX10_last 14 = .ok (.if_icmp .ge 57, 3) := by decide +kernel
theorem dX10_last_17 : decode cX10_last 17 = .ok (.aload_n 0, 1) := by decide +kernel
theorem dX10_last_18 : decode cX10_last 18 = .ok (.getfield 13, 3) := by decide +kernel
theorem dX10_last_21 : decode cX10_last 21 = .ok (.iconst 1, 1) := by decide +kernel
theorem dX10_last_22 : decode cX10_last 22 = .ok (.iload 4, 2) := by decide +kernel
theorem dX10_last_24 : decode cX10_last 24 = .ok (.iadd, 1) := by decide +kernel
theorem dX10_last_25 : decode cX10_last 25 = .ok (.iaload, 1) := by decide +kernel
theorem dX10_last_26 : decode cX10_last 26 = .ok (.iload_n 1, 1) := by decide +kernel
theorem dX10_last_27 : decode cX10_last 27 = .ok (.if_icmp .ne 36, 3) := by decide +kernel
theorem dX10_last_30 : decode cX10_last 30 = .ok (.aload_n 0, 1) := by decide +kernel
theorem dX10_last_31 : decode cX10_last 31 = .ok (.getfield 13, 3) := by decide +kernel
theorem dX10_last_34 : decode cX10_last 34 = .ok (.bipush 61, 2) := by decide +kernel
theorem dX10_last_36 : decode cX10_last 36 = .ok (.iload 4, 2) := by decide +kernel
theorem dX10_last_38 : decode cX10_last 38 = .ok (.iadd, 1) := by decide +kernel
theorem dX10_last_39 : decode cX10_last 39 = .ok (.iaload, 1) := by decide +kernel
theorem dX10_last_40 : decode cX10_last 40 = .ok (.iconst 1, 1) := by decide +kernel
theorem dX10_last_41 : decode cX10_last 41 = .ok (.if_icmp .ne 22, 3) := by decide +kernel
theorem dX10_last_44 : decode cX10_last 44 = .ok (.aload_n 0, 1) := by decide +kernel
theorem dX10_last_45 : decode cX10_last 45 = .ok (.getfield 13, 3) := by decide +kernel
theorem dX10_last_48 : decode cX10_last 48 = .ok (.bipush 31, 2) := by decide +kernel
theorem dX10_last_50 : decode cX10_last 50 = .ok (.iload 4, 2) := by decide +kernel
theorem dX10_last_52 : decode cX10_last 52 = .ok (.iadd, 1) := by decide +kernel
theorem dX10_last_53 : decode cX10_last 53 = .ok (.iaload, 1) := by decide +kernel
theorem dX10_last_54 : decode cX10_last 54 = .ok (.iload_n 2, 1) := by decide +kernel
theorem dX10_last_55 : decode cX10_last 55 = .ok (.if_icmp .gt 8, 3) := by decide +kernel
theorem dX10_last_58 : decode cX10_last 58 = .ok (.iload 4, 2) := by decide +kernel
theorem dX10_last_60 : decode cX10_last 60 = .ok (.goto 4, 3) := by decide +kernel
theorem dX10_last_63 : decode cX10_last 63 = .ok (.iload_n 3, 1) := by decide +kernel
theorem dX10_last_64 : decode cX10_last 64 = .ok (.istore_n 3, 1) := by decide +kernel
theorem dX10_last_65 : decode cX10_last 65 = .ok (.iinc 4 1, 3) := by decide +kernel
theorem dX10_last_68 : decode cX10_last 68 = .ok (.goto (-62), 3) := by decide +kernel
theorem dX10_last_71 : decode cX10_last 71 = .ok (.iload_n 3, 1) := by decide +kernel
theorem dX10_last_72 : decode cX10_last 72 = .ok (.ireturn, 1) := by decide +kernel
theorem dX10_expires_0 : decode cX10_expires 0 = .ok (.aload_n 0, 1) := by decide +kernel
theorem dX10_expires_1 : decode cX10_expires 1 = .ok (.getfield 13, 3) := by decide +kernel
theorem dX10_expires_4 : decode cX10_expires 4 = .ok (.bipush 31, 2) := by decide +kernel
theorem dX10_expires_6 : decode cX10_expires 6 = .ok (.iload_n 1, 1) := by decide +kernel
theorem dX10_expires_7 : decode cX10_expires 7 = .ok (.iadd, 1) := by decide +kernel
theorem dX10_expires_8 : decode cX10_expires 8 = .ok (.iaload, 1) := by decide +kernel
theorem dX10_expires_9 : decode cX10_expires 9 = .ok (.sipush 360, 3) := by decide +kernel
theorem dX10_expires_12 : decode cX10_expires 12 = .ok (.idiv, 1) := by decide +kernel
theorem dX10_expires_13 : decode cX10_expires 13 = .ok (.aload_n 0, 1) := by decide +kernel
theorem dX10_expires_14 : decode cX10_expires 14 = .ok (.getfield 39, 3) := by decide +kernel
theorem dX10_expires_17 : decode cX10_expires 17 = .ok (.aload_n 0, 1) := by decide +kernel
theorem dX10_expires_18 : decode cX10_expires 18 = .ok (.getfield 20, 3) := by decide +kernel
theorem dX10_expires_21 : decode cX10_expires 21 = .ok (.aload_n 0, 1) := by decide +kernel
theorem dX10_expires_22 : decode cX10_expires 22 = .ok (.getfield 13, 3) := by decide +kernel
theorem dX10_expires_25 : decode cX10_expires 25 = .ok (.iconst 1, 1) := by decide +kernel
theorem dX10_expires_26 : decode cX10_expires 26 = .ok (.iload_n 1, 1) := by decide +kernel
theorem dX10_expires_27 : decode cX10_expires 27 = .ok (.iadd, 1) := by decide +kernel
theorem dX10_expires_28 : decode cX10_expires 28 = .ok (.iaload, 1) := by decide +kernel
theorem dX10_expires_29 : decode cX10_expires 29 = .ok (.iaload, 1) := by decide +kernel
theorem dX10_expires_30 : decode cX10_expires 30 = .ok (.iaload, 1) := by decide +kernel
theorem dX10_expires_31 : decode cX10_expires 31 = .ok (.iadd, 1) := by decide +kernel
theorem dX10_expires_32 : decode cX10_expires 32 = .ok (.sipush 360, 3) := by decide +kernel
theorem dX10_expires_35 : decode cX10_expires 35 = .ok (.imul, 1) := by decide +kernel
theorem dX10_expires_36 : decode cX10_expires 36 = .ok (.ireturn, 1) := by decide +kernel
theorem dX10_stateOf_0 : decode cX10_stateOf 0 = .ok (.aload_n 0, 1) := by decide +kernel
theorem dX10_stateOf_1 : decode cX10_stateOf 1 = .ok (.iload_n 1, 1) := by decide +kernel
theorem dX10_stateOf_2 : decode cX10_stateOf 2 = .ok (.iload_n 2, 1) := by decide +kernel
theorem dX10_stateOf_3 : decode cX10_stateOf 3 = .ok (.invokevirtual 280, 3) := by decide +kernel
theorem dX10_stateOf_6 : decode cX10_stateOf 6 = .ok (.istore_n 3, 1) := by decide +kernel
theorem dX10_stateOf_7 : decode cX10_stateOf 7 = .ok (.iload_n 3, 1) := by decide +kernel
theorem dX10_stateOf_8 : decode cX10_stateOf 8 = .ok (.bipush (-2), 2) := by decide +kernel
theorem dX10_stateOf_10 : decode cX10_stateOf 10 = .ok (.if_icmp .ne 7, 3) := by decide +kernel
theorem dX10_stateOf_13 : decode cX10_stateOf 13 = .ok (.iconst 0, 1) := by decide +kernel
theorem dX10_stateOf_14 : decode cX10_stateOf 14 = .ok (.goto 33, 3) := by decide +kernel
theorem dX10_stateOf_17 : decode cX10_stateOf 17 = .ok (.aload_n 0, 1) := by decide +kernel
theorem dX10_stateOf_18 : decode cX10_stateOf 18 = .ok (.getfield 13, 3) := by decide +kernel
theorem dX10_stateOf_21 : decode cX10_stateOf 21 = .ok (.bipush 91, 2) := by decide +kernel
theorem dX10_stateOf_23 : decode cX10_stateOf 23 = .ok (.iload_n 3, 1) := by decide +kernel
theorem dX10_stateOf_24 : decode cX10_stateOf 24 = .ok (.iadd, 1) := by decide +kernel
theorem dX10_stateOf_25 : decode cX10_stateOf 25 = .ok (.iaload, 1) := by decide +kernel
theorem dX10_stateOf_26 : decode cX10_stateOf 26 = .ok (.ifCond .le 7, 3) := by decide +kernel
theorem dX10_stateOf_29 : decode cX10_stateOf 29 = .ok (.iconst 3, 1) := by decide +kernel
theorem dX10_stateOf_30 : decode cX10_stateOf 30 = .ok (.goto 17, 3) := by decide +kernel
theorem dX10_stateOf_33 : decode cX10_stateOf 33 = .ok (.iload_n 2, 1) := by decide +kernel
theorem dX10_stateOf_34 : decode cX10_stateOf 34 = .ok (.aload_n 0, 1) := by decide +kernel
theorem dX10_stateOf_35 : decode cX10_stateOf 35 = .ok (.iload_n 3, 1) := by decide +kernel
theorem dX10_stateOf_36 : decode cX10_stateOf 36 = .ok (.invokevirtual 283, 3) := by decide +kernel
theorem dX10_stateOf_39 : decode cX10_stateOf 39 = .ok (.if_icmp .ge 7, 3) := by decide +kernel
theorem dX10_stateOf_42 : decode cX10_stateOf 42 = .ok (.iconst 1, 1) := by decide +kernel
theorem dX10_stateOf_43 : decode cX10_stateOf 43 = .ok (.goto 4, 3) := by decide +kernel
theorem dX10_stateOf_46 : decode cX10_stateOf 46 = .ok (.iconst 2, 1) := by decide +kernel
theorem dX10_stateOf_47 : decode cX10_stateOf 47 = .ok (.ireturn, 1) := by decide +kernel
theorem dX10_isDay_0 : decode cX10_isDay 0 = .ok (.iload_n 0, 1) := by decide +kernel
theorem dX10_isDay_1 : decode cX10_isDay 1 = .ok (.i2l, 1) := by decide +kernel
theorem dX10_isDay_2 : decode cX10_isDay 2 = .ok (.lconst 0, 1) := by decide +kernel
theorem dX10_isDay_3 : decode cX10_isDay 3 = .ok (.ldc2_w 247, 3) := by decide +kernel
theorem dX10_isDay_6 : decode cX10_isDay 6 = .ok (.invokestatic 124, 3) := by decide +kernel
theorem dX10_isDay_9 : decode cX10_isDay 9 = .ok (.ireturn, 1) := by decide +kernel
theorem dX10_worse_0 : decode cX10_worse 0 = .ok (.iload_n 0, 1) := by decide +kernel
theorem dX10_worse_1 : decode cX10_worse 1 = .ok (.iload_n 1, 1) := by decide +kernel
theorem dX10_worse_2 : decode cX10_worse 2 = .ok (.if_icmp .le 7, 3) := by decide +kernel
theorem dX10_worse_5 : decode cX10_worse 5 = .ok (.iload_n 0, 1) := by decide +kernel
theorem dX10_worse_6 : decode cX10_worse 6 = .ok (.goto 4, 3) := by decide +kernel
theorem dX10_worse_9 : decode cX10_worse 9 = .ok (.iload_n 1, 1) := by decide +kernel
theorem dX10_worse_10 : decode cX10_worse 10 = .ok (.ireturn, 1) := by decide +kernel
theorem dX10_sealState_0 : decode cX10_sealState 0 = .ok (.aload_n 0, 1) := by decide +kernel
theorem dX10_sealState_1 : decode cX10_sealState 1 = .ok (.iconst 0, 1) := by decide +kernel
theorem dX10_sealState_2 : decode cX10_sealState 2 = .ok (.putfield 1, 3) := by decide +kernel
theorem dX10_sealState_5 : decode cX10_sealState 5 = .ok (.aload_n 0, 1) := by decide +kernel
theorem dX10_sealState_6 : decode cX10_sealState 6 = .ok (.iload_n 1, 1) := by decide +kernel
theorem dX10_sealState_7 : decode cX10_sealState 7 = .ok (.invokevirtual 234, 3) := by decide +kernel
theorem dX10_sealState_10 : decode cX10_sealState 10 = .ok (.ifCond .eq 19, 3) := by decide +kernel
theorem dX10_sealState_13 : decode cX10_sealState 13 = .ok (.iload_n 2, 1) := by decide +kernel
theorem dX10_sealState_14 : decode cX10_sealState 14 = .ok (.invokestatic 286, 3) := by decide +kernel
theorem dX10_sealState_17 : decode cX10_sealState 17 = .ok (.ifCond .eq 12, 3) := by decide +kernel
theorem dX10_sealState_20 : decode cX10_sealState 20 = .ok (.aload_n 0, 1) := by decide +kernel
theorem dX10_sealState_21 : decode cX10_sealState 21 = .ok (.iload_n 1, 1) := by decide +kernel
theorem dX10_sealState_22 : decode cX10_sealState 22 = .ok (.iload_n 2, 1) := by decide +kernel
theorem dX10_sealState_23 : decode cX10_sealState 23 = .ok (.invokevirtual 289, 3) := by decide +kernel
theorem dX10_sealState_26 : decode cX10_sealState 26 = .ok (.goto 4, 3) := by decide +kernel
theorem dX10_sealState_29 : decode cX10_sealState 29 = .ok (.iconst (-1), 1) := by decide +kernel
theorem dX10_sealState_30 : decode cX10_sealState 30 = .ok (.ireturn, 1) := by decide +kernel
theorem dX10_expiryDay_0 : decode cX10_expiryDay 0 = .ok (.aload_n 0, 1) := by decide +kernel
theorem dX10_expiryDay_1 : decode cX10_expiryDay 1 = .ok (.iconst 0, 1) := by decide +kernel
theorem dX10_expiryDay_2 : decode cX10_expiryDay 2 = .ok (.putfield 1, 3) := by decide +kernel
theorem dX10_expiryDay_5 : decode cX10_expiryDay 5 = .ok (.aload_n 0, 1) := by decide +kernel
theorem dX10_expiryDay_6 : decode cX10_expiryDay 6 = .ok (.iload_n 1, 1) := by decide +kernel
theorem dX10_expiryDay_7 : decode cX10_expiryDay 7 = .ok (.invokevirtual 234, 3) := by decide +kernel
theorem dX10_expiryDay_10 : decode cX10_expiryDay 10 = .ok (.ifCond .eq 10, 3) := by decide +kernel
theorem dX10_expiryDay_13 : decode cX10_expiryDay 13 = .ok (.iload_n 2, 1) := by decide +kernel
theorem dX10_expiryDay_14 : decode cX10_expiryDay 14 = .ok (.invokestatic 286, 3) := by decide +kernel
theorem dX10_expiryDay_17 : decode cX10_expiryDay 17 = .ok (.ifCond .ne 5, 3) := by decide +kernel
theorem dX10_expiryDay_20 : decode cX10_expiryDay 20 = .ok (.iconst (-1), 1) := by decide +kernel
theorem dX10_expiryDay_21 : decode cX10_expiryDay 21 = .ok (.ireturn, 1) := by decide +kernel
theorem dX10_expiryDay_22 : decode cX10_expiryDay 22 = .ok (.aload_n 0, 1) := by decide +kernel
theorem dX10_expiryDay_23 : decode cX10_expiryDay 23 = .ok (.iload_n 1, 1) := by decide +kernel
theorem dX10_expiryDay_24 : decode cX10_expiryDay 24 = .ok (.iload_n 2, 1) := by decide +kernel
theorem dX10_expiryDay_25 : decode cX10_expiryDay 25 = .ok (.invokevirtual 289, 3) := by decide +kernel
theorem dX10_expiryDay_28 : decode cX10_expiryDay 28 = .ok (.iconst 1, 1) := by decide +kernel
theorem dX10_expiryDay_29 : decode cX10_expiryDay 29 = .ok (.if_icmp .ne 16, 3) := by decide +kernel
theorem dX10_expiryDay_32 : decode cX10_expiryDay 32 = .ok (.aload_n 0, 1) := by decide +kernel
theorem dX10_expiryDay_33 : decode cX10_expiryDay 33 = .ok (.aload_n 0, 1) := by decide +kernel
theorem dX10_expiryDay_34 : decode cX10_expiryDay 34 = .ok (.iload_n 1, 1) := by decide +kernel
theorem dX10_expiryDay_35 : decode cX10_expiryDay 35 = .ok (.iload_n 2, 1) := by decide +kernel
theorem dX10_expiryDay_36 : decode cX10_expiryDay 36 = .ok (.invokevirtual 280, 3) := by decide +kernel
theorem dX10_expiryDay_39 : decode cX10_expiryDay 39 = .ok (.invokevirtual 283, 3) := by decide +kernel
theorem dX10_expiryDay_42 : decode cX10_expiryDay 42 = .ok (.goto 5, 3) := by decide +kernel
theorem dX10_expiryDay_45 : decode cX10_expiryDay 45 = .ok (.bipush (-2), 2) := by decide +kernel
theorem dX10_expiryDay_47 : decode cX10_expiryDay 47 = .ok (.ireturn, 1) := by decide +kernel
theorem dX10_scalesWith_0 : decode cX10_scalesWith 0 = .ok (.aload_n 0, 1) := by decide +kernel
theorem dX10_scalesWith_1 : decode cX10_scalesWith 1 = .ok (.iconst 0, 1) := by decide +kernel
theorem dX10_scalesWith_2 : decode cX10_scalesWith 2 = .ok (.putfield 1, 3) := by decide +kernel
theorem dX10_scalesWith_5 : decode cX10_scalesWith 5 = .ok (.iload_n 1, 1) := by decide +kernel
theorem dX10_scalesWith_6 : decode cX10_scalesWith 6 = .ok (.i2l, 1) := by decide +kernel
theorem dX10_scalesWith_7 : decode cX10_scalesWith 7 = .ok (.lconst 0, 1) := by decide +kernel
theorem dX10_scalesWith_8 : decode cX10_scalesWith 8 = .ok (.ldc2_w 292, 3) := by decide +kernel
theorem dX10_scalesWith_11 : decode cX10_scalesWith 11 = .ok (.invokestatic 124, 3) := by decide +kernel
theorem dX10_scalesWith_14 : decode cX10_scalesWith 14 = .ok (.ifCond .eq 10, 3) := by decide +kernel
theorem dX10_scalesWith_17 : decode cX10_scalesWith 17 = .ok (.iload_n 2, 1) := by decide +kernel
theorem dX10_scalesWith_18 : decode cX10_scalesWith 18 = .ok (.invokestatic 286, 3) := by decide +kernel
theorem dX10_scalesWith_21 : decode cX10_scalesWith 21 = .ok (.ifCond .ne 5, 3) := by decide +kernel
theorem dX10_scalesWith_24 : decode cX10_scalesWith 24 = .ok (.iconst (-1), 1) := by decide +kernel
theorem dX10_scalesWith_25 : decode cX10_scalesWith 25 = .ok (.ireturn, 1) := by decide +kernel
theorem dX10_scalesWith_26 : decode cX10_scalesWith 26 = .ok (.iconst 0, 1) := by decide +kernel
theorem dX10_scalesWith_27 : decode cX10_scalesWith 27 = .ok (.istore_n 3, 1) := by decide +kernel
theorem dX10_scalesWith_28 : decode cX10_scalesWith 28 = .ok (.iconst 0, 1) := by decide +kernel
theorem dX10_scalesWith_29 : decode cX10_scalesWith 29 = .ok (.istore 4, 2) := by decide +kernel
theorem dX10_scalesWith_31 : decode cX10_scalesWith 31 = .ok (.iload 4, 2) := by decide +kernel
theorem dX10_scalesWith_33 : decode cX10_scalesWith 33 = .ok (.aload_n 0, 1) := by decide +kernel
theorem dX10_scalesWith_34 : decode cX10_scalesWith 34 = .ok (.getfield 218, 3) := by decide +kernel
theorem dX10_scalesWith_37 : decode cX10_scalesWith 37 = .ok (.if_icmp .ge 31, 3) := by decide +kernel
theorem dX10_scalesWith_40 : decode cX10_scalesWith 40 = .ok (.iload_n 3, 1) := by decide +kernel
theorem dX10_scalesWith_41 : decode cX10_scalesWith 41 = .ok (.aload_n 0, 1) := by decide +kernel
theorem dX10_scalesWith_42 : decode cX10_scalesWith 42 = .ok (.iload 4, 2) := by decide +kernel
theorem dX10_scalesWith_44 : decode cX10_scalesWith 44 = .ok (.iload_n 2, 1) := by decide +kernel
theorem dX10_scalesWith_45 : decode cX10_scalesWith 45 = .ok (.invokevirtual 289, 3) := by decide +kernel
theorem dX10_scalesWith_48 : decode cX10_scalesWith 48 = .ok (.iload_n 1, 1) := by decide +kernel
theorem dX10_scalesWith_49 : decode cX10_scalesWith 49 = .ok (.if_icmp .ne 10, 3) := by decide +kernel
theorem dX10_scalesWith_52 : decode cX10_scalesWith 52 = .ok (.iconst 1, 1) := by decide +kernel
theorem dX10_scalesWith_53 : decode cX10_scalesWith 53 = .ok (.iload 4, 2) := by decide +kernel
theorem dX10_scalesWith_55 : decode cX10_scalesWith 55 = .ok (.ishl, 1) := by decide +kernel
theorem dX10_scalesWith_56 : decode cX10_scalesWith 56 = .ok (.goto 4, 3) := by decide +kernel
theorem dX10_scalesWith_59 : decode cX10_scalesWith 59 = .ok (.iconst 0, 1) := by decide +kernel
theorem dX10_scalesWith_60 : decode cX10_scalesWith 60 = .ok (.ior, 1) := by decide +kernel
theorem dX10_scalesWith_61 : decode cX10_scalesWith 61 = .ok (.istore_n 3, 1) := by decide +kernel
theorem dX10_scalesWith_62 : decode cX10_scalesWith 62 = .ok (.iinc 4 1, 3) := by decide +kernel
theorem dX10_scalesWith_65 : decode cX10_scalesWith 65 = .ok (.goto (-34), 3) := by decide +kernel
theorem dX10_scalesWith_68 : decode cX10_scalesWith 68 = .ok (.iload_n 3, 1) := by decide +kernel
theorem dX10_scalesWith_69 : decode cX10_scalesWith 69 = .ok (.ireturn, 1) := by decide +kernel
theorem dX10_riskOf_0 : decode cX10_riskOf 0 = .ok (.aload_n 0, 1) := by decide +kernel
theorem dX10_riskOf_1 : decode cX10_riskOf 1 = .ok (.iload_n 1, 1) := by decide +kernel
theorem dX10_riskOf_2 : decode cX10_riskOf 2 = .ok (.iload_n 2, 1) := by decide +kernel
theorem dX10_riskOf_3 : decode cX10_riskOf 3 = .ok (.invokevirtual 289, 3) := by decide +kernel
theorem dX10_riskOf_6 : decode cX10_riskOf 6 = .ok (.istore_n 3, 1) := by decide +kernel
theorem dX10_riskOf_7 : decode cX10_riskOf 7 = .ok (.iload_n 3, 1) := by decide +kernel
theorem dX10_riskOf_8 : decode cX10_riskOf 8 = .ok (.ifCond .ne 7, 3) := by decide +kernel
theorem dX10_riskOf_11 : decode cX10_riskOf 11 = .ok (.iconst 4, 1) := by decide +kernel
theorem dX10_riskOf_12 : decode cX10_riskOf 12 = .ok (.goto 23, 3) := by decide +kernel
theorem dX10_riskOf_15 : decode cX10_riskOf 15 = .ok (.iload_n 3, 1) := by decide +kernel
theorem dX10_riskOf_16 : decode cX10_riskOf 16 = .ok (.iconst 1, 1) := by decide +kernel
theorem dX10_riskOf_17 : decode cX10_riskOf 17 = .ok (.if_icmp .ne 7, 3) := by decide +kernel
theorem dX10_riskOf_20 : decode cX10_riskOf 20 = .ok (.iconst 1, 1) := by decide +kernel
theorem dX10_riskOf_21 : decode cX10_riskOf 21 = .ok (.goto 14, 3) := by decide +kernel
theorem dX10_riskOf_24 : decode cX10_riskOf 24 = .ok (.iload_n 3, 1) := by decide +kernel
theorem dX10_riskOf_25 : decode cX10_riskOf 25 = .ok (.iconst 2, 1) := by decide +kernel
theorem dX10_riskOf_26 : decode cX10_riskOf 26 = .ok (.if_icmp .ne 7, 3) := by decide +kernel
theorem dX10_riskOf_29 : decode cX10_riskOf 29 = .ok (.iconst 3, 1) := by decide +kernel
theorem dX10_riskOf_30 : decode cX10_riskOf 30 = .ok (.goto 5, 3) := by decide +kernel
theorem dX10_riskOf_33 : decode cX10_riskOf 33 = .ok (.bipush 6, 2) := by decide +kernel
theorem dX10_riskOf_35 : decode cX10_riskOf 35 = .ok (.istore 4, 2) := by decide +kernel
theorem dX10_riskOf_37 : decode cX10_riskOf 37 = .ok (.iconst 0, 1) := by decide +kernel
theorem dX10_riskOf_38 : decode cX10_riskOf 38 = .ok (.istore 5, 2) := by decide +kernel
theorem dX10_riskOf_40 : decode cX10_riskOf 40 = .ok (.iload 5, 2) := by decide +kernel
theorem dX10_riskOf_42 : decode cX10_riskOf 42 = .ok (.aload_n 0, 1) := by decide +kernel
theorem dX10_riskOf_43 : decode cX10_riskOf 43 = .ok (.getfield 13, 3) := by decide +kernel
theorem dX10_riskOf_46 : decode cX10_riskOf 46 = .ok (.iconst 0, 1) := by decide +kernel
theorem dX10_riskOf_47 : decode cX10_riskOf 47 = .ok (.iaload, 1) := by decide +kernel
theorem dX10_riskOf_48 : decode cX10_riskOf 48 = .ok (.if_icmp .ge 73, 3) := by decide +kernel
theorem dX10_riskOf_51 : decode cX10_riskOf 51 = .ok (.iload 4, 2) := by decide +kernel
theorem dX10_riskOf_53 : decode cX10_riskOf 53 = .ok (.aload_n 0, 1) := by decide +kernel
theorem dX10_riskOf_54 : decode cX10_riskOf 54 = .ok (.getfield 13, 3) := by decide +kernel
theorem dX10_riskOf_57 : decode cX10_riskOf 57 = .ok (.iconst 1, 1) := by decide +kernel
theorem dX10_riskOf_58 : decode cX10_riskOf 58 = .ok (.iload 5, 2) := by decide +kernel
theorem dX10_riskOf_60 : decode cX10_riskOf 60 = .ok (.iadd, 1) := by decide +kernel
theorem dX10_riskOf_61 : decode cX10_riskOf 61 = .ok (.iaload, 1) := by decide +kernel
theorem dX10_riskOf_62 : decode cX10_riskOf 62 = .ok (.iload_n 1, 1) := by decide +kernel
theorem dX10_riskOf_63 : decode cX10_riskOf 63 = .ok (.if_icmp .ne 48, 3) := by decide +kernel
theorem dX10_riskOf_66 : decode cX10_riskOf 66 = .ok (.aload_n 0, 1) := by decide +kernel
theorem dX10_riskOf_67 : decode cX10_riskOf 67 = .ok (.getfield 13, 3) := by decide +kernel
theorem dX10_riskOf_70 : decode cX10_riskOf 70 = .ok (.bipush 61, 2) := by decide +kernel
theorem dX10_riskOf_72 : decode cX10_riskOf 72 = .ok (.iload 5, 2) := by decide +kernel
theorem dX10_riskOf_74 : decode cX10_riskOf 74 = .ok (.iadd, 1) := by decide +kernel
theorem dX10_riskOf_75 : decode cX10_riskOf 75 = .ok (.iaload, 1) := by decide +kernel
theorem dX10_riskOf_76 : decode cX10_riskOf 76 = .ok (.iconst 1, 1) := by decide +kernel
theorem dX10_riskOf_77 : decode cX10_riskOf 77 = .ok (.if_icmp .ne 34, 3) := by decide +kernel
theorem dX10_riskOf_80 : decode cX10_riskOf 80 = .ok (.aload_n 0, 1) := by decide +kernel
theorem dX10_riskOf_81 : decode cX10_riskOf 81 = .ok (.getfield 13, 3) := by decide +kernel
theorem dX10_riskOf_84 : decode cX10_riskOf 84 = .ok (.bipush 31, 2) := by decide +kernel
theorem dX10_riskOf_86 : decode cX10_riskOf 86 = .ok (.iload 5, 2) := by decide +kernel
theorem dX10_riskOf_88 : decode cX10_riskOf 88 = .ok (.iadd, 1) := by decide +kernel
theorem dX10_riskOf_89 : decode cX10_riskOf 89 = .ok (.iaload, 1) := by decide +kernel
theorem dX10_riskOf_90 : decode cX10_riskOf 90 = .ok (.iload_n 2, 1) := by decide +kernel
theorem dX10_riskOf_91 : decode cX10_riskOf 91 = .ok (.if_icmp .gt 20, 3) := by decide +kernel
theorem dX10_riskOf_94 : decode cX10_riskOf 94 = .ok (.aload_n 0, 1) := by decide +kernel
theorem dX10_riskOf_95 : decode cX10_riskOf 95 = .ok (.getfield 13, 3) := by decide +kernel
theorem dX10_riskOf_98 : decode cX10_riskOf 98 = .ok (.bipush 91, 2) := by decide +kernel
theorem dX10_riskOf_100 : decode cX10_riskOf 100 = .ok (.iload 5, 2) := by decide +kernel
theorem dX10_riskOf_102 : decode cX10_riskOf 102 = .ok (.iadd, 1) := by decide +kernel
theorem dX10_riskOf_103 : decode cX10_riskOf 103 = .ok (.iaload, 1) := by decide +kernel
theorem dX10_riskOf_104 : decode cX10_riskOf 104 = .ok (.ifCond .le 7, 3) := by decide +kernel
theorem dX10_riskOf_107 : decode cX10_riskOf 107 = .ok (.iconst 1, 1) := by decide +kernel
theorem dX10_riskOf_108 : decode cX10_riskOf 108 = .ok (.goto 4, 3) := by decide +kernel
theorem dX10_riskOf_111 : decode cX10_riskOf 111 = .ok (.iconst 0, 1) := by decide +kernel
theorem dX10_riskOf_112 : decode cX10_riskOf 112 = .ok (.iadd, 1) := by decide +kernel
theorem dX10_riskOf_113 : decode cX10_riskOf 113 = .ok (.istore 4, 2) := by decide +kernel
theorem dX10_riskOf_115 : decode cX10_riskOf 115 = .ok (.iinc 5 1, 3) := by decide +kernel
theorem dX10_riskOf_118 : decode cX10_riskOf 118 = .ok (.goto (-78), 3) := by decide +kernel
theorem dX10_riskOf_121 : decode cX10_riskOf 121 = .ok (.iconst 0, 1) := by decide +kernel
theorem dX10_riskOf_122 : decode cX10_riskOf 122 = .ok (.istore 5, 2) := by decide +kernel
theorem dX10_riskOf_124 : decode cX10_riskOf 124 = .ok (.iload 5, 2) := by decide +kernel
theorem dX10_riskOf_126 : decode cX10_riskOf 126 = .ok (.aload_n 0, 1) := by decide +kernel
theorem dX10_riskOf_127 : decode cX10_riskOf 127 = .ok (.getfield 218, 3) := by decide +kernel
theorem dX10_riskOf_130 : decode cX10_riskOf 130 = .ok (.if_icmp .ge 52, 3) := by decide +kernel
theorem dX10_riskOf_133 : decode cX10_riskOf 133 = .ok (.iload 4, 2) := by decide +kernel
theorem dX10_riskOf_135 : decode cX10_riskOf 135 = .ok (.iload 5, 2) := by decide +kernel
theorem dX10_riskOf_137 : decode cX10_riskOf 137 = .ok (.iload_n 1, 1) := by decide +kernel
theorem dX10_riskOf_138 : decode cX10_riskOf 138 = .ok (.if_icmp .eq 34, 3) := by decide +kernel
theorem dX10_riskOf_141 : decode cX10_riskOf 141 = .ok (.aload_n 0, 1) := by decide +kernel
theorem dX10_riskOf_142 : decode cX10_riskOf 142 = .ok (.getfield 17, 3) := by decide +kernel
theorem dX10_riskOf_145 : decode cX10_riskOf 145 = .ok (.iload 5, 2) := by decide +kernel
theorem dX10_riskOf_147 : decode cX10_riskOf 147 = .ok (.iaload, 1) := by decide +kernel
theorem dX10_riskOf_148 : decode cX10_riskOf 148 = .ok (.aload_n 0, 1) := by decide +kernel
theorem dX10_riskOf_149 : decode cX10_riskOf 149 = .ok (.getfield 17, 3) := by decide +kernel
theorem dX10_riskOf_152 : decode cX10_riskOf 152 = .ok (.iload_n 1, 1) := by decide +kernel
theorem dX10_riskOf_153 : decode cX10_riskOf 153 = .ok (.iaload, 1) := by decide +kernel
theorem dX10_riskOf_154 : decode cX10_riskOf 154 = .ok (.if_icmp .ne 18, 3) := by decide +kernel
theorem dX10_riskOf_157 : decode cX10_riskOf 157 = .ok (.aload_n 0, 1) := by decide +kernel
theorem dX10_riskOf_158 : decode cX10_riskOf 158 = .ok (.iload 5, 2) := by decide +kernel
theorem dX10_riskOf_160 : decode cX10_riskOf 160 = .ok (.iload_n 2, 1) := by decide +kernel
theorem dX10_riskOf_161 : decode cX10_riskOf 161 = .ok (.invokevirtual 289, 3) := by decide +kernel
theorem dX10_riskOf_164 : decode cX10_riskOf 164 = .ok (.iconst 3, 1) := by decide +kernel
theorem dX10_riskOf_165 : decode cX10_riskOf 165 = .ok (.if_icmp .ne 7, 3) := by decide +kernel
theorem dX10_riskOf_168 : decode cX10_riskOf 168 = .ok (.iconst 1, 1) := by decide +kernel
theorem dX10_riskOf_169 : decode cX10_riskOf 169 = .ok (.goto 4, 3) := by decide +kernel
theorem dX10_riskOf_172 : decode cX10_riskOf 172 = .ok (.iconst 0, 1) := by decide +kernel
theorem dX10_riskOf_173 : decode cX10_riskOf 173 = .ok (.iadd, 1) := by decide +kernel
theorem dX10_riskOf_174 : decode cX10_riskOf 174 = .ok (.istore 4, 2) := by decide +kernel
theorem dX10_riskOf_176 : decode cX10_riskOf 176 = .ok (.iinc 5 1, 3) := by decide +kernel
theorem dX10_riskOf_179 : decode cX10_riskOf 179 = .ok (.goto (-55), 3) := by decide +kernel
theorem dX10_riskOf_182 : decode cX10_riskOf 182 = .ok (.iload 4, 2) := by decide +kernel
theorem dX10_riskOf_184 : decode cX10_riskOf 184 = .ok (.ireturn, 1) := by decide +kernel
theorem dX10_risk_0 : decode cX10_risk 0 = .ok (.aload_n 0, 1) := by decide +kernel
theorem dX10_risk_1 : decode cX10_risk 1 = .ok (.iconst 0, 1) := by decide +kernel
theorem dX10_risk_2 : decode cX10_risk 2 = .ok (.putfield 1, 3) := by decide +kernel
theorem dX10_risk_5 : decode cX10_risk 5 = .ok (.aload_n 0, 1) := by decide +kernel
theorem dX10_risk_6 : decode cX10_risk 6 = .ok (.iload_n 1, 1) := by decide +kernel
theorem dX10_risk_7 : decode cX10_risk 7 = .ok (.invokevirtual 234, 3) := by decide +kernel
theorem dX10_risk_10 : decode cX10_risk 10 = .ok (.ifCond .eq 19, 3) := by decide +kernel
theorem dX10_risk_13 : decode cX10_risk 13 = .ok (.iload_n 2, 1) := by decide +kernel
theorem dX10_risk_14 : decode cX10_risk 14 = .ok (.invokestatic 286, 3) := by decide +kernel
theorem dX10_risk_17 : decode cX10_risk 17 = .ok (.ifCond .eq 12, 3) := by decide +kernel
theorem dX10_risk_20 : decode cX10_risk 20 = .ok (.aload_n 0, 1) := by decide +kernel
theorem dX10_risk_21 : decode cX10_risk 21 = .ok (.iload_n 1, 1) := by decide +kernel
theorem dX10_risk_22 : decode cX10_risk 22 = .ok (.iload_n 2, 1) := by decide +kernel
theorem dX10_risk_23 : decode cX10_risk 23 = .ok (.invokevirtual 294, 3) := by decide +kernel
theorem dX10_risk_26 : decode cX10_risk 26 = .ok (.goto 4, 3) := by decide +kernel
theorem dX10_risk_29 : decode cX10_risk 29 = .ok (.iconst (-1), 1) := by decide +kernel
theorem dX10_risk_30 : decode cX10_risk 30 = .ok (.ireturn, 1) := by decide +kernel
theorem dX10_riskiestTrader_0 : decode cX10_riskiestTrader 0 = .ok (.aload_n 0, 1) := by decide +kernel
theorem dX10_riskiestTrader_1 : decode cX10_riskiestTrader 1 = .ok (.iconst 0, 1) := by decide +kernel
theorem dX10_riskiestTrader_2 : decode cX10_riskiestTrader 2 = .ok (.putfield 1, 3) := by decide +kernel
theorem dX10_riskiestTrader_5 : decode cX10_riskiestTrader 5 = .ok (.iload_n 1, 1) := by decide +kernel
theorem dX10_riskiestTrader_6 : decode cX10_riskiestTrader 6 = .ok (.invokestatic 286, 3) := by decide +kernel
theorem dX10_riskiestTrader_9 : decode cX10_riskiestTrader 9 = .ok (.ifCond .ne 5, 3) := by decide +kernel
theorem dX10_riskiestTrader_12 : decode cX10_riskiestTrader 12 = .ok (.iconst (-1), 1) := by decide +kernel
theorem dX10_riskiestTrader_13 : decode cX10_riskiestTrader 13 = .ok (.ireturn, 1) := by decide +kernel
theorem dX10_riskiestTrader_14 : decode cX10_riskiestTrader 14 = .ok (.bipush (-2), 2) := by decide +kernel
theorem dX10_riskiestTrader_16 : decode cX10_riskiestTrader 16 = .ok (.istore_n 2, 1) := by decide +kernel
theorem dX10_riskiestTrader_17 : decode cX10_riskiestTrader 17 = .ok (.iconst (-1), 1) := by decide +kernel
theorem dX10_riskiestTrader_18 : decode cX10_riskiestTrader 18 = .ok (.istore_n 3, 1) := by decide +kernel
theorem dX10_riskiestTrader_19 : decode cX10_riskiestTrader 19 = .ok (.iconst 0, 1) := by decide +kernel
theorem dX10_riskiestTrader_20 : decode cX10_riskiestTrader 20 = .ok (.istore 4, 2) := by decide +kernel
theorem dX10_riskiestTrader_22 : decode cX10_riskiestTrader 22 = .ok (.iload 4, 2) := by decide +kernel
theorem dX10_riskiestTrader_24 : decode cX10_riskiestTrader 24 = .ok (.aload_n 0, 1) := by decide +kernel
theorem dX10_riskiestTrader_25 : decode cX10_riskiestTrader 25 = .ok (.getfield 215, 3) := by decide +kernel
theorem dX10_riskiestTrader_28 : decode cX10_riskiestTrader 28 = .ok (.if_icmp .ge 70, 3) := by decide +kernel
theorem dX10_riskiestTrader_31 : decode cX10_riskiestTrader 31 = .ok (.iconst 0, 1) := by decide +kernel
theorem dX10_riskiestTrader_32 : decode cX10_riskiestTrader 32 = .ok (.istore 5, 2) := by decide +kernel
theorem dX10_riskiestTrader_34 : decode cX10_riskiestTrader 34 = .ok (.iconst 0, 1) := by decide +kernel
theorem dX10_riskiestTrader_35 : decode cX10_riskiestTrader 35 = .ok (.istore 6, 2) := by decide +kernel
theorem dX10_riskiestTrader_37 : decode cX10_riskiestTrader 37 = .ok (.iload 6, 2) := by decide +kernel
theorem dX10_riskiestTrader_39 : decode cX10_riskiestTrader 39 = .ok (.aload_n 0, 1) := by decide +kernel
theorem dX10_riskiestTrader_40 : decode cX10_riskiestTrader 40 = .ok (.getfield 218, 3) := by decide +kernel
theorem dX10_riskiestTrader_43 : decode cX10_riskiestTrader 43 = .ok (.if_icmp .ge 37, 3) := by decide +kernel
theorem dX10_riskiestTrader_46 : decode cX10_riskiestTrader 46 = .ok (.iload 5, 2) := by decide +kernel
theorem dX10_riskiestTrader_48 : decode cX10_riskiestTrader 48 = .ok (.aload_n 0, 1) := by decide +kernel
theorem dX10_riskiestTrader_49 : decode cX10_riskiestTrader 49 = .ok (.getfield 17, 3) := by decide +kernel
theorem dX10_riskiestTrader_52 : decode cX10_riskiestTrader 52 = .ok (.iload 6, 2) := by decide +kernel
theorem dX10_riskiestTrader_54 : decode cX10_riskiestTrader 54 = .ok (.iaload, 1) := by decide +kernel
theorem dX10_riskiestTrader_55 : decode cX10_riskiestTrader 55 = .ok (.iload 4, 2) := by decide +kernel
theorem dX10_riskiestTrader_57 : decode cX10_riskiestTrader 57 = .ok (.if_icmp .ne 13, 3) := by decide +kernel
theorem dX10_riskiestTrader_60 : decode cX10_riskiestTrader 60 = .ok (.aload_n 0, 1) := by decide +kernel
theorem dX10_riskiestTrader_61 : decode cX10_riskiestTrader 61 = .ok (.iload 6, 2) := by decide +kernel
theorem dX10_riskiestTrader_63 : decode cX10_riskiestTrader 63 = .ok (.iload_n 1, 1) := by decide +kernel
theorem dX10_riskiestTrader_64 : decode cX10_riskiestTrader 64 = .ok (.invokevirtual 294, 3) := by decide +kernel
theorem dX10_riskiestTrader_67 : decode cX10_riskiestTrader 67 = .ok (.goto 4, 3) := by decide +kernel
theorem dX10_riskiestTrader_70 : decode cX10_riskiestTrader 70 = .ok (.iconst 0, 1) := by decide +kernel
theorem dX10_riskiestTrader_71 : decode cX10_riskiestTrader 71 = .ok (.iadd, 1) := by decide +kernel
theorem dX10_riskiestTrader_72 : decode cX10_riskiestTrader 72 = .ok (.istore 5, 2) := by decide +kernel
theorem dX10_riskiestTrader_74 : decode cX10_riskiestTrader 74 = .ok (.iinc 6 1, 3) := by decide +kernel
theorem dX10_riskiestTrader_77 : decode cX10_riskiestTrader 77 = .ok (.goto (-40), 3) := by decide +kernel
theorem dX10_riskiestTrader_80 : decode cX10_riskiestTrader 80 = .ok (.iload 5, 2) := by decide +kernel
theorem dX10_riskiestTrader_82 : decode cX10_riskiestTrader 82 = .ok (.iload_n 3, 1) := by decide +kernel
theorem dX10_riskiestTrader_83 : decode cX10_riskiestTrader 83 = .ok (.if_icmp .le 9, 3) := by decide +kernel
theorem dX10_riskiestTrader_86 : decode cX10_riskiestTrader 86 = .ok (.iload 4, 2) := by decide +kernel
theorem dX10_riskiestTrader_88 : decode cX10_riskiestTrader 88 = .ok (.istore_n 2, 1) := by decide +kernel
theorem dX10_riskiestTrader_89 : decode cX10_riskiestTrader 89 = .ok (.iload 5, 2) := by decide +kernel
theorem dX10_riskiestTrader_91 : decode cX10_riskiestTrader 91 = .ok (.istore_n 3, 1) := by decide +kernel
theorem dX10_riskiestTrader_92 : decode cX10_riskiestTrader 92 = .ok (.iinc 4 1, 3) := by decide +kernel
theorem dX10_riskiestTrader_95 : decode cX10_riskiestTrader 95 = .ok (.goto (-73), 3) := by decide +kernel
theorem dX10_riskiestTrader_98 : decode cX10_riskiestTrader 98 = .ok (.iload_n 2, 1) := by decide +kernel
theorem dX10_riskiestTrader_99 : decode cX10_riskiestTrader 99 = .ok (.ireturn, 1) := by decide +kernel
theorem dX10_lot_0 : decode cX10_lot 0 = .ok (.aload_n 0, 1) := by decide +kernel
theorem dX10_lot_1 : decode cX10_lot 1 = .ok (.iconst 0, 1) := by decide +kernel
theorem dX10_lot_2 : decode cX10_lot 2 = .ok (.putfield 1, 3) := by decide +kernel
theorem dX10_lot_5 : decode cX10_lot 5 = .ok (.iload_n 1, 1) := by decide +kernel
theorem dX10_lot_6 : decode cX10_lot 6 = .ok (.i2l, 1) := by decide +kernel
theorem dX10_lot_7 : decode cX10_lot 7 = .ok (.lconst 0, 1) := by decide +kernel
theorem dX10_lot_8 : decode cX10_lot 8 = .ok (.ldc2_w 297, 3) := by decide +kernel
theorem dX10_lot_11 : decode cX10_lot 11 = .ok (.invokestatic 124, 3) := by decide +kernel
theorem dX10_lot_14 : decode cX10_lot 14 = .ok (.ifCond .eq 14, 3) := by decide +kernel
theorem dX10_lot_17 : decode cX10_lot 17 = .ok (.iload_n 2, 1) := by decide +kernel
theorem dX10_lot_18 : decode cX10_lot 18 = .ok (.ifCond .lt 10, 3) := by decide +kernel
theorem dX10_lot_21 : decode cX10_lot 21 = .ok (.iload_n 3, 1) := by decide +kernel
theorem dX10_lot_22 : decode cX10_lot 22 = .ok (.invokestatic 286, 3) := by decide +kernel
theorem dX10_lot_25 : decode cX10_lot 25 = .ok (.ifCond .ne 5, 3) := by decide +kernel
theorem dX10_lot_28 : decode cX10_lot 28 = .ok (.iconst (-1), 1) := by decide +kernel
theorem dX10_lot_29 : decode cX10_lot 29 = .ok (.ireturn, 1) := by decide +kernel
theorem dX10_lot_30 : decode cX10_lot 30 = .ok (.iload_n 2, 1) := by decide +kernel
theorem dX10_lot_31 : decode cX10_lot 31 = .ok (.aload_n 0, 1) := by decide +kernel
theorem dX10_lot_32 : decode cX10_lot 32 = .ok (.getfield 218, 3) := by decide +kernel
theorem dX10_lot_35 : decode cX10_lot 35 = .ok (.if_icmp .lt 6, 3) := by decide +kernel
theorem dX10_lot_38 : decode cX10_lot 38 = .ok (.bipush (-2), 2) := by decide +kernel
theorem dX10_lot_40 : decode cX10_lot 40 = .ok (.ireturn, 1) := by decide +kernel
theorem dX10_lot_41 : decode cX10_lot 41 = .ok (.iconst 0, 1) := by decide +kernel
theorem dX10_lot_42 : decode cX10_lot 42 = .ok (.istore 4, 2) := by decide +kernel
theorem dX10_lot_44 : decode cX10_lot 44 = .ok (.iconst 0, 1) := by decide +kernel
theorem dX10_lot_45 : decode cX10_lot 45 = .ok (.istore 5, 2) := by decide +kernel
theorem dX10_lot_47 : decode cX10_lot 47 = .ok (.iload 5, 2) := by decide +kernel
theorem dX10_lot_49 : decode cX10_lot 49 = .ok (.aload_n 0, 1) := by decide +kernel
theorem dX10_lot_50 : decode cX10_lot 50 = .ok (.getfield 218, 3) := by decide +kernel
theorem dX10_lot_53 : decode cX10_lot 53 = .ok (.if_icmp .ge 35, 3) := by decide +kernel
theorem dX10_lot_56 : decode cX10_lot 56 = .ok (.aload_n 0, 1) := by decide +kernel
theorem dX10_lot_57 : decode cX10_lot 57 = .ok (.getfield 76, 3) := by decide +kernel
theorem dX10_lot_60 : decode cX10_lot 60 = .ok (.iload 5, 2) := by decide +kernel
theorem dX10_lot_62 : decode cX10_lot 62 = .ok (.aload_n 0, 1) := by decide +kernel
theorem dX10_lot_63 : decode cX10_lot 63 = .ok (.iload 5, 2) := by decide +kernel
theorem dX10_lot_65 : decode cX10_lot 65 = .ok (.iload_n 3, 1) := by decide +kernel
theorem dX10_lot_66 : decode cX10_lot 66 = .ok (.invokevirtual 294, 3) := by decide +kernel
theorem dX10_lot_69 : decode cX10_lot 69 = .ok (.iastore, 1) := by decide +kernel
theorem dX10_lot_70 : decode cX10_lot 70 = .ok (.iload 4, 2) := by decide +kernel
theorem dX10_lot_72 : decode cX10_lot 72 = .ok (.aload_n 0, 1) := by decide +kernel
theorem dX10_lot_73 : decode cX10_lot 73 = .ok (.getfield 76, 3) := by decide +kernel
theorem dX10_lot_76 : decode cX10_lot 76 = .ok (.iload 5, 2) := by decide +kernel
theorem dX10_lot_78 : decode cX10_lot 78 = .ok (.iaload, 1) := by decide +kernel
theorem dX10_lot_79 : decode cX10_lot 79 = .ok (.iadd, 1) := by decide +kernel
theorem dX10_lot_80 : decode cX10_lot 80 = .ok (.istore 4, 2) := by decide +kernel
theorem dX10_lot_82 : decode cX10_lot 82 = .ok (.iinc 5 1, 3) := by decide +kernel
theorem dX10_lot_85 : decode cX10_lot 85 = .ok (.goto (-38), 3) := by decide +kernel
theorem dX10_lot_88 : decode cX10_lot 88 = .ok (.iload_n 1, 1) := by decide +kernel
theorem dX10_lot_89 : decode cX10_lot 89 = .ok (.i2l, 1) := by decide +kernel
theorem dX10_lot_90 : decode cX10_lot 90 = .ok (.lstore 5, 2) := by decide +kernel
theorem dX10_lot_92 : decode cX10_lot 92 = .ok (.bipush (-2), 2) := by decide +kernel
theorem dX10_lot_94 : decode cX10_lot 94 = .ok (.istore 7, 2) := by decide +kernel
theorem dX10_lot_96 : decode cX10_lot 96 = .ok (.iconst 0, 1) := by decide +kernel
theorem dX10_lot_97 : decode cX10_lot 97 = .ok (.istore 8, 2) := by decide +kernel
theorem dX10_lot_99 : decode cX10_lot 99 = .ok (.iload 8, 2) := by decide +kernel
theorem dX10_lot_101 : decode cX10_lot 101 = .ok (.iload_n 2, 1) := by decide +kernel
theorem dX10_lot_102 : decode cX10_lot 102 = .ok (.if_icmp .gt 91, 3) := by decide +kernel
theorem dX10_lot_105 : decode cX10_lot 105 = .ok (.lload 5, 2) := by decide +kernel
theorem dX10_lot_107 : decode cX10_lot 107 = .ok (.ldc2_w 299, 3) := by decide +kernel
theorem dX10_lot_110 : decode cX10_lot 110 = .ok (.lmul, 1) := by decide +kernel
theorem dX10_lot_111 : decode cX10_lot 111 = .ok (.ldc2_w 301, 3) := by decide +kernel
theorem dX10_lot_114 : decode cX10_lot 114 = .ok (.ladd, 1) := by decide +kernel
theorem dX10_lot_115 : decode cX10_lot 115 = .ok (.ldc2_w 303, 3) := by decide +kernel
theorem dX10_lot_118 : decode cX10_lot 118 = .ok (.lrem, 1) := by decide +kernel
theorem dX10_lot_119 : decode cX10_lot 119 = .ok (.lstore 5, 2) := by decide +kernel
theorem dX10_lot_121 : decode cX10_lot 121 = .ok (.lload 5, 2) := by decide +kernel
theorem dX10_lot_123 : decode cX10_lot 123 = .ok (.ldc2_w 305, 3) := by decide +kernel
theorem dX10_lot_126 : decode cX10_lot 126 = .ok (.ldiv, 1) := by decide +kernel
theorem dX10_lot_127 : decode cX10_lot 127 = .ok (.iload 4, 2) := by decide +kernel
theorem dX10_lot_129 : decode cX10_lot 129 = .ok (.i2l, 1) := by decide +kernel
theorem dX10_lot_130 : decode cX10_lot 130 = .ok (.lrem, 1) := by decide +kernel
theorem dX10_lot_131 : decode cX10_lot 131 = .ok (.l2i, 1) := by decide +kernel
theorem dX10_lot_132 : decode cX10_lot 132 = .ok (.istore 9, 2) := by decide +kernel
theorem dX10_lot_134 : decode cX10_lot 134 = .ok (.iconst 0, 1) := by decide +kernel
theorem dX10_lot_135 : decode cX10_lot 135 = .ok (.istore 7, 2) := by decide +kernel
theorem dX10_lot_137 : decode cX10_lot 137 = .ok (.iload 9, 2) := by decide +kernel
theorem dX10_lot_139 : decode cX10_lot 139 = .ok (.aload_n 0, 1) := by decide +kernel
theorem dX10_lot_140 : decode cX10_lot 140 = .ok (.getfield 76, 3) := by decide +kernel
theorem dX10_lot_143 : decode cX10_lot 143 = .ok (.iload 7, 2) := by decide +kernel
theorem dX10_lot_145 : decode cX10_lot 145 = .ok (.iaload, 1) := by decide +kernel
theorem dX10_lot_146 : decode cX10_lot 146 = .ok (.if_icmp .lt 21, 3) := by decide +kernel
theorem dX10_lot_149 : decode cX10_lot 149 = .ok (.iload 9, 2) := by decide +kernel
theorem dX10_lot_151 : decode cX10_lot 151 = .ok (.aload_n 0, 1) := by decide +kernel
theorem dX10_lot_152 : decode cX10_lot 152 = .ok (.getfield 76, 3) := by decide +kernel
theorem dX10_lot_155 : decode cX10_lot 155 = .ok (.iload 7, 2) := by decide +kernel
theorem dX10_lot_157 : decode cX10_lot 157 = .ok (.iaload, 1) := by decide +kernel
theorem dX10_lot_158 : decode cX10_lot 158 = .ok (.isub, 1) := by decide +kernel
theorem dX10_lot_159 : decode cX10_lot 159 = .ok (.istore 9, 2) := by decide +kernel
theorem dX10_lot_161 : decode cX10_lot 161 = .ok (.iinc 7 1, 3) := by decide +kernel
theorem dX10_lot_164 : decode cX10_lot 164 = .ok (.goto (-27), 3) := by decide +kernel
theorem dX10_lot_167 : decode cX10_lot 167 = .ok (.iload 4, 2) := by decide +kernel
theorem dX10_lot_169 : decode cX10_lot 169 = .ok (.aload_n 0, 1) := by decide +kernel
theorem dX10_lot_170 : decode cX10_lot 170 = .ok (.getfield 76, 3) := by decide +kernel
theorem dX10_lot_173 : decode cX10_lot 173 = .ok (.iload 7, 2) := by decide +kernel
theorem dX10_lot_175 : decode cX10_lot 175 = .ok (.iaload, 1) := by decide +kernel
theorem dX10_lot_176 : decode cX10_lot 176 = .ok (.isub, 1) := by decide +kernel
theorem dX10_lot_177 : decode cX10_lot 177 = .ok (.istore 4, 2) := by decide +kernel
theorem dX10_lot_179 : decode cX10_lot 179 = .ok (.aload_n 0, 1) := by decide +kernel
theorem dX10_lot_180 : decode cX10_lot 180 = .ok (.getfield 76, 3) := by decide +kernel
theorem dX10_lot_183 : decode cX10_lot 183 = .ok (.iload 7, 2) := by decide +kernel
theorem dX10_lot_185 : decode cX10_lot 185 = .ok (.iconst 0, 1) := by decide +kernel
theorem dX10_lot_186 : decode cX10_lot 186 = .ok (.iastore, 1) := by decide +kernel
theorem dX10_lot_187 : decode cX10_lot 187 = .ok (.iinc 8 1, 3) := by decide +kernel
theorem dX10_lot_190 : decode cX10_lot 190 = .ok (.goto (-91), 3) := by decide +kernel
theorem dX10_lot_193 : decode cX10_lot 193 = .ok (.iload 7, 2) := by decide +kernel
theorem dX10_lot_195 : decode cX10_lot 195 = .ok (.ireturn, 1) := by decide +kernel
theorem dX10_oneOf_0 : decode cX10_oneOf 0 = .ok (.iload_n 1, 1) := by decide +kernel
theorem dX10_oneOf_1 : decode cX10_oneOf 1 = .ok (.iload_n 2, 1) := by decide +kernel
theorem dX10_oneOf_2 : decode cX10_oneOf 2 = .ok (.iadd, 1) := by decide +kernel
theorem dX10_oneOf_3 : decode cX10_oneOf 3 = .ok (.iconst 2, 1) := by decide +kernel
theorem dX10_oneOf_4 : decode cX10_oneOf 4 = .ok (.if_icmp .ge 7, 3) := by decide +kernel
theorem dX10_oneOf_7 : decode cX10_oneOf 7 = .ok (.iconst 0, 1) := by decide +kernel
theorem dX10_oneOf_8 : decode cX10_oneOf 8 = .ok (.goto 14, 3) := by decide +kernel
theorem dX10_oneOf_11 : decode cX10_oneOf 11 = .ok (.aload_n 0, 1) := by decide +kernel
theorem dX10_oneOf_12 : decode cX10_oneOf 12 = .ok (.getfield 79, 3) := by decide +kernel
theorem dX10_oneOf_15 : decode cX10_oneOf 15 = .ok (.bipush 13, 2) := by decide +kernel
theorem dX10_oneOf_17 : decode cX10_oneOf 17 = .ok (.iload_n 1, 1) := by decide +kernel
theorem dX10_oneOf_18 : decode cX10_oneOf 18 = .ok (.imul, 1) := by decide +kernel
theorem dX10_oneOf_19 : decode cX10_oneOf 19 = .ok (.iload_n 2, 1) := by decide +kernel
theorem dX10_oneOf_20 : decode cX10_oneOf 20 = .ok (.iadd, 1) := by decide +kernel
theorem dX10_oneOf_21 : decode cX10_oneOf 21 = .ok (.iaload, 1) := by decide +kernel
theorem dX10_oneOf_22 : decode cX10_oneOf 22 = .ok (.ireturn, 1) := by decide +kernel
theorem dX10_bothOf_0 : decode cX10_bothOf 0 = .ok (.iconst 2, 1) := by decide +kernel
theorem dX10_bothOf_1 : decode cX10_bothOf 1 = .ok (.iload_n 1, 1) := by decide +kernel
theorem dX10_bothOf_2 : decode cX10_bothOf 2 = .ok (.imul, 1) := by decide +kernel
theorem dX10_bothOf_3 : decode cX10_bothOf 3 = .ok (.iload_n 2, 1) := by decide +kernel
theorem dX10_bothOf_4 : decode cX10_bothOf 4 = .ok (.iadd, 1) := by decide +kernel
theorem dX10_bothOf_5 : decode cX10_bothOf 5 = .ok (.iconst 2, 1) := by decide +kernel
theorem dX10_bothOf_6 : decode cX10_bothOf 6 = .ok (.if_icmp .ge 7, 3) := by decide +kernel
theorem dX10_bothOf_9 : decode cX10_bothOf 9 = .ok (.iconst 0, 1) := by decide +kernel
theorem dX10_bothOf_10 : decode cX10_bothOf 10 = .ok (.goto 13, 3) := by decide +kernel
theorem dX10_bothOf_13 : decode cX10_bothOf 13 = .ok (.aload_n 0, 1) := by decide +kernel
theorem dX10_bothOf_14 : decode cX10_bothOf 14 = .ok (.getfield 82, 3) := by decide +kernel
theorem dX10_bothOf_17 : decode cX10_bothOf 17 = .ok (.iconst 2, 1) := by decide +kernel
theorem dX10_bothOf_18 : decode cX10_bothOf 18 = .ok (.iload_n 1, 1) := by decide +kernel
theorem dX10_bothOf_19 : decode cX10_bothOf 19 = .ok (.imul, 1) := by decide +kernel
theorem dX10_bothOf_20 : decode cX10_bothOf 20 = .ok (.iload_n 2, 1) := by decide +kernel
theorem dX10_bothOf_21 : decode cX10_bothOf 21 = .ok (.iadd, 1) := by decide +kernel
theorem dX10_bothOf_22 : decode cX10_bothOf 22 = .ok (.iaload, 1) := by decide +kernel
theorem dX10_bothOf_23 : decode cX10_bothOf 23 = .ok (.ireturn, 1) := by decide +kernel
theorem dX10_leastOne_0 : decode cX10_leastOne 0 = .ok (.bipush 99, 2) := by decide +kernel
theorem dX10_leastOne_2 : decode cX10_leastOne 2 = .ok (.istore 4, 2) := by decide +kernel
theorem dX10_leastOne_4 : decode cX10_leastOne 4 = .ok (.iconst 0, 1) := by decide +kernel
theorem dX10_leastOne_5 : decode cX10_leastOne 5 = .ok (.istore 5, 2) := by decide +kernel
theorem dX10_leastOne_7 : decode cX10_leastOne 7 = .ok (.iload 5, 2) := by decide +kernel
theorem dX10_leastOne_9 : decode cX10_leastOne 9 = .ok (.iload_n 1, 1) := by decide +kernel
theorem dX10_leastOne_10 : decode cX10_leastOne 10 = .ok (.if_icmp .gt 192, 3) := by decide +kernel
theorem dX10_leastOne_13 : decode cX10_leastOne 13 = .ok (.iconst 0, 1) := by decide +kernel
theorem dX10_leastOne_14 : decode cX10_leastOne 14 = .ok (.istore 6, 2) := by decide +kernel
theorem dX10_leastOne_16 : decode cX10_leastOne 16 = .ok (.iload 5, 2) := by decide +kernel
theorem dX10_leastOne_18 : decode cX10_leastOne 18 = .ok (.iload 6, 2) := by decide +kernel
theorem dX10_leastOne_20 : decode cX10_leastOne 20 = .ok (.iadd, 1) := by decide +kernel
theorem dX10_leastOne_21 : decode cX10_leastOne 21 = .ok (.iload_n 1, 1) := by decide +kernel
theorem dX10_leastOne_22 : decode cX10_leastOne 22 = .ok (.if_icmp .gt 174, 3) := by decide +kernel
theorem dX10_leastOne_25 : decode cX10_leastOne 25 = .ok (.iconst 0, 1) := by decide +kernel
theorem dX10_leastOne_26 : decode cX10_leastOne 26 = .ok (.istore 7, 2) := by decide +kernel
theorem dX10_leastOne_28 : decode cX10_leastOne 28 = .ok (.iload 7, 2) := by decide +kernel
theorem dX10_leastOne_30 : decode cX10_leastOne 30 = .ok (.iload_n 2, 1) := by decide +kernel
theorem dX10_leastOne_31 : decode cX10_leastOne 31 = .ok (.if_icmp .gt 159, 3) := by decide +kernel
theorem dX10_leastOne_34 : decode cX10_leastOne 34 = .ok (.iconst 0, 1) := by decide +kernel
theorem dX10_leastOne_35 : decode cX10_leastOne 35 = .ok (.istore 8, 2) := by decide +kernel
theorem dX10_leastOne_37 : decode cX10_leastOne 37 = .ok (.iload 7, 2) := by decide +kernel
theorem dX10_leastOne_39 : decode cX10_leastOne 39 = .ok (.iload 8, 2) := by decide +kernel
theorem dX10_leastOne_41 : decode cX10_leastOne 41 = .ok (.iadd, 1) := by decide +kernel
theorem dX10_leastOne_42 : decode cX10_leastOne 42 = .ok (.iload_n 2, 1) := by decide +kernel
theorem dX10_leastOne_43 : decode cX10_leastOne 43 = .ok (.if_icmp .gt 141, 3) := by decide +kernel
theorem dX10_leastOne_46 : decode cX10_leastOne 46 = .ok (.iload 5, 2) := by decide +kernel
theorem dX10_leastOne_48 : decode cX10_leastOne 48 = .ok (.iload 7, 2) := by decide +kernel
theorem dX10_leastOne_50 : decode cX10_leastOne 50 = .ok (.iadd, 1) := by decide +kernel
theorem dX10_leastOne_51 : decode cX10_leastOne 51 = .ok (.iload 6, 2) := by decide +kernel
theorem dX10_leastOne_53 : decode cX10_leastOne 53 = .ok (.isub, 1) := by decide +kernel
theorem dX10_leastOne_54 : decode cX10_leastOne 54 = .ok (.iload 8, 2) := by decide +kernel
theorem dX10_leastOne_56 : decode cX10_leastOne 56 = .ok (.isub, 1) := by decide +kernel
theorem dX10_leastOne_57 : decode cX10_leastOne 57 = .ok (.istore 9, 2) := by decide +kernel
theorem dX10_leastOne_59 : decode cX10_leastOne 59 = .ok (.iload 5, 2) := by decide +kernel
theorem dX10_leastOne_61 : decode cX10_leastOne 61 = .ok (.iload 8, 2) := by decide +kernel
theorem dX10_leastOne_63 : decode cX10_leastOne 63 = .ok (.iadd, 1) := by decide +kernel
theorem dX10_leastOne_64 : decode cX10_leastOne 64 = .ok (.iload_n 1, 1) := by decide +kernel
theorem dX10_leastOne_65 : decode cX10_leastOne 65 = .ok (.iload_n 2, 1) := by decide +kernel
theorem dX10_leastOne_66 : decode cX10_leastOne 66 = .ok (.iadd, 1) := by decide +kernel
theorem dX10_leastOne_67 : decode cX10_leastOne 67 = .ok (.if_icmp .ge 32, 3) := by decide +kernel
theorem dX10_leastOne_70 : decode cX10_leastOne 70 = .ok (.iload 6, 2) := by decide +kernel
theorem dX10_leastOne_72 : decode cX10_leastOne 72 = .ok (.iload 7, 2) := by decide +kernel
theorem dX10_leastOne_74 : decode cX10_leastOne 74 = .ok (.iadd, 1) := by decide +kernel
theorem dX10_leastOne_75 : decode cX10_leastOne 75 = .ok (.iload_n 1, 1) := by decide +kernel
theorem dX10_leastOne_76 : decode cX10_leastOne 76 = .ok (.iload_n 2, 1) := by decide +kernel
theorem dX10_leastOne_77 : decode cX10_leastOne 77 = .ok (.iadd, 1) := by decide +kernel
theorem dX10_leastOne_78 : decode cX10_leastOne 78 = .ok (.if_icmp .ge 21, 3) := by decide +kernel
theorem dX10_leastOne_81 : decode cX10_leastOne 81 = .ok (.iload 5, 2) := by decide +kernel
theorem dX10_leastOne_83 : decode cX10_leastOne 83 = .ok (.iload 6, 2) := by decide +kernel
theorem dX10_leastOne_85 : decode cX10_leastOne 85 = .ok (.iadd, 1) := by decide +kernel
theorem dX10_leastOne_86 : decode cX10_leastOne 86 = .ok (.iload 7, 2) := by decide +kernel
theorem dX10_leastOne_88 : decode cX10_leastOne 88 = .ok (.iadd, 1) := by decide +kernel
theorem dX10_leastOne_89 : decode cX10_leastOne 89 = .ok (.iload 8, 2) := by decide +kernel
theorem dX10_leastOne_91 : decode cX10_leastOne 91 = .ok (.iadd, 1) := by decide +kernel
theorem dX10_leastOne_92 : decode cX10_leastOne 92 = .ok (.ifCond .le 7, 3) := by decide +kernel
theorem dX10_leastOne_95 : decode cX10_leastOne 95 = .ok (.iconst 1, 1) := by decide +kernel
theorem dX10_leastOne_96 : decode cX10_leastOne 96 = .ok (.goto 4, 3) := by decide +kernel
theorem dX10_leastOne_99 : decode cX10_leastOne 99 = .ok (.iconst 0, 1) := by decide +kernel
theorem dX10_leastOne_100 : decode cX10_leastOne 100 = .ok (.istore 10, 2) := by decide +kernel
theorem dX10_leastOne_102 : decode cX10_leastOne 102 = .ok (.iload 10, 2) := by decide +kernel
theorem dX10_leastOne_104 : decode cX10_leastOne 104 = .ok (.ifCond .eq 74, 3) := by decide +kernel
theorem dX10_leastOne_107 : decode cX10_leastOne 107 = .ok (.iload 9, 2) := by decide +kernel
theorem dX10_leastOne_109 : decode cX10_leastOne 109 = .ok (.invokestatic 268, 3) := by decide +kernel
theorem dX10_leastOne_112 : decode cX10_leastOne 112 = .ok (.iload_n 3, 1) := by decide +kernel
theorem dX10_leastOne_113 : decode cX10_leastOne 113 = .ok (.if_icmp .gt 65, 3) := by decide +kernel
theorem dX10_leastOne_116 : decode cX10_leastOne 116 = .ok (.aload_n 0, 1) := by decide +kernel
theorem dX10_leastOne_117 : decode cX10_leastOne 117 = .ok (.iload_n 1, 1) := by decide +kernel
theorem dX10_leastOne_118 : decode cX10_leastOne 118 = .ok (.iload 5, 2) := by decide +kernel
theorem dX10_leastOne_120 : decode cX10_leastOne 120 = .ok (.isub, 1) := by decide +kernel
theorem dX10_leastOne_121 : decode cX10_leastOne 121 = .ok (.iload 6, 2) := by decide +kernel
theorem dX10_leastOne_123 : decode cX10_leastOne 123 = .ok (.isub, 1) := by decide +kernel
theorem dX10_leastOne_124 : decode cX10_leastOne 124 = .ok (.iload_n 2, 1) := by decide +kernel
theorem dX10_leastOne_125 : decode cX10_leastOne 125 = .ok (.iload 7, 2) := by decide +kernel
theorem dX10_leastOne_127 : decode cX10_leastOne 127 = .ok (.isub, 1) := by decide +kernel
theorem dX10_leastOne_128 : decode cX10_leastOne 128 = .ok (.iload 8, 2) := by decide +kernel
theorem dX10_leastOne_130 : decode cX10_leastOne 130 = .ok (.isub, 1) := by decide +kernel
theorem dX10_leastOne_131 : decode cX10_leastOne 131 = .ok (.invokevirtual 314, 3) := by decide +kernel
theorem dX10_leastOne_134 : decode cX10_leastOne 134 = .ok (.aload_n 0, 1) := by decide +kernel
theorem dX10_leastOne_135 : decode cX10_leastOne 135 = .ok (.iload 5, 2) := by decide +kernel
theorem dX10_leastOne_137 : decode cX10_leastOne 137 = .ok (.iload 8, 2) := by decide +kernel
theorem dX10_leastOne_139 : decode cX10_leastOne 139 = .ok (.invokevirtual 314, 3) := by decide +kernel
theorem dX10_leastOne_142 : decode cX10_leastOne 142 = .ok (.aload_n 0, 1) := by decide +kernel
theorem dX10_leastOne_143 : decode cX10_leastOne 143 = .ok (.iload 6, 2) := by decide +kernel
theorem dX10_leastOne_145 : decode cX10_leastOne 145 = .ok (.iload 7, 2) := by decide +kernel
theorem dX10_leastOne_147 : decode cX10_leastOne 147 = .ok (.invokevirtual 314, 3) := by decide +kernel
theorem dX10_leastOne_150 : decode cX10_leastOne 150 = .ok (.invokestatic 317, 3) := by decide +kernel
theorem dX10_leastOne_153 : decode cX10_leastOne 153 = .ok (.invokestatic 317, 3) := by decide +kernel
theorem dX10_leastOne_156 : decode cX10_leastOne 156 = .ok (.istore 11, 2) := by decide +kernel
theorem dX10_leastOne_158 : decode cX10_leastOne 158 = .ok (.iload 11, 2) := by decide +kernel
theorem dX10_leastOne_160 : decode cX10_leastOne 160 = .ok (.iconst 1, 1) := by decide +kernel
theorem dX10_leastOne_161 : decode cX10_leastOne 161 = .ok (.iadd, 1) := by decide +kernel
theorem dX10_leastOne_162 : decode cX10_leastOne 162 = .ok (.iload 4, 2) := by decide +kernel
theorem dX10_leastOne_164 : decode cX10_leastOne 164 = .ok (.if_icmp .ge 10, 3) := by decide +kernel
theorem dX10_leastOne_167 : decode cX10_leastOne 167 = .ok (.iload 11, 2) := by decide +kernel
theorem dX10_leastOne_169 : decode cX10_leastOne 169 = .ok (.iconst 1, 1) := by decide +kernel
theorem dX10_leastOne_170 : decode cX10_leastOne 170 = .ok (.iadd, 1) := by decide +kernel
theorem dX10_leastOne_171 : decode cX10_leastOne 171 = .ok (.goto 5, 3) := by decide +kernel
theorem dX10_leastOne_174 : decode cX10_leastOne 174 = .ok (.iload 4, 2) := by decide +kernel
theorem dX10_leastOne_176 : decode cX10_leastOne 176 = .ok (.istore 4, 2) := by decide +kernel
theorem dX10_leastOne_178 : decode cX10_leastOne 178 = .ok (.iinc 8 1, 3) := by decide +kernel
theorem dX10_leastOne_181 : decode cX10_leastOne 181 = .ok (.goto (-144), 3) := by decide +kernel
theorem dX10_leastOne_184 : decode cX10_leastOne 184 = .ok (.iinc 7 1, 3) := by decide +kernel
theorem dX10_leastOne_187 : decode cX10_leastOne 187 = .ok (.goto (-159), 3) := by decide +kernel
theorem dX10_leastOne_190 : decode cX10_leastOne 190 = .ok (.iinc 6 1, 3) := by decide +kernel
theorem dX10_leastOne_193 : decode cX10_leastOne 193 = .ok (.goto (-177), 3) := by decide +kernel
theorem dX10_leastOne_196 : decode cX10_leastOne 196 = .ok (.iinc 5 1, 3) := by decide +kernel
theorem dX10_leastOne_199 : decode cX10_leastOne 199 = .ok (.goto (-192), 3) := by decide +kernel
theorem dX10_leastOne_202 : decode cX10_leastOne 202 = .ok (.iload 4, 2) := by decide +kernel
theorem dX10_leastOne_204 : decode cX10_leastOne 204 = .ok (.ireturn, 1) := by decide +kernel
theorem dX10_leastBoth_0 : decode cX10_leastBoth 0 = .ok (.bipush 99, 2) := by decide +kernel
theorem dX10_leastBoth_2 : decode cX10_leastBoth 2 = .ok (.istore 4, 2) := by decide +kernel
theorem dX10_leastBoth_4 : decode cX10_leastBoth 4 = .ok (.iconst 0, 1) := by decide +kernel
theorem dX10_leastBoth_5 : decode cX10_leastBoth 5 = .ok (.istore 5, 2) := by decide +kernel
theorem dX10_leastBoth_7 : decode cX10_leastBoth 7 = .ok (.iload 5, 2) := by decide +kernel
theorem dX10_leastBoth_9 : decode cX10_leastBoth 9 = .ok (.iload_n 1, 1) := by decide +kernel
theorem dX10_leastBoth_10 : decode cX10_leastBoth 10 = .ok (.if_icmp .gt 103, 3) := by decide +kernel
theorem dX10_leastBoth_13 : decode cX10_leastBoth 13 = .ok (.iconst 0, 1) := by decide +kernel
theorem dX10_leastBoth_14 : decode cX10_leastBoth 14 = .ok (.istore 6, 2) := by decide +kernel
theorem dX10_leastBoth_16 : decode cX10_leastBoth 16 = .ok (.iload 5, 2) := by decide +kernel
theorem dX10_leastBoth_18 : decode cX10_leastBoth 18 = .ok (.iload 6, 2) := by decide +kernel
theorem dX10_leastBoth_20 : decode cX10_leastBoth 20 = .ok (.iadd, 1) := by decide +kernel
theorem dX10_leastBoth_21 : decode cX10_leastBoth 21 = .ok (.iload_n 1, 1) := by decide +kernel
theorem dX10_leastBoth_22 : decode cX10_leastBoth 22 = .ok (.if_icmp .gt 85, 3) := by decide +kernel
theorem dX10_leastBoth_25 : decode cX10_leastBoth 25 = .ok (.iload 5, 2) := by decide +kernel
theorem dX10_leastBoth_27 : decode cX10_leastBoth 27 = .ok (.iload 6, 2) := by decide +kernel
theorem dX10_leastBoth_29 : decode cX10_leastBoth 29 = .ok (.iadd, 1) := by decide +kernel
theorem dX10_leastBoth_30 : decode cX10_leastBoth 30 = .ok (.ifCond .le 71, 3) := by decide +kernel
theorem dX10_leastBoth_33 : decode cX10_leastBoth 33 = .ok (.iload 5, 2) := by decide +kernel
theorem dX10_leastBoth_35 : decode cX10_leastBoth 35 = .ok (.iload 6, 2) := by decide +kernel
theorem dX10_leastBoth_37 : decode cX10_leastBoth 37 = .ok (.isub, 1) := by decide +kernel
theorem dX10_leastBoth_38 : decode cX10_leastBoth 38 = .ok (.invokestatic 268, 3) := by decide +kernel
theorem dX10_leastBoth_41 : decode cX10_leastBoth 41 = .ok (.iload_n 3, 1) := by decide +kernel
theorem dX10_leastBoth_42 : decode cX10_leastBoth 42 = .ok (.if_icmp .gt 59, 3) := by decide +kernel
theorem dX10_leastBoth_45 : decode cX10_leastBoth 45 = .ok (.aload_n 0, 1) := by decide +kernel
theorem dX10_leastBoth_46 : decode cX10_leastBoth 46 = .ok (.iload_n 1, 1) := by decide +kernel
theorem dX10_leastBoth_47 : decode cX10_leastBoth 47 = .ok (.iload 5, 2) := by decide +kernel
theorem dX10_leastBoth_49 : decode cX10_leastBoth 49 = .ok (.isub, 1) := by decide +kernel
theorem dX10_leastBoth_50 : decode cX10_leastBoth 50 = .ok (.iload 6, 2) := by decide +kernel
theorem dX10_leastBoth_52 : decode cX10_leastBoth 52 = .ok (.isub, 1) := by decide +kernel
theorem dX10_leastBoth_53 : decode cX10_leastBoth 53 = .ok (.iload_n 2, 1) := by decide +kernel
theorem dX10_leastBoth_54 : decode cX10_leastBoth 54 = .ok (.invokevirtual 320, 3) := by decide +kernel
theorem dX10_leastBoth_57 : decode cX10_leastBoth 57 = .ok (.aload_n 0, 1) := by decide +kernel
theorem dX10_leastBoth_58 : decode cX10_leastBoth 58 = .ok (.iload 5, 2) := by decide +kernel
theorem dX10_leastBoth_60 : decode cX10_leastBoth 60 = .ok (.iload 6, 2) := by decide +kernel
theorem dX10_leastBoth_62 : decode cX10_leastBoth 62 = .ok (.invokevirtual 314, 3) := by decide +kernel
theorem dX10_leastBoth_65 : decode cX10_leastBoth 65 = .ok (.aload_n 0, 1) := by decide +kernel
theorem dX10_leastBoth_66 : decode cX10_leastBoth 66 = .ok (.iload 6, 2) := by decide +kernel
theorem dX10_leastBoth_68 : decode cX10_leastBoth 68 = .ok (.iload 5, 2) := by decide +kernel
theorem dX10_leastBoth_70 : decode cX10_leastBoth 70 = .ok (.invokevirtual 314, 3) := by decide +kernel
theorem dX10_leastBoth_73 : decode cX10_leastBoth 73 = .ok (.invokestatic 317, 3) := by decide +kernel
theorem dX10_leastBoth_76 : decode cX10_leastBoth 76 = .ok (.invokestatic 317, 3) := by decide +kernel
theorem dX10_leastBoth_79 : decode cX10_leastBoth 79 = .ok (.istore 7, 2) := by decide +kernel
theorem dX10_leastBoth_81 : decode cX10_leastBoth 81 = .ok (.iload 7, 2) := by decide +kernel
theorem dX10_leastBoth_83 : decode cX10_leastBoth 83 = .ok (.iconst 1, 1) := by decide +kernel
theorem dX10_leastBoth_84 : decode cX10_leastBoth 84 = .ok (.iadd, 1) := by decide +kernel
theorem dX10_leastBoth_85 : decode cX10_leastBoth 85 = .ok (.iload 4, 2) := by decide +kernel
theorem dX10_leastBoth_87 : decode cX10_leastBoth 87 = .ok (.if_icmp .ge 10, 3) := by decide +kernel
theorem dX10_leastBoth_90 : decode cX10_leastBoth 90 = .ok (.iload 7, 2) := by decide +kernel
theorem dX10_leastBoth_92 : decode cX10_leastBoth 92 = .ok (.iconst 1, 1) := by decide +kernel
theorem dX10_leastBoth_93 : decode cX10_leastBoth 93 = .ok (.iadd, 1) := by decide +kernel
theorem dX10_leastBoth_94 : decode cX10_leastBoth 94 = .ok (.goto 5, 3) := by decide +kernel
theorem dX10_leastBoth_97 : decode cX10_leastBoth 97 = .ok (.iload 4, 2) := by decide +kernel
theorem dX10_leastBoth_99 : decode cX10_leastBoth 99 = .ok (.istore 4, 2) := by decide +kernel
theorem dX10_leastBoth_101 : decode cX10_leastBoth 101 = .ok (.iinc 6 1, 3) := by decide +kernel
theorem dX10_leastBoth_104 : decode cX10_leastBoth 104 = .ok (.goto (-88), 3) := by decide +kernel
theorem dX10_leastBoth_107 : decode cX10_leastBoth 107 = .ok (.iinc 5 1, 3) := by decide +kernel
theorem dX10_leastBoth_110 : decode cX10_leastBoth 110 = .ok (.goto (-103), 3) := by decide +kernel
theorem dX10_leastBoth_113 : decode cX10_leastBoth 113 = .ok (.iload 4, 2) := by decide +kernel
theorem dX10_leastBoth_115 : decode cX10_leastBoth 115 = .ok (.ireturn, 1) := by decide +kernel
theorem dX10_lays_0 : decode cX10_lays 0 = .ok (.iconst 2, 1) := by decide +kernel
theorem dX10_lays_1 : decode cX10_lays 1 = .ok (.istore_n 2, 1) := by decide +kernel
theorem dX10_lays_2 : decode cX10_lays 2 = .ok (.iload_n 2, 1) := by decide +kernel
theorem dX10_lays_3 : decode cX10_lays 3 = .ok (.iload_n 1, 1) := by decide +kernel
theorem dX10_lays_4 : decode cX10_lays 4 = .ok (.if_icmp .gt 46, 3) := by decide +kernel
theorem dX10_lays_7 : decode cX10_lays 7 = .ok (.iconst 0, 1) := by decide +kernel
theorem dX10_lays_8 : decode cX10_lays 8 = .ok (.istore_n 3, 1) := by decide +kernel
theorem dX10_lays_9 : decode cX10_lays 9 = .ok (.iload_n 3, 1) := by decide +kernel
theorem dX10_lays_10 : decode cX10_lays 10 = .ok (.iload_n 2, 1) := by decide +kernel
theorem dX10_lays_11 : decode cX10_lays 11 = .ok (.if_icmp .gt 33, 3) := by decide +kernel
theorem dX10_lays_14 : decode cX10_lays 14 = .ok (.aload_n 0, 1) := by decide +kernel
theorem dX10_lays_15 : decode cX10_lays 15 = .ok (.getfield 79, 3) := by decide +kernel
theorem dX10_lays_18 : decode cX10_lays 18 = .ok (.bipush 13, 2) := by decide +kernel
theorem dX10_lays_20 : decode cX10_lays 20 = .ok (.iload_n 3, 1) := by decide +kernel
theorem dX10_lays_21 : decode cX10_lays 21 = .ok (.imul, 1) := by decide +kernel
theorem dX10_lays_22 : decode cX10_lays 22 = .ok (.iload_n 2, 1) := by decide +kernel
theorem dX10_lays_23 : decode cX10_lays 23 = .ok (.iadd, 1) := by decide +kernel
theorem dX10_lays_24 : decode cX10_lays 24 = .ok (.iload_n 3, 1) := by decide +kernel
theorem dX10_lays_25 : decode cX10_lays 25 = .ok (.isub, 1) := by decide +kernel
theorem dX10_lays_26 : decode cX10_lays 26 = .ok (.aload_n 0, 1) := by decide +kernel
theorem dX10_lays_27 : decode cX10_lays 27 = .ok (.iload_n 3, 1) := by decide +kernel
theorem dX10_lays_28 : decode cX10_lays 28 = .ok (.iload_n 2, 1) := by decide +kernel
theorem dX10_lays_29 : decode cX10_lays 29 = .ok (.iload_n 3, 1) := by decide +kernel
theorem dX10_lays_30 : decode cX10_lays 30 = .ok (.isub, 1) := by decide +kernel
theorem dX10_lays_31 : decode cX10_lays 31 = .ok (.iload_n 1, 1) := by decide +kernel
theorem dX10_lays_32 : decode cX10_lays 32 = .ok (.iload_n 2, 1) := by decide +kernel
theorem dX10_lays_33 : decode cX10_lays 33 = .ok (.isub, 1) := by decide +kernel
theorem dX10_lays_34 : decode cX10_lays 34 = .ok (.invokevirtual 307, 3) := by decide +kernel
theorem dX10_lays_37 : decode cX10_lays 37 = .ok (.iastore, 1) := by decide +kernel
theorem dX10_lays_38 : decode cX10_lays 38 = .ok (.iinc 3 1, 3) := by decide +kernel
theorem dX10_lays_41 : decode cX10_lays 41 = .ok (.goto (-32), 3) := by decide +kernel
theorem dX10_lays_44 : decode cX10_lays 44 = .ok (.iinc 2 1, 3) := by decide +kernel
theorem dX10_lays_47 : decode cX10_lays 47 = .ok (.goto (-45), 3) := by decide +kernel
theorem dX10_lays_50 : decode cX10_lays 50 = .ok (.iconst 1, 1) := by decide +kernel
theorem dX10_lays_51 : decode cX10_lays 51 = .ok (.istore_n 2, 1) := by decide +kernel
theorem dX10_lays_52 : decode cX10_lays 52 = .ok (.iload_n 2, 1) := by decide +kernel
theorem dX10_lays_53 : decode cX10_lays 53 = .ok (.iload_n 1, 1) := by decide +kernel
theorem dX10_lays_54 : decode cX10_lays 54 = .ok (.if_icmp .gt 45, 3) := by decide +kernel
theorem dX10_lays_57 : decode cX10_lays 57 = .ok (.aload_n 0, 1) := by decide +kernel
theorem dX10_lays_58 : decode cX10_lays 58 = .ok (.getfield 82, 3) := by decide +kernel
theorem dX10_lays_61 : decode cX10_lays 61 = .ok (.iconst 2, 1) := by decide +kernel
theorem dX10_lays_62 : decode cX10_lays 62 = .ok (.iload_n 2, 1) := by decide +kernel
theorem dX10_lays_63 : decode cX10_lays 63 = .ok (.imul, 1) := by decide +kernel
theorem dX10_lays_64 : decode cX10_lays 64 = .ok (.aload_n 0, 1) := by decide +kernel
theorem dX10_lays_65 : decode cX10_lays 65 = .ok (.iload_n 2, 1) := by decide +kernel
theorem dX10_lays_66 : decode cX10_lays 66 = .ok (.iconst 0, 1) := by decide +kernel
theorem dX10_lays_67 : decode cX10_lays 67 = .ok (.iload_n 1, 1) := by decide +kernel
theorem dX10_lays_68 : decode cX10_lays 68 = .ok (.iload_n 2, 1) := by decide +kernel
theorem dX10_lays_69 : decode cX10_lays 69 = .ok (.isub, 1) := by decide +kernel
theorem dX10_lays_70 : decode cX10_lays 70 = .ok (.invokevirtual 311, 3) := by decide +kernel
theorem dX10_lays_73 : decode cX10_lays 73 = .ok (.iastore, 1) := by decide +kernel
theorem dX10_lays_74 : decode cX10_lays 74 = .ok (.aload_n 0, 1) := by decide +kernel
theorem dX10_lays_75 : decode cX10_lays 75 = .ok (.getfield 82, 3) := by decide +kernel
theorem dX10_lays_78 : decode cX10_lays 78 = .ok (.iconst 2, 1) := by decide +kernel
theorem dX10_lays_79 : decode cX10_lays 79 = .ok (.iload_n 2, 1) := by decide +kernel
theorem dX10_lays_80 : decode cX10_lays 80 = .ok (.imul, 1) := by decide +kernel
theorem dX10_lays_81 : decode cX10_lays 81 = .ok (.iconst 1, 1) := by decide +kernel
theorem dX10_lays_82 : decode cX10_lays 82 = .ok (.iadd, 1) := by decide +kernel
theorem dX10_lays_83 : decode cX10_lays 83 = .ok (.aload_n 0, 1) := by decide +kernel
theorem dX10_lays_84 : decode cX10_lays 84 = .ok (.iload_n 2, 1) := by decide +kernel
theorem dX10_lays_85 : decode cX10_lays 85 = .ok (.iconst 1, 1) := by decide +kernel
theorem dX10_lays_86 : decode cX10_lays 86 = .ok (.iload_n 1, 1) := by decide +kernel
theorem dX10_lays_87 : decode cX10_lays 87 = .ok (.iload_n 2, 1) := by decide +kernel
theorem dX10_lays_88 : decode cX10_lays 88 = .ok (.isub, 1) := by decide +kernel
theorem dX10_lays_89 : decode cX10_lays 89 = .ok (.invokevirtual 311, 3) := by decide +kernel
theorem dX10_lays_92 : decode cX10_lays 92 = .ok (.iastore, 1) := by decide +kernel
theorem dX10_lays_93 : decode cX10_lays 93 = .ok (.iinc 2 1, 3) := by decide +kernel
theorem dX10_lays_96 : decode cX10_lays 96 = .ok (.goto (-44), 3) := by decide +kernel
theorem dX10_lays_99 : decode cX10_lays 99 = .ok (.return_, 1) := by decide +kernel
theorem dX10_needs_0 : decode cX10_needs 0 = .ok (.iload_n 1, 1) := by decide +kernel
theorem dX10_needs_1 : decode cX10_needs 1 = .ok (.invokestatic 244, 3) := by decide +kernel
theorem dX10_needs_4 : decode cX10_needs 4 = .ok (.iload_n 2, 1) := by decide +kernel
theorem dX10_needs_5 : decode cX10_needs 5 = .ok (.invokestatic 244, 3) := by decide +kernel
theorem dX10_needs_8 : decode cX10_needs 8 = .ok (.iadd, 1) := by decide +kernel
theorem dX10_needs_9 : decode cX10_needs 9 = .ok (.iload_n 3, 1) := by decide +kernel
theorem dX10_needs_10 : decode cX10_needs 10 = .ok (.iadd, 1) := by decide +kernel
theorem dX10_needs_11 : decode cX10_needs 11 = .ok (.iconst 2, 1) := by decide +kernel
theorem dX10_needs_12 : decode cX10_needs 12 = .ok (.if_icmp .ge 5, 3) := by decide +kernel
theorem dX10_needs_15 : decode cX10_needs 15 = .ok (.iconst 0, 1) := by decide +kernel
theorem dX10_needs_16 : decode cX10_needs 16 = .ok (.ireturn, 1) := by decide +kernel
theorem dX10_needs_17 : decode cX10_needs 17 = .ok (.iload_n 1, 1) := by decide +kernel
theorem dX10_needs_18 : decode cX10_needs 18 = .ok (.iload_n 2, 1) := by decide +kernel
theorem dX10_needs_19 : decode cX10_needs 19 = .ok (.iand, 1) := by decide +kernel
theorem dX10_needs_20 : decode cX10_needs 20 = .ok (.ifCond .eq 15, 3) := by decide +kernel
theorem dX10_needs_23 : decode cX10_needs 23 = .ok (.aload_n 0, 1) := by decide +kernel
theorem dX10_needs_24 : decode cX10_needs 24 = .ok (.iload_n 1, 1) := by decide +kernel
theorem dX10_needs_25 : decode cX10_needs 25 = .ok (.invokestatic 244, 3) := by decide +kernel
theorem dX10_needs_28 : decode cX10_needs 28 = .ok (.iload_n 3, 1) := by decide +kernel
theorem dX10_needs_29 : decode cX10_needs 29 = .ok (.invokevirtual 320, 3) := by decide +kernel
theorem dX10_needs_32 : decode cX10_needs 32 = .ok (.goto 15, 3) := by decide +kernel
theorem dX10_needs_35 : decode cX10_needs 35 = .ok (.aload_n 0, 1) := by decide +kernel
theorem dX10_needs_36 : decode cX10_needs 36 = .ok (.iload_n 1, 1) := by decide +kernel
theorem dX10_needs_37 : decode cX10_needs 37 = .ok (.invokestatic 244, 3) := by decide +kernel
theorem dX10_needs_40 : decode cX10_needs 40 = .ok (.iload_n 2, 1) := by decide +kernel
theorem dX10_needs_41 : decode cX10_needs 41 = .ok (.invokestatic 244, 3) := by decide +kernel
theorem dX10_needs_44 : decode cX10_needs 44 = .ok (.invokevirtual 314, 3) := by decide +kernel
theorem dX10_needs_47 : decode cX10_needs 47 = .ok (.ireturn, 1) := by decide +kernel
theorem dX10_isSet_0 : decode cX10_isSet 0 = .ok (.iload_n 1, 1) := by decide +kernel
theorem dX10_isSet_1 : decode cX10_isSet 1 = .ok (.i2l, 1) := by decide +kernel
theorem dX10_isSet_2 : decode cX10_isSet 2 = .ok (.lconst 0, 1) := by decide +kernel
theorem dX10_isSet_3 : decode cX10_isSet 3 = .ok (.aload_n 0, 1) := by decide +kernel
theorem dX10_isSet_4 : decode cX10_isSet 4 = .ok (.getfield 228, 3) := by decide +kernel
theorem dX10_isSet_7 : decode cX10_isSet 7 = .ok (.iconst 1, 1) := by decide +kernel
theorem dX10_isSet_8 : decode cX10_isSet 8 = .ok (.isub, 1) := by decide +kernel
theorem dX10_isSet_9 : decode cX10_isSet 9 = .ok (.i2l, 1) := by decide +kernel
theorem dX10_isSet_10 : decode cX10_isSet 10 = .ok (.invokestatic 124, 3) := by decide +kernel
theorem dX10_isSet_13 : decode cX10_isSet 13 = .ok (.ireturn, 1) := by decide +kernel
theorem dX10_countOf_0 : decode cX10_countOf 0 = .ok (.aload_n 0, 1) := by decide +kernel
theorem dX10_countOf_1 : decode cX10_countOf 1 = .ok (.getfield 13, 3) := by decide +kernel
theorem dX10_countOf_4 : decode cX10_countOf 4 = .ok (.sipush 661, 3) := by decide +kernel
theorem dX10_countOf_7 : decode cX10_countOf 7 = .ok (.iload_n 1, 1) := by decide +kernel
theorem dX10_countOf_8 : decode cX10_countOf 8 = .ok (.iadd, 1) := by decide +kernel
theorem dX10_countOf_9 : decode cX10_countOf 9 = .ok (.iaload, 1) := by decide +kernel
theorem dX10_countOf_10 : decode cX10_countOf 10 = .ok (.invokestatic 244, 3) := by decide +kernel
theorem dX10_countOf_13 : decode cX10_countOf 13 = .ok (.aload_n 0, 1) := by decide +kernel
theorem dX10_countOf_14 : decode cX10_countOf 14 = .ok (.getfield 13, 3) := by decide +kernel
theorem dX10_countOf_17 : decode cX10_countOf 17 = .ok (.sipush 665, 3) := by decide +kernel
theorem dX10_countOf_20 : decode cX10_countOf 20 = .ok (.iload_n 1, 1) := by decide +kernel
theorem dX10_countOf_21 : decode cX10_countOf 21 = .ok (.iadd, 1) := by decide +kernel
theorem dX10_countOf_22 : decode cX10_countOf 22 = .ok (.iaload, 1) := by decide +kernel
theorem dX10_countOf_23 : decode cX10_countOf 23 = .ok (.invokestatic 244, 3) := by decide +kernel
theorem dX10_countOf_26 : decode cX10_countOf 26 = .ok (.iadd, 1) := by decide +kernel
theorem dX10_countOf_27 : decode cX10_countOf 27 = .ok (.aload_n 0, 1) := by decide +kernel
theorem dX10_countOf_28 : decode cX10_countOf 28 = .ok (.getfield 13, 3) := by decide +kernel
theorem dX10_countOf_31 : decode cX10_countOf 31 = .ok (.sipush 669, 3) := by decide +kernel
theorem dX10_countOf_34 : decode cX10_countOf 34 = .ok (.iload_n 1, 1) := by decide +kernel
theorem dX10_countOf_35 : decode cX10_countOf 35 = .ok (.iadd, 1) := by decide +kernel
theorem dX10_countOf_36 : decode cX10_countOf 36 = .ok (.iaload, 1) := by decide +kernel
theorem dX10_countOf_37 : decode cX10_countOf 37 = .ok (.iadd, 1) := by decide +kernel
theorem dX10_countOf_38 : decode cX10_countOf 38 = .ok (.ireturn, 1) := by decide +kernel
theorem dX10_weightCount_0 : decode cX10_weightCount 0 = .ok (.aload_n 0, 1) := by decide +kernel
theorem dX10_weightCount_1 : decode cX10_weightCount 1 = .ok (.iconst 0, 1) := by decide +kernel
theorem dX10_weightCount_2 : decode cX10_weightCount 2 = .ok (.putfield 1, 3) := by decide +kernel
theorem dX10_weightCount_5 : decode cX10_weightCount 5 = .ok (.aload_n 0, 1) := by decide +kernel
theorem dX10_weightCount_6 : decode cX10_weightCount 6 = .ok (.iload_n 1, 1) := by decide +kernel
theorem dX10_weightCount_7 : decode cX10_weightCount 7 = .ok (.invokevirtual 323, 3) := by decide +kernel
theorem dX10_weightCount_10 : decode cX10_weightCount 10 = .ok (.ifCond .eq 12, 3) := by decide +kernel
theorem dX10_weightCount_13 : decode cX10_weightCount 13 = .ok (.aload_n 0, 1) := by decide +kernel
theorem dX10_weightCount_14 : decode cX10_weightCount 14 = .ok (.getfield 32, 3) := by decide +kernel
theorem dX10_weightCount_17 : decode cX10_weightCount 17 = .ok (.iload_n 1, 1) := by decide +kernel
theorem dX10_weightCount_18 : decode cX10_weightCount 18 = .ok (.iaload, 1) := by decide +kernel
theorem dX10_weightCount_19 : decode cX10_weightCount 19 = .ok (.goto 4, 3) := by decide +kernel
theorem dX10_weightCount_22 : decode cX10_weightCount 22 = .ok (.iconst (-1), 1) := by decide +kernel
theorem dX10_weightCount_23 : decode cX10_weightCount 23 = .ok (.ireturn, 1) := by decide +kernel
theorem dX10_weigh_0 : decode cX10_weigh 0 = .ok (.aload_n 0, 1) := by decide +kernel
theorem dX10_weigh_1 : decode cX10_weigh 1 = .ok (.iconst 0, 1) := by decide +kernel
theorem dX10_weigh_2 : decode cX10_weigh 2 = .ok (.putfield 1, 3) := by decide +kernel
theorem dX10_weigh_5 : decode cX10_weigh 5 = .ok (.aload_n 0, 1) := by decide +kernel
theorem dX10_weigh_6 : decode cX10_weigh 6 = .ok (.iload_n 1, 1) := by decide +kernel
theorem dX10_weigh_7 : decode cX10_weigh 7 = .ok (.invokevirtual 323, 3) := by decide +kernel
theorem dX10_weigh_10 : decode cX10_weigh 10 = .ok (.ifCond .ne 5, 3) := by decide +kernel
theorem dX10_weigh_13 : decode cX10_weigh 13 = .ok (.iconst (-1), 1) := by decide +kernel
theorem dX10_weigh_14 : decode cX10_weigh 14 = .ok (.ireturn, 1) := by decide +kernel
theorem dX10_weigh_15 : decode cX10_weigh 15 = .ok (.iconst 1, 1) := by decide +kernel
theorem dX10_weigh_16 : decode cX10_weigh 16 = .ok (.aload_n 0, 1) := by decide +kernel
theorem dX10_weigh_17 : decode cX10_weigh 17 = .ok (.getfield 32, 3) := by decide +kernel
theorem dX10_weigh_20 : decode cX10_weigh 20 = .ok (.iload_n 1, 1) := by decide +kernel
theorem dX10_weigh_21 : decode cX10_weigh 21 = .ok (.iaload, 1) := by decide +kernel
theorem dX10_weigh_22 : decode cX10_weigh 22 = .ok (.ishl, 1) := by decide +kernel
theorem dX10_weigh_23 : decode cX10_weigh 23 = .ok (.iconst 1, 1) := by decide +kernel
theorem dX10_weigh_24 : decode cX10_weigh 24 = .ok (.isub, 1) := by decide +kernel
theorem dX10_weigh_25 : decode cX10_weigh 25 = .ok (.istore 5, 2) := by decide +kernel
theorem dX10_weigh_27 : decode cX10_weigh 27 = .ok (.iload_n 2, 1) := by decide +kernel
theorem dX10_weigh_28 : decode cX10_weigh 28 = .ok (.i2l, 1) := by decide +kernel
theorem dX10_weigh_29 : decode cX10_weigh 29 = .ok (.lconst 1, 1) := by decide +kernel
theorem dX10_weigh_30 : decode cX10_weigh 30 = .ok (.iload 5, 2) := by decide +kernel
theorem dX10_weigh_32 : decode cX10_weigh 32 = .ok (.i2l, 1) := by decide +kernel
theorem dX10_weigh_33 : decode cX10_weigh 33 = .ok (.invokestatic 124, 3) := by decide +kernel
theorem dX10_weigh_36 : decode cX10_weigh 36 = .ok (.ifCond .eq 45, 3) := by decide +kernel
theorem dX10_weigh_39 : decode cX10_weigh 39 = .ok (.iload_n 3, 1) := by decide +kernel
theorem dX10_weigh_40 : decode cX10_weigh 40 = .ok (.i2l, 1) := by decide +kernel
theorem dX10_weigh_41 : decode cX10_weigh 41 = .ok (.lconst 1, 1) := by decide +kernel
theorem dX10_weigh_42 : decode cX10_weigh 42 = .ok (.iload 5, 2) := by decide +kernel
theorem dX10_weigh_44 : decode cX10_weigh 44 = .ok (.i2l, 1) := by decide +kernel
theorem dX10_weigh_45 : decode cX10_weigh 45 = .ok (.invokestatic 124, 3) := by decide +kernel
theorem dX10_weigh_48 : decode cX10_weigh 48 = .ok (.ifCond .eq 33, 3) := by decide +kernel
theorem dX10_weigh_51 : decode cX10_weigh 51 = .ok (.iload_n 2, 1) := by decide +kernel
theorem dX10_weigh_52 : decode cX10_weigh 52 = .ok (.iload_n 3, 1) := by decide +kernel
theorem dX10_weigh_53 : decode cX10_weigh 53 = .ok (.iand, 1) := by decide +kernel
theorem dX10_weigh_54 : decode cX10_weigh 54 = .ok (.ifCond .ne 27, 3) := by decide +kernel
theorem dX10_weigh_57 : decode cX10_weigh 57 = .ok (.iload_n 2, 1) := by decide +kernel
theorem dX10_weigh_58 : decode cX10_weigh 58 = .ok (.invokestatic 244, 3) := by decide +kernel
theorem dX10_weigh_61 : decode cX10_weigh 61 = .ok (.iload_n 3, 1) := by decide +kernel
theorem dX10_weigh_62 : decode cX10_weigh 62 = .ok (.invokestatic 244, 3) := by decide +kernel
theorem dX10_weigh_65 : decode cX10_weigh 65 = .ok (.if_icmp .ne 16, 3) := by decide +kernel
theorem dX10_weigh_68 : decode cX10_weigh 68 = .ok (.iload 4, 2) := by decide +kernel
theorem dX10_weigh_70 : decode cX10_weigh 70 = .ok (.i2l, 1) := by decide +kernel
theorem dX10_weigh_71 : decode cX10_weigh 71 = .ok (.lconst 0, 1) := by decide +kernel
theorem dX10_weigh_72 : decode cX10_weigh 72 = .ok (.ldc2_w 326, 3) := by decide +kernel
theorem dX10_weigh_75 : decode cX10_weigh 75 = .ok (.invokestatic 124, 3) := by decide +kernel
theorem dX10_weigh_78 : decode cX10_weigh 78 = .ok (.ifCond .ne 5, 3) := by decide +kernel
theorem dX10_weigh_81 : decode cX10_weigh 81 = .ok (.iconst (-1), 1) := by decide +kernel
theorem dX10_weigh_82 : decode cX10_weigh 82 = .ok (.ireturn, 1) := by decide +kernel
theorem dX10_weigh_83 : decode cX10_weigh 83 = .ok (.aload_n 0, 1) := by decide +kernel
theorem dX10_weigh_84 : decode cX10_weigh 84 = .ok (.getfield 13, 3) := by decide +kernel
theorem dX10_weigh_87 : decode cX10_weigh 87 = .ok (.sipush 661, 3) := by decide +kernel
theorem dX10_weigh_90 : decode cX10_weigh 90 = .ok (.iload_n 1, 1) := by decide +kernel
theorem dX10_weigh_91 : decode cX10_weigh 91 = .ok (.iadd, 1) := by decide +kernel
theorem dX10_weigh_92 : decode cX10_weigh 92 = .ok (.iaload, 1) := by decide +kernel
theorem dX10_weigh_93 : decode cX10_weigh 93 = .ok (.istore 6, 2) := by decide +kernel
theorem dX10_weigh_95 : decode cX10_weigh 95 = .ok (.aload_n 0, 1) := by decide +kernel
theorem dX10_weigh_96 : decode cX10_weigh 96 = .ok (.getfield 13, 3) := by decide +kernel
theorem dX10_weigh_99 : decode cX10_weigh 99 = .ok (.sipush 665, 3) := by decide +kernel
theorem dX10_weigh_102 : decode cX10_weigh 102 = .ok (.iload_n 1, 1) := by decide +kernel
theorem dX10_weigh_103 : decode cX10_weigh 103 = .ok (.iadd, 1) := by decide +kernel
theorem dX10_weigh_104 : decode cX10_weigh 104 = .ok (.iaload, 1) := by decide +kernel
theorem dX10_weigh_105 : decode cX10_weigh 105 = .ok (.istore 7, 2) := by decide +kernel
theorem dX10_weigh_107 : decode cX10_weigh 107 = .ok (.iload 4, 2) := by decide +kernel
theorem dX10_weigh_109 : decode cX10_weigh 109 = .ok (.ifCond .ne 16, 3) := by decide +kernel
theorem dX10_weigh_112 : decode cX10_weigh 112 = .ok (.aload_n 0, 1) := by decide +kernel
theorem dX10_weigh_113 : decode cX10_weigh 113 = .ok (.getfield 13, 3) := by decide +kernel
theorem dX10_weigh_116 : decode cX10_weigh 116 = .ok (.sipush 669, 3) := by decide +kernel
theorem dX10_weigh_119 : decode cX10_weigh 119 = .ok (.iload_n 1, 1) := by decide +kernel
theorem dX10_weigh_120 : decode cX10_weigh 120 = .ok (.iadd, 1) := by decide +kernel
theorem dX10_weigh_121 : decode cX10_weigh 121 = .ok (.iaload, 1) := by decide +kernel
theorem dX10_weigh_122 : decode cX10_weigh 122 = .ok (.goto 4, 3) := by decide +kernel
theorem dX10_weigh_125 : decode cX10_weigh 125 = .ok (.iconst 0, 1) := by decide +kernel
theorem dX10_weigh_126 : decode cX10_weigh 126 = .ok (.istore 8, 2) := by decide +kernel
theorem dX10_weigh_128 : decode cX10_weigh 128 = .ok (.iload 6, 2) := by decide +kernel
theorem dX10_weigh_130 : decode cX10_weigh 130 = .ok (.iload 4, 2) := by decide +kernel
theorem dX10_weigh_132 : decode cX10_weigh 132 = .ok (.ifCond .ne 11, 3) := by decide +kernel
theorem dX10_weigh_135 : decode cX10_weigh 135 = .ok (.iload_n 2, 1) := by decide +kernel
theorem dX10_weigh_136 : decode cX10_weigh 136 = .ok (.iload_n 3, 1) := by decide +kernel
theorem dX10_weigh_137 : decode cX10_weigh 137 = .ok (.ior, 1) := by decide +kernel
theorem dX10_weigh_138 : decode cX10_weigh 138 = .ok (.iconst (-1), 1) := by decide +kernel
theorem dX10_weigh_139 : decode cX10_weigh 139 = .ok (.ixor, 1) := by decide +kernel
theorem dX10_weigh_140 : decode cX10_weigh 140 = .ok (.goto 14, 3) := by decide +kernel
theorem dX10_weigh_143 : decode cX10_weigh 143 = .ok (.iload 4, 2) := by decide +kernel
theorem dX10_weigh_145 : decode cX10_weigh 145 = .ok (.iconst 1, 1) := by decide +kernel
theorem dX10_weigh_146 : decode cX10_weigh 146 = .ok (.if_icmp .ne 7, 3) := by decide +kernel
theorem dX10_weigh_149 : decode cX10_weigh 149 = .ok (.iload_n 2, 1) := by decide +kernel
theorem dX10_weigh_150 : decode cX10_weigh 150 = .ok (.goto 4, 3) := by decide +kernel
theorem dX10_weigh_153 : decode cX10_weigh 153 = .ok (.iload_n 3, 1) := by decide +kernel
theorem dX10_weigh_154 : decode cX10_weigh 154 = .ok (.iand, 1) := by decide +kernel
theorem dX10_weigh_155 : decode cX10_weigh 155 = .ok (.istore 6, 2) := by decide +kernel
theorem dX10_weigh_157 : decode cX10_weigh 157 = .ok (.iload 7, 2) := by decide +kernel
theorem dX10_weigh_159 : decode cX10_weigh 159 = .ok (.iload 4, 2) := by decide +kernel
theorem dX10_weigh_161 : decode cX10_weigh 161 = .ok (.ifCond .ne 11, 3) := by decide +kernel
theorem dX10_weigh_164 : decode cX10_weigh 164 = .ok (.iload_n 2, 1) := by decide +kernel
theorem dX10_weigh_165 : decode cX10_weigh 165 = .ok (.iload_n 3, 1) := by decide +kernel
theorem dX10_weigh_166 : decode cX10_weigh 166 = .ok (.ior, 1) := by decide +kernel
theorem dX10_weigh_167 : decode cX10_weigh 167 = .ok (.iconst (-1), 1) := by decide +kernel
theorem dX10_weigh_168 : decode cX10_weigh 168 = .ok (.ixor, 1) := by decide +kernel
theorem dX10_weigh_169 : decode cX10_weigh 169 = .ok (.goto 14, 3) := by decide +kernel
theorem dX10_weigh_172 : decode cX10_weigh 172 = .ok (.iload 4, 2) := by decide +kernel
theorem dX10_weigh_174 : decode cX10_weigh 174 = .ok (.iconst 1, 1) := by decide +kernel
theorem dX10_weigh_175 : decode cX10_weigh 175 = .ok (.if_icmp .ne 7, 3) := by decide +kernel
theorem dX10_weigh_178 : decode cX10_weigh 178 = .ok (.iload_n 3, 1) := by decide +kernel
theorem dX10_weigh_179 : decode cX10_weigh 179 = .ok (.goto 4, 3) := by decide +kernel
theorem dX10_weigh_182 : decode cX10_weigh 182 = .ok (.iload_n 2, 1) := by decide +kernel
theorem dX10_weigh_183 : decode cX10_weigh 183 = .ok (.iand, 1) := by decide +kernel
theorem dX10_weigh_184 : decode cX10_weigh 184 = .ok (.istore 7, 2) := by decide +kernel
theorem dX10_weigh_186 : decode cX10_weigh 186 = .ok (.iload 6, 2) := by decide +kernel
theorem dX10_weigh_188 : decode cX10_weigh 188 = .ok (.invokestatic 244, 3) := by decide +kernel
theorem dX10_weigh_191 : decode cX10_weigh 191 = .ok (.iload 7, 2) := by decide +kernel
theorem dX10_weigh_193 : decode cX10_weigh 193 = .ok (.invokestatic 244, 3) := by decide +kernel
theorem dX10_weigh_196 : decode cX10_weigh 196 = .ok (.iadd, 1) := by decide +kernel
theorem dX10_weigh_197 : decode cX10_weigh 197 = .ok (.iload 8, 2) := by decide +kernel
theorem dX10_weigh_199 : decode cX10_weigh 199 = .ok (.iadd, 1) := by decide +kernel
theorem dX10_weigh_200 : decode cX10_weigh 200 = .ok (.istore 9, 2) := by decide +kernel
theorem dX10_weigh_202 : decode cX10_weigh 202 = .ok (.iload 9, 2) := by decide +kernel
theorem dX10_weigh_204 : decode cX10_weigh 204 = .ok (.ifCond .ne 6, 3) := by decide +kernel
theorem dX10_weigh_207 : decode cX10_weigh 207 = .ok (.bipush (-2), 2) := by decide +kernel
theorem dX10_weigh_209 : decode cX10_weigh 209 = .ok (.ireturn, 1) := by decide +kernel
theorem dX10_weigh_210 : decode cX10_weigh 210 = .ok (.aload_n 0, 1) := by decide +kernel
theorem dX10_weigh_211 : decode cX10_weigh 211 = .ok (.getfield 13, 3) := by decide +kernel
theorem dX10_weigh_214 : decode cX10_weigh 214 = .ok (.sipush 673, 3) := by decide +kernel
theorem dX10_weigh_217 : decode cX10_weigh 217 = .ok (.iload_n 1, 1) := by decide +kernel
theorem dX10_weigh_218 : decode cX10_weigh 218 = .ok (.iadd, 1) := by decide +kernel
theorem dX10_weigh_219 : decode cX10_weigh 219 = .ok (.iaload, 1) := by decide +kernel
theorem dX10_weigh_220 : decode cX10_weigh 220 = .ok (.bipush 20, 2) := by decide +kernel
theorem dX10_weigh_222 : decode cX10_weigh 222 = .ok (.if_icmp .ne 6, 3) := by decide +kernel
theorem dX10_weigh_225 : decode cX10_weigh 225 = .ok (.bipush (-3), 2) := by decide +kernel
theorem dX10_weigh_227 : decode cX10_weigh 227 = .ok (.ireturn, 1) := by decide +kernel
theorem dX10_weigh_228 : decode cX10_weigh 228 = .ok (.aload_n 0, 1) := by decide +kernel
theorem dX10_weigh_229 : decode cX10_weigh 229 = .ok (.invokevirtual 249, 3) := by decide +kernel
theorem dX10_weigh_232 : decode cX10_weigh 232 = .ok (.aload_n 0, 1) := by decide +kernel
theorem dX10_weigh_233 : decode cX10_weigh 233 = .ok (.getfield 13, 3) := by decide +kernel
theorem dX10_weigh_236 : decode cX10_weigh 236 = .ok (.sipush 661, 3) := by decide +kernel
theorem dX10_weigh_239 : decode cX10_weigh 239 = .ok (.iload_n 1, 1) := by decide +kernel
theorem dX10_weigh_240 : decode cX10_weigh 240 = .ok (.iadd, 1) := by decide +kernel
theorem dX10_weigh_241 : decode cX10_weigh 241 = .ok (.iload 6, 2) := by decide +kernel
theorem dX10_weigh_243 : decode cX10_weigh 243 = .ok (.iastore, 1) := by decide +kernel
theorem dX10_weigh_244 : decode cX10_weigh 244 = .ok (.aload_n 0, 1) := by decide +kernel
theorem dX10_weigh_245 : decode cX10_weigh 245 = .ok (.getfield 13, 3) := by decide +kernel
theorem dX10_weigh_248 : decode cX10_weigh 248 = .ok (.sipush 665, 3) := by decide +kernel
theorem dX10_weigh_251 : decode cX10_weigh 251 = .ok (.iload_n 1, 1) := by decide +kernel
theorem dX10_weigh_252 : decode cX10_weigh 252 = .ok (.iadd, 1) := by decide +kernel
theorem dX10_weigh_253 : decode cX10_weigh 253 = .ok (.iload 7, 2) := by decide +kernel
theorem dX10_weigh_255 : decode cX10_weigh 255 = .ok (.iastore, 1) := by decide +kernel
theorem dX10_weigh_256 : decode cX10_weigh 256 = .ok (.aload_n 0, 1) := by decide +kernel
theorem dX10_weigh_257 : decode cX10_weigh 257 = .ok (.getfield 13, 3) := by decide +kernel
theorem dX10_weigh_260 : decode cX10_weigh 260 = .ok (.sipush 669, 3) := by decide +kernel
theorem dX10_weigh_263 : decode cX10_weigh 263 = .ok (.iload_n 1, 1) := by decide +kernel
theorem dX10_weigh_264 : decode cX10_weigh 264 = .ok (.iadd, 1) := by decide +kernel
theorem dX10_weigh_265 : decode cX10_weigh 265 = .ok (.iload 8, 2) := by decide +kernel
theorem dX10_weigh_267 : decode cX10_weigh 267 = .ok (.iastore, 1) := by decide +kernel
theorem dX10_weigh_268 : decode cX10_weigh 268 = .ok (.aload_n 0, 1) := by decide +kernel
theorem dX10_weigh_269 : decode cX10_weigh 269 = .ok (.getfield 13, 3) := by decide +kernel
theorem dX10_weigh_272 : decode cX10_weigh 272 = .ok (.sipush 673, 3) := by decide +kernel
theorem dX10_weigh_275 : decode cX10_weigh 275 = .ok (.iload_n 1, 1) := by decide +kernel
theorem dX10_weigh_276 : decode cX10_weigh 276 = .ok (.iadd, 1) := by decide +kernel
theorem dX10_weigh_277 : decode cX10_weigh 277 = .ok (.dup2, 1) := by decide +kernel
theorem dX10_weigh_278 : decode cX10_weigh 278 = .ok (.iaload, 1) := by decide +kernel
theorem dX10_weigh_279 : decode cX10_weigh 279 = .ok (.iconst 1, 1) := by decide +kernel
theorem dX10_weigh_280 : decode cX10_weigh 280 = .ok (.iadd, 1) := by decide +kernel
theorem dX10_weigh_281 : decode cX10_weigh 281 = .ok (.iastore, 1) := by decide +kernel
theorem dX10_weigh_282 : decode cX10_weigh 282 = .ok (.iload 9, 2) := by decide +kernel
theorem dX10_weigh_284 : decode cX10_weigh 284 = .ok (.ireturn, 1) := by decide +kernel
theorem dX10_weighingCount_0 : decode cX10_weighingCount 0 = .ok (.aload_n 0, 1) := by decide +kernel
theorem dX10_weighingCount_1 : decode cX10_weighingCount 1 = .ok (.iconst 0, 1) := by decide +kernel
theorem dX10_weighingCount_2 : decode cX10_weighingCount 2 = .ok (.putfield 1, 3) := by decide +kernel
theorem dX10_weighingCount_5 : decode cX10_weighingCount 5 = .ok (.aload_n 0, 1) := by decide +kernel
theorem dX10_weighingCount_6 : decode cX10_weighingCount 6 = .ok (.iload_n 1, 1) := by decide +kernel
theorem dX10_weighingCount_7 : decode cX10_weighingCount 7 = .ok (.invokevirtual 323, 3) := by decide +kernel
theorem dX10_weighingCount_10 : decode cX10_weighingCount 10 = .ok (.ifCond .eq 16, 3) := by decide +kernel
theorem dX10_weighingCount_13 : decode cX10_weighingCount 13 = .ok (.aload_n 0, 1) := by decide +kernel
theorem dX10_weighingCount_14 : decode cX10_weighingCount 14 = .ok (.getfield 13, 3) := by decide +kernel
theorem dX10_weighingCount_17 : decode cX10_weighingCount 17 = .ok (.sipush 673, 3) := by decide +kernel
theorem dX10_weighingCount_20 : decode cX10_weighingCount 20 = .ok (.iload_n 1, 1) := by decide +kernel
theorem dX10_weighingCount_21 : decode cX10_weighingCount 21 = .ok (.iadd, 1) := by decide +kernel
theorem dX10_weighingCount_22 : decode cX10_weighingCount 22 = .ok (.iaload, 1) := by decide +kernel
theorem dX10_weighingCount_23 : decode cX10_weighingCount 23 = .ok (.goto 4, 3) := by decide +kernel
theorem dX10_weighingCount_26 : decode cX10_weighingCount 26 = .ok (.iconst (-1), 1) := by decide +kernel
theorem dX10_weighingCount_27 : decode cX10_weighingCount 27 = .ok (.ireturn, 1) := by decide +kernel
theorem dX10_hypothesisCount_0 : decode cX10_hypothesisCount 0 = .ok (.aload_n 0, 1) := by decide +kernel
theorem dX10_hypothesisCount_1 : decode cX10_hypothesisCount 1 = .ok (.iconst 0, 1) := by decide +kernel
theorem dX10_hypothesisCount_2 : decode cX10_hypothesisCount 2 = .ok (.putfield 1, 3) := by decide +kernel
theorem dX10_hypothesisCount_5 : decode cX10_hypothesisCount 5 = .ok (.aload_n 0, 1) := by decide +kernel
theorem dX10_hypothesisCount_6 : decode cX10_hypothesisCount 6 = .ok (.iload_n 1, 1) := by decide +kernel
theorem dX10_hypothesisCount_7 : decode cX10_hypothesisCount 7 = .ok (.invokevirtual 323, 3) := by decide +kernel
theorem dX10_hypothesisCount_10 : decode cX10_hypothesisCount 10 = .ok (.ifCond .eq 11, 3) := by decide +kernel
theorem dX10_hypothesisCount_13 : decode cX10_hypothesisCount 13 = .ok (.aload_n 0, 1) := by decide +kernel
theorem dX10_hypothesisCount_14 : decode cX10_hypothesisCount 14 = .ok (.iload_n 1, 1) := by decide +kernel
theorem dX10_hypothesisCount_15 : decode cX10_hypothesisCount 15 = .ok (.invokevirtual 328, 3) := by decide +kernel
theorem dX10_hypothesisCount_18 : decode cX10_hypothesisCount 18 = .ok (.goto 4, 3) := by decide +kernel
theorem dX10_hypothesisCount_21 : decode cX10_hypothesisCount 21 = .ok (.iconst (-1), 1) := by decide +kernel
theorem dX10_hypothesisCount_22 : decode cX10_hypothesisCount 22 = .ok (.ireturn, 1) := by decide +kernel
theorem dX10_heavySuspects_0 : decode cX10_heavySuspects 0 = .ok (.aload_n 0, 1) := by decide +kernel
theorem dX10_heavySuspects_1 : decode cX10_heavySuspects 1 = .ok (.iconst 0, 1) := by decide +kernel
theorem dX10_heavySuspects_2 : decode cX10_heavySuspects 2 = .ok (.putfield 1, 3) := by decide +kernel
theorem dX10_heavySuspects_5 : decode cX10_heavySuspects 5 = .ok (.aload_n 0, 1) := by decide +kernel
theorem dX10_heavySuspects_6 : decode cX10_heavySuspects 6 = .ok (.iload_n 1, 1) := by decide +kernel
theorem dX10_heavySuspects_7 : decode cX10_heavySuspects 7 = .ok (.invokevirtual 323, 3) := by decide +kernel
theorem dX10_heavySuspects_10 : decode cX10_heavySuspects 10 = .ok (.ifCond .eq 16, 3) := by decide +kernel
theorem dX10_heavySuspects_13 : decode cX10_heavySuspects 13 = .ok (.aload_n 0, 1) := by decide +kernel
theorem dX10_heavySuspects_14 : decode cX10_heavySuspects 14 = .ok (.getfield 13, 3) := by decide +kernel
theorem dX10_heavySuspects_17 : decode cX10_heavySuspects 17 = .ok (.sipush 661, 3) := by decide +kernel
theorem dX10_heavySuspects_20 : decode cX10_heavySuspects 20 = .ok (.iload_n 1, 1) := by decide +kernel
theorem dX10_heavySuspects_21 : decode cX10_heavySuspects 21 = .ok (.iadd, 1) := by decide +kernel
theorem dX10_heavySuspects_22 : decode cX10_heavySuspects 22 = .ok (.iaload, 1) := by decide +kernel
theorem dX10_heavySuspects_23 : decode cX10_heavySuspects 23 = .ok (.goto 4, 3) := by decide +kernel
theorem dX10_heavySuspects_26 : decode cX10_heavySuspects 26 = .ok (.iconst (-1), 1) := by decide +kernel
theorem dX10_heavySuspects_27 : decode cX10_heavySuspects 27 = .ok (.ireturn, 1) := by decide +kernel
theorem dX10_lightSuspects_0 : decode cX10_lightSuspects 0 = .ok (.aload_n 0, 1) := by decide +kernel
theorem dX10_lightSuspects_1 : decode cX10_lightSuspects 1 = .ok (.iconst 0, 1) := by decide +kernel
theorem dX10_lightSuspects_2 : decode cX10_lightSuspects 2 = .ok (.putfield 1, 3) := by decide +kernel
theorem dX10_lightSuspects_5 : decode cX10_lightSuspects 5 = .ok (.aload_n 0, 1) := by decide +kernel
theorem dX10_lightSuspects_6 : decode cX10_lightSuspects 6 = .ok (.iload_n 1, 1) := by decide +kernel
theorem dX10_lightSuspects_7 : decode cX10_lightSuspects 7 = .ok (.invokevirtual 323, 3) := by decide +kernel
theorem dX10_lightSuspects_10 : decode cX10_lightSuspects 10 = .ok (.ifCond .eq 16, 3) := by decide +kernel
theorem dX10_lightSuspects_13 : decode cX10_lightSuspects 13 = .ok (.aload_n 0, 1) := by decide +kernel
theorem dX10_lightSuspects_14 : decode cX10_lightSuspects 14 = .ok (.getfield 13, 3) := by decide +kernel
theorem dX10_lightSuspects_17 : decode cX10_lightSuspects 17 = .ok (.sipush 665, 3) := by decide +kernel
theorem dX10_lightSuspects_20 : decode cX10_lightSuspects 20 = .ok (.iload_n 1, 1) := by decide +kernel
theorem dX10_lightSuspects_21 : decode cX10_lightSuspects 21 = .ok (.iadd, 1) := by decide +kernel
theorem dX10_lightSuspects_22 : decode cX10_lightSuspects 22 = .ok (.iaload, 1) := by decide +kernel
theorem dX10_lightSuspects_23 : decode cX10_lightSuspects 23 = .ok (.goto 4, 3) := by decide +kernel
theorem dX10_lightSuspects_26 : decode cX10_lightSuspects 26 = .ok (.iconst (-1), 1) := by decide +kernel
theorem dX10_lightSuspects_27 : decode cX10_lightSuspects 27 = .ok (.ireturn, 1) := by decide +kernel
theorem dX10_canBeGenuine_0 : decode cX10_canBeGenuine 0 = .ok (.aload_n 0, 1) := by decide +kernel
theorem dX10_canBeGenuine_1 : decode cX10_canBeGenuine 1 = .ok (.iconst 0, 1) := by decide +kernel
theorem dX10_canBeGenuine_2 : decode cX10_canBeGenuine 2 = .ok (.putfield 1, 3) := by decide +kernel
theorem dX10_canBeGenuine_5 : decode cX10_canBeGenuine 5 = .ok (.aload_n 0, 1) := by decide +kernel
theorem dX10_canBeGenuine_6 : decode cX10_canBeGenuine 6 = .ok (.iload_n 1, 1) := by decide +kernel
theorem dX10_canBeGenuine_7 : decode cX10_canBeGenuine 7 = .ok (.invokevirtual 323, 3) := by decide +kernel
theorem dX10_canBeGenuine_10 : decode cX10_canBeGenuine 10 = .ok (.ifCond .eq 16, 3) := by decide +kernel
theorem dX10_canBeGenuine_13 : decode cX10_canBeGenuine 13 = .ok (.aload_n 0, 1) := by decide +kernel
theorem dX10_canBeGenuine_14 : decode cX10_canBeGenuine 14 = .ok (.getfield 13, 3) := by decide +kernel
theorem dX10_canBeGenuine_17 : decode cX10_canBeGenuine 17 = .ok (.sipush 669, 3) := by decide +kernel
theorem dX10_canBeGenuine_20 : decode cX10_canBeGenuine 20 = .ok (.iload_n 1, 1) := by decide +kernel
theorem dX10_canBeGenuine_21 : decode cX10_canBeGenuine 21 = .ok (.iadd, 1) := by decide +kernel
theorem dX10_canBeGenuine_22 : decode cX10_canBeGenuine 22 = .ok (.iaload, 1) := by decide +kernel
theorem dX10_canBeGenuine_23 : decode cX10_canBeGenuine 23 = .ok (.goto 4, 3) := by decide +kernel
theorem dX10_canBeGenuine_26 : decode cX10_canBeGenuine 26 = .ok (.iconst (-1), 1) := by decide +kernel
theorem dX10_canBeGenuine_27 : decode cX10_canBeGenuine 27 = .ok (.ireturn, 1) := by decide +kernel
theorem dX10_finding_0 : decode cX10_finding 0 = .ok (.aload_n 0, 1) := by decide +kernel
theorem dX10_finding_1 : decode cX10_finding 1 = .ok (.iconst 0, 1) := by decide +kernel
theorem dX10_finding_2 : decode cX10_finding 2 = .ok (.putfield 1, 3) := by decide +kernel
theorem dX10_finding_5 : decode cX10_finding 5 = .ok (.aload_n 0, 1) := by decide +kernel
theorem dX10_finding_6 : decode cX10_finding 6 = .ok (.iload_n 1, 1) := by decide +kernel
theorem dX10_finding_7 : decode cX10_finding 7 = .ok (.invokevirtual 323, 3) := by decide +kernel
theorem dX10_finding_10 : decode cX10_finding 10 = .ok (.ifCond .ne 5, 3) := by decide +kernel
theorem dX10_finding_13 : decode cX10_finding 13 = .ok (.iconst (-1), 1) := by decide +kernel
theorem dX10_finding_14 : decode cX10_finding 14 = .ok (.ireturn, 1) := by decide +kernel
theorem dX10_finding_15 : decode cX10_finding 15 = .ok (.aload_n 0, 1) := by decide +kernel
theorem dX10_finding_16 : decode cX10_finding 16 = .ok (.iload_n 1, 1) := by decide +kernel
theorem dX10_finding_17 : decode cX10_finding 17 = .ok (.invokevirtual 328, 3) := by decide +kernel
theorem dX10_finding_20 : decode cX10_finding 20 = .ok (.iconst 1, 1) := by decide +kernel
theorem dX10_finding_21 : decode cX10_finding 21 = .ok (.if_icmp .le 6, 3) := by decide +kernel
theorem dX10_finding_24 : decode cX10_finding 24 = .ok (.bipush (-2), 2) := by decide +kernel
theorem dX10_finding_26 : decode cX10_finding 26 = .ok (.ireturn, 1) := by decide +kernel
theorem dX10_finding_27 : decode cX10_finding 27 = .ok (.iconst 0, 1) := by decide +kernel
theorem dX10_finding_28 : decode cX10_finding 28 = .ok (.istore_n 2, 1) := by decide +kernel
theorem dX10_finding_29 : decode cX10_finding 29 = .ok (.iload_n 2, 1) := by decide +kernel
theorem dX10_finding_30 : decode cX10_finding 30 = .ok (.aload_n 0, 1) := by decide +kernel
theorem dX10_finding_31 : decode cX10_finding 31 = .ok (.getfield 32, 3) := by decide +kernel
theorem dX10_finding_34 : decode cX10_finding 34 = .ok (.iload_n 1, 1) := by decide +kernel
theorem dX10_finding_35 : decode cX10_finding 35 = .ok (.iaload, 1) := by decide +kernel
theorem dX10_finding_36 : decode cX10_finding 36 = .ok (.if_icmp .ge 53, 3) := by decide +kernel
theorem dX10_finding_39 : decode cX10_finding 39 = .ok (.aload_n 0, 1) := by decide +kernel
theorem dX10_finding_40 : decode cX10_finding 40 = .ok (.getfield 13, 3) := by decide +kernel
theorem dX10_finding_43 : decode cX10_finding 43 = .ok (.sipush 661, 3) := by decide +kernel
theorem dX10_finding_46 : decode cX10_finding 46 = .ok (.iload_n 1, 1) := by decide +kernel
theorem dX10_finding_47 : decode cX10_finding 47 = .ok (.iadd, 1) := by decide +kernel
theorem dX10_finding_48 : decode cX10_finding 48 = .ok (.iaload, 1) := by decide +kernel
theorem dX10_finding_49 : decode cX10_finding 49 = .ok (.iconst 1, 1) := by decide +kernel
theorem dX10_finding_50 : decode cX10_finding 50 = .ok (.iload_n 2, 1) := by decide +kernel
theorem dX10_finding_51 : decode cX10_finding 51 = .ok (.ishl, 1) := by decide +kernel
theorem dX10_finding_52 : decode cX10_finding 52 = .ok (.if_icmp .ne 9, 3) := by decide +kernel
theorem dX10_finding_55 : decode cX10_finding 55 = .ok (.iconst 1, 1) := by decide +kernel
theorem dX10_finding_56 : decode cX10_finding 56 = .ok (.iconst 2, 1) := by decide +kernel
theorem dX10_finding_57 : decode cX10_finding 57 = .ok (.iload_n 2, 1) := by decide +kernel
theorem dX10_finding_58 : decode cX10_finding 58 = .ok (.imul, 1) := by decide +kernel
theorem dX10_finding_59 : decode cX10_finding 59 = .ok (.iadd, 1) := by decide +kernel
theorem dX10_finding_60 : decode cX10_finding 60 = .ok (.ireturn, 1) := by decide +kernel
theorem dX10_finding_61 : decode cX10_finding 61 = .ok (.aload_n 0, 1) := by decide +kernel
theorem dX10_finding_62 : decode cX10_finding 62 = .ok (.getfield 13, 3) := by decide +kernel
theorem dX10_finding_65 : decode cX10_finding 65 = .ok (.sipush 665, 3) := by decide +kernel
theorem dX10_finding_68 : decode cX10_finding 68 = .ok (.iload_n 1, 1) := by decide +kernel
theorem dX10_finding_69 : decode cX10_finding 69 = .ok (.iadd, 1) := by decide +kernel
theorem dX10_finding_70 : decode cX10_finding 70 = .ok (.iaload, 1) := by decide +kernel
theorem dX10_finding_71 : decode cX10_finding 71 = .ok (.iconst 1, 1) := by decide +kernel
theorem dX10_finding_72 : decode cX10_finding 72 = .ok (.iload_n 2, 1) := by decide +kernel
theorem dX10_finding_73 : decode cX10_finding 73 = .ok (.ishl, 1) := by decide +kernel
theorem dX10_finding_74 : decode cX10_finding 74 = .ok (.if_icmp .ne 9, 3) := by decide +kernel
theorem dX10_finding_77 : decode cX10_finding 77 = .ok (.iconst 2, 1) := by decide +kernel
theorem dX10_finding_78 : decode cX10_finding 78 = .ok (.iconst 2, 1) := by decide +kernel
theorem dX10_finding_79 : decode cX10_finding 79 = .ok (.iload_n 2, 1) := by decide +kernel
theorem dX10_finding_80 : decode cX10_finding 80 = .ok (.imul, 1) := by decide +kernel
theorem dX10_finding_81 : decode cX10_finding 81 = .ok (.iadd, 1) := by decide +kernel
theorem dX10_finding_82 : decode cX10_finding 82 = .ok (.ireturn, 1) := by decide +kernel
theorem dX10_finding_83 : decode cX10_finding 83 = .ok (.iinc 2 1, 3) := by decide +kernel
theorem dX10_finding_86 : decode cX10_finding 86 = .ok (.goto (-57), 3) := by decide +kernel
theorem dX10_finding_89 : decode cX10_finding 89 = .ok (.iconst 0, 1) := by decide +kernel
theorem dX10_finding_90 : decode cX10_finding 90 = .ok (.ireturn, 1) := by decide +kernel
theorem dX10_needed_0 : decode cX10_needed 0 = .ok (.aload_n 0, 1) := by decide +kernel
theorem dX10_needed_1 : decode cX10_needed 1 = .ok (.aload_n 0, 1) := by decide +kernel
theorem dX10_needed_2 : decode cX10_needed 2 = .ok (.getfield 32, 3) := by decide +kernel
theorem dX10_needed_5 : decode cX10_needed 5 = .ok (.iload_n 1, 1) := by decide +kernel
theorem dX10_needed_6 : decode cX10_needed 6 = .ok (.iaload, 1) := by decide +kernel
theorem dX10_needed_7 : decode cX10_needed 7 = .ok (.invokevirtual 331, 3) := by decide +kernel
theorem dX10_needed_10 : decode cX10_needed 10 = .ok (.aload_n 0, 1) := by decide +kernel
theorem dX10_needed_11 : decode cX10_needed 11 = .ok (.aload_n 0, 1) := by decide +kernel
theorem dX10_needed_12 : decode cX10_needed 12 = .ok (.getfield 13, 3) := by decide +kernel
theorem dX10_needed_15 : decode cX10_needed 15 = .ok (.sipush 661, 3) := by decide +kernel
theorem dX10_needed_18 : decode cX10_needed 18 = .ok (.iload_n 1, 1) := by decide +kernel
theorem dX10_needed_19 : decode cX10_needed 19 = .ok (.iadd, 1) := by decide +kernel
theorem dX10_needed_20 : decode cX10_needed 20 = .ok (.iaload, 1) := by decide +kernel
theorem dX10_needed_21 : decode cX10_needed 21 = .ok (.aload_n 0, 1) := by decide +kernel
theorem dX10_needed_22 : decode cX10_needed 22 = .ok (.getfield 13, 3) := by decide +kernel
theorem dX10_needed_25 : decode cX10_needed 25 = .ok (.sipush 665, 3) := by decide +kernel
theorem dX10_needed_28 : decode cX10_needed 28 = .ok (.iload_n 1, 1) := by decide +kernel
theorem dX10_needed_29 : decode cX10_needed 29 = .ok (.iadd, 1) := by decide +kernel
theorem dX10_needed_30 : decode cX10_needed 30 = .ok (.iaload, 1) := by decide +kernel
theorem dX10_needed_31 : decode cX10_needed 31 = .ok (.aload_n 0, 1) := by decide +kernel
theorem dX10_needed_32 : decode cX10_needed 32 = .ok (.getfield 13, 3) := by decide +kernel
theorem dX10_needed_35 : decode cX10_needed 35 = .ok (.sipush 669, 3) := by decide +kernel
theorem dX10_needed_38 : decode cX10_needed 38 = .ok (.iload_n 1, 1) := by decide +kernel
theorem dX10_needed_39 : decode cX10_needed 39 = .ok (.iadd, 1) := by decide +kernel
theorem dX10_needed_40 : decode cX10_needed 40 = .ok (.iaload, 1) := by decide +kernel
theorem dX10_needed_41 : decode cX10_needed 41 = .ok (.invokevirtual 334, 3) := by decide +kernel
theorem dX10_needed_44 : decode cX10_needed 44 = .ok (.ireturn, 1) := by decide +kernel
theorem dX10_weighingsNeeded_0 : decode cX10_weighingsNeeded 0 = .ok (.aload_n 0, 1) := by decide +kernel
theorem dX10_weighingsNeeded_1 : decode cX10_weighingsNeeded 1 = .ok (.iconst 0, 1) := by decide +kernel
theorem dX10_weighingsNeeded_2 : decode cX10_weighingsNeeded 2 = .ok (.putfield 1, 3) := by decide +kernel
theorem dX10_weighingsNeeded_5 : decode cX10_weighingsNeeded 5 = .ok (.aload_n 0, 1) := by decide +kernel
theorem dX10_weighingsNeeded_6 : decode cX10_weighingsNeeded 6 = .ok (.iload_n 1, 1) := by decide +kernel
theorem dX10_weighingsNeeded_7 : decode cX10_weighingsNeeded 7 = .ok (.invokevirtual 323, 3) := by decide +kernel
theorem dX10_weighingsNeeded_10 : decode cX10_weighingsNeeded 10 = .ok (.ifCond .ne 5, 3) := by decide +kernel
theorem dX10_weighingsNeeded_13 : decode cX10_weighingsNeeded 13 = .ok (.iconst (-1), 1) := by decide +kernel
theorem dX10_weighingsNeeded_14 : decode cX10_weighingsNeeded 14 = .ok (.ireturn, 1) := by decide +kernel
theorem dX10_weighingsNeeded_15 : decode cX10_weighingsNeeded 15 = .ok (.aload_n 0, 1) := by decide +kernel
theorem dX10_weighingsNeeded_16 : decode cX10_weighingsNeeded 16 = .ok (.iload_n 1, 1) := by decide +kernel
theorem dX10_weighingsNeeded_17 : decode cX10_weighingsNeeded 17 = .ok (.invokevirtual 337, 3) := by decide +kernel
theorem dX10_weighingsNeeded_20 : decode cX10_weighingsNeeded 20 = .ok (.istore_n 2, 1) := by decide +kernel
theorem dX10_weighingsNeeded_21 : decode cX10_weighingsNeeded 21 = .ok (.iload_n 2, 1) := by decide +kernel
theorem dX10_weighingsNeeded_22 : decode cX10_weighingsNeeded 22 = .ok (.bipush 99, 2) := by decide +kernel
theorem dX10_weighingsNeeded_24 : decode cX10_weighingsNeeded 24 = .ok (.if_icmp .lt 8, 3) := by decide +kernel
theorem dX10_weighingsNeeded_27 : decode cX10_weighingsNeeded 27 = .ok (.bipush (-2), 2) := by decide +kernel
theorem dX10_weighingsNeeded_29 : decode cX10_weighingsNeeded 29 = .ok (.goto 4, 3) := by decide +kernel
theorem dX10_weighingsNeeded_32 : decode cX10_weighingsNeeded 32 = .ok (.iload_n 2, 1) := by decide +kernel
theorem dX10_weighingsNeeded_33 : decode cX10_weighingsNeeded 33 = .ok (.ireturn, 1) := by decide +kernel
theorem dX10_behind_0 : decode cX10_behind 0 = .ok (.aload_n 0, 1) := by decide +kernel
theorem dX10_behind_1 : decode cX10_behind 1 = .ok (.getfield 13, 3) := by decide +kernel
theorem dX10_behind_4 : decode cX10_behind 4 = .ok (.sipush 661, 3) := by decide +kernel
theorem dX10_behind_7 : decode cX10_behind 7 = .ok (.iload_n 1, 1) := by decide +kernel
theorem dX10_behind_8 : decode cX10_behind 8 = .ok (.iadd, 1) := by decide +kernel
theorem dX10_behind_9 : decode cX10_behind 9 = .ok (.iaload, 1) := by decide +kernel
theorem dX10_behind_10 : decode cX10_behind 10 = .ok (.istore 4, 2) := by decide +kernel
theorem dX10_behind_12 : decode cX10_behind 12 = .ok (.aload_n 0, 1) := by decide +kernel
theorem dX10_behind_13 : decode cX10_behind 13 = .ok (.getfield 13, 3) := by decide +kernel
theorem dX10_behind_16 : decode cX10_behind 16 = .ok (.sipush 665, 3) := by decide +kernel
theorem dX10_behind_19 : decode cX10_behind 19 = .ok (.iload_n 1, 1) := by decide +kernel
theorem dX10_behind_20 : decode cX10_behind 20 = .ok (.iadd, 1) := by decide +kernel
theorem dX10_behind_21 : decode cX10_behind 21 = .ok (.iaload, 1) := by decide +kernel
theorem dX10_behind_22 : decode cX10_behind 22 = .ok (.istore 5, 2) := by decide +kernel
theorem dX10_behind_24 : decode cX10_behind 24 = .ok (.iload_n 2, 1) := by decide +kernel
theorem dX10_behind_25 : decode cX10_behind 25 = .ok (.iload_n 3, 1) := by decide +kernel
theorem dX10_behind_26 : decode cX10_behind 26 = .ok (.ior, 1) := by decide +kernel
theorem dX10_behind_27 : decode cX10_behind 27 = .ok (.iconst (-1), 1) := by decide +kernel
theorem dX10_behind_28 : decode cX10_behind 28 = .ok (.ixor, 1) := by decide +kernel
theorem dX10_behind_29 : decode cX10_behind 29 = .ok (.istore 6, 2) := by decide +kernel
theorem dX10_behind_31 : decode cX10_behind 31 = .ok (.aload_n 0, 1) := by decide +kernel
theorem dX10_behind_32 : decode cX10_behind 32 = .ok (.iload_n 1, 1) := by decide +kernel
theorem dX10_behind_33 : decode cX10_behind 33 = .ok (.invokevirtual 328, 3) := by decide +kernel
theorem dX10_behind_36 : decode cX10_behind 36 = .ok (.istore 7, 2) := by decide +kernel
theorem dX10_behind_38 : decode cX10_behind 38 = .ok (.iload 4, 2) := by decide +kernel
theorem dX10_behind_40 : decode cX10_behind 40 = .ok (.iload 6, 2) := by decide +kernel
theorem dX10_behind_42 : decode cX10_behind 42 = .ok (.iand, 1) := by decide +kernel
theorem dX10_behind_43 : decode cX10_behind 43 = .ok (.invokestatic 244, 3) := by decide +kernel
theorem dX10_behind_46 : decode cX10_behind 46 = .ok (.iload 5, 2) := by decide +kernel
theorem dX10_behind_48 : decode cX10_behind 48 = .ok (.iload 6, 2) := by decide +kernel
theorem dX10_behind_50 : decode cX10_behind 50 = .ok (.iand, 1) := by decide +kernel
theorem dX10_behind_51 : decode cX10_behind 51 = .ok (.invokestatic 244, 3) := by decide +kernel
theorem dX10_behind_54 : decode cX10_behind 54 = .ok (.iadd, 1) := by decide +kernel
theorem dX10_behind_55 : decode cX10_behind 55 = .ok (.aload_n 0, 1) := by decide +kernel
theorem dX10_behind_56 : decode cX10_behind 56 = .ok (.getfield 13, 3) := by decide +kernel
theorem dX10_behind_59 : decode cX10_behind 59 = .ok (.sipush 669, 3) := by decide +kernel
theorem dX10_behind_62 : decode cX10_behind 62 = .ok (.iload_n 1, 1) := by decide +kernel
theorem dX10_behind_63 : decode cX10_behind 63 = .ok (.iadd, 1) := by decide +kernel
theorem dX10_behind_64 : decode cX10_behind 64 = .ok (.iaload, 1) := by decide +kernel
theorem dX10_behind_65 : decode cX10_behind 65 = .ok (.iadd, 1) := by decide +kernel
theorem dX10_behind_66 : decode cX10_behind 66 = .ok (.istore 8, 2) := by decide +kernel
theorem dX10_behind_68 : decode cX10_behind 68 = .ok (.iload 8, 2) := by decide +kernel
theorem dX10_behind_70 : decode cX10_behind 70 = .ok (.iload 7, 2) := by decide +kernel
theorem dX10_behind_72 : decode cX10_behind 72 = .ok (.if_icmp .eq 43, 3) := by decide +kernel
theorem dX10_behind_75 : decode cX10_behind 75 = .ok (.iload 4, 2) := by decide +kernel
theorem dX10_behind_77 : decode cX10_behind 77 = .ok (.iload_n 2, 1) := by decide +kernel
theorem dX10_behind_78 : decode cX10_behind 78 = .ok (.iand, 1) := by decide +kernel
theorem dX10_behind_79 : decode cX10_behind 79 = .ok (.invokestatic 244, 3) := by decide +kernel
theorem dX10_behind_82 : decode cX10_behind 82 = .ok (.iload 5, 2) := by decide +kernel
theorem dX10_behind_84 : decode cX10_behind 84 = .ok (.iload_n 3, 1) := by decide +kernel
theorem dX10_behind_85 : decode cX10_behind 85 = .ok (.iand, 1) := by decide +kernel
theorem dX10_behind_86 : decode cX10_behind 86 = .ok (.invokestatic 244, 3) := by decide +kernel
theorem dX10_behind_89 : decode cX10_behind 89 = .ok (.iadd, 1) := by decide +kernel
theorem dX10_behind_90 : decode cX10_behind 90 = .ok (.iload 7, 2) := by decide +kernel
theorem dX10_behind_92 : decode cX10_behind 92 = .ok (.if_icmp .eq 23, 3) := by decide +kernel
theorem dX10_behind_95 : decode cX10_behind 95 = .ok (.iload 4, 2) := by decide +kernel
theorem dX10_behind_97 : decode cX10_behind 97 = .ok (.iload_n 3, 1) := by decide +kernel
theorem dX10_behind_98 : decode cX10_behind 98 = .ok (.iand, 1) := by decide +kernel
theorem dX10_behind_99 : decode cX10_behind 99 = .ok (.invokestatic 244, 3) := by decide +kernel
theorem dX10_behind_102 : decode cX10_behind 102 = .ok (.iload 5, 2) := by decide +kernel
theorem dX10_behind_104 : decode cX10_behind 104 = .ok (.iload_n 2, 1) := by decide +kernel
theorem dX10_behind_105 : decode cX10_behind 105 = .ok (.iand, 1) := by decide +kernel
theorem dX10_behind_106 : decode cX10_behind 106 = .ok (.invokestatic 244, 3) := by decide +kernel
theorem dX10_behind_109 : decode cX10_behind 109 = .ok (.iadd, 1) := by decide +kernel
theorem dX10_behind_110 : decode cX10_behind 110 = .ok (.iload 7, 2) := by decide +kernel
theorem dX10_behind_112 : decode cX10_behind 112 = .ok (.if_icmp .ne 6, 3) := by decide +kernel
theorem dX10_behind_115 : decode cX10_behind 115 = .ok (.bipush 99, 2) := by decide +kernel
theorem dX10_behind_117 : decode cX10_behind 117 = .ok (.ireturn, 1) := by decide +kernel
theorem dX10_behind_118 : decode cX10_behind 118 = .ok (.aload_n 0, 1) := by decide +kernel
theorem dX10_behind_119 : decode cX10_behind 119 = .ok (.iload 4, 2) := by decide +kernel
theorem dX10_behind_121 : decode cX10_behind 121 = .ok (.iload 6, 2) := by decide +kernel
theorem dX10_behind_123 : decode cX10_behind 123 = .ok (.iand, 1) := by decide +kernel
theorem dX10_behind_124 : decode cX10_behind 124 = .ok (.iload 5, 2) := by decide +kernel
theorem dX10_behind_126 : decode cX10_behind 126 = .ok (.iload 6, 2) := by decide +kernel
theorem dX10_behind_128 : decode cX10_behind 128 = .ok (.iand, 1) := by decide +kernel
theorem dX10_behind_129 : decode cX10_behind 129 = .ok (.aload_n 0, 1) := by decide +kernel
theorem dX10_behind_130 : decode cX10_behind 130 = .ok (.getfield 13, 3) := by decide +kernel
theorem dX10_behind_133 : decode cX10_behind 133 = .ok (.sipush 669, 3) := by decide +kernel
theorem dX10_behind_136 : decode cX10_behind 136 = .ok (.iload_n 1, 1) := by decide +kernel
theorem dX10_behind_137 : decode cX10_behind 137 = .ok (.iadd, 1) := by decide +kernel
theorem dX10_behind_138 : decode cX10_behind 138 = .ok (.iaload, 1) := by decide +kernel
theorem dX10_behind_139 : decode cX10_behind 139 = .ok (.invokevirtual 334, 3) := by decide +kernel
theorem dX10_behind_142 : decode cX10_behind 142 = .ok (.aload_n 0, 1) := by decide +kernel
theorem dX10_behind_143 : decode cX10_behind 143 = .ok (.iload 4, 2) := by decide +kernel
theorem dX10_behind_145 : decode cX10_behind 145 = .ok (.iload_n 2, 1) := by decide +kernel
theorem dX10_behind_146 : decode cX10_behind 146 = .ok (.iand, 1) := by decide +kernel
theorem dX10_behind_147 : decode cX10_behind 147 = .ok (.iload 5, 2) := by decide +kernel
theorem dX10_behind_149 : decode cX10_behind 149 = .ok (.iload_n 3, 1) := by decide +kernel
theorem dX10_behind_150 : decode cX10_behind 150 = .ok (.iand, 1) := by decide +kernel
theorem dX10_behind_151 : decode cX10_behind 151 = .ok (.iconst 0, 1) := by decide +kernel
theorem dX10_behind_152 : decode cX10_behind 152 = .ok (.invokevirtual 334, 3) := by decide +kernel
theorem dX10_behind_155 : decode cX10_behind 155 = .ok (.aload_n 0, 1) := by decide +kernel
theorem dX10_behind_156 : decode cX10_behind 156 = .ok (.iload 4, 2) := by decide +kernel
theorem dX10_behind_158 : decode cX10_behind 158 = .ok (.iload_n 3, 1) := by decide +kernel
theorem dX10_behind_159 : decode cX10_behind 159 = .ok (.iand, 1) := by decide +kernel
theorem dX10_behind_160 : decode cX10_behind 160 = .ok (.iload 5, 2) := by decide +kernel
theorem dX10_behind_162 : decode cX10_behind 162 = .ok (.iload_n 2, 1) := by decide +kernel
theorem dX10_behind_163 : decode cX10_behind 163 = .ok (.iand, 1) := by decide +kernel
theorem dX10_behind_164 : decode cX10_behind 164 = .ok (.iconst 0, 1) := by decide +kernel
theorem dX10_behind_165 : decode cX10_behind 165 = .ok (.invokevirtual 334, 3) := by decide +kernel
theorem dX10_behind_168 : decode cX10_behind 168 = .ok (.invokestatic 317, 3) := by decide +kernel
theorem dX10_behind_171 : decode cX10_behind 171 = .ok (.invokestatic 317, 3) := by decide +kernel
theorem dX10_behind_174 : decode cX10_behind 174 = .ok (.ireturn, 1) := by decide +kernel
theorem dX10_best_0 : decode cX10_best 0 = .ok (.aload_n 0, 1) := by decide +kernel
theorem dX10_best_1 : decode cX10_best 1 = .ok (.iload_n 1, 1) := by decide +kernel
theorem dX10_best_2 : decode cX10_best 2 = .ok (.invokevirtual 337, 3) := by decide +kernel
theorem dX10_best_5 : decode cX10_best 5 = .ok (.istore_n 2, 1) := by decide +kernel
theorem dX10_best_6 : decode cX10_best 6 = .ok (.aload_n 0, 1) := by decide +kernel
theorem dX10_best_7 : decode cX10_best 7 = .ok (.bipush (-2), 2) := by decide +kernel
theorem dX10_best_9 : decode cX10_best 9 = .ok (.putfield 340, 3) := by decide +kernel
theorem dX10_best_12 : decode cX10_best 12 = .ok (.iload_n 2, 1) := by decide +kernel
theorem dX10_best_13 : decode cX10_best 13 = .ok (.ifCond .eq 9, 3) := by decide +kernel
theorem dX10_best_16 : decode cX10_best 16 = .ok (.iload_n 2, 1) := by decide +kernel
theorem dX10_best_17 : decode cX10_best 17 = .ok (.bipush 99, 2) := by decide +kernel
theorem dX10_best_19 : decode cX10_best 19 = .ok (.if_icmp .lt 6, 3) := by decide +kernel
theorem dX10_best_22 : decode cX10_best 22 = .ok (.bipush (-2), 2) := by decide +kernel
theorem dX10_best_24 : decode cX10_best 24 = .ok (.ireturn, 1) := by decide +kernel
theorem dX10_best_25 : decode cX10_best 25 = .ok (.iconst 1, 1) := by decide +kernel
theorem dX10_best_26 : decode cX10_best 26 = .ok (.aload_n 0, 1) := by decide +kernel
theorem dX10_best_27 : decode cX10_best 27 = .ok (.getfield 32, 3) := by decide +kernel
theorem dX10_best_30 : decode cX10_best 30 = .ok (.iload_n 1, 1) := by decide +kernel
theorem dX10_best_31 : decode cX10_best 31 = .ok (.iaload, 1) := by decide +kernel
theorem dX10_best_32 : decode cX10_best 32 = .ok (.ishl, 1) := by decide +kernel
theorem dX10_best_33 : decode cX10_best 33 = .ok (.istore_n 3, 1) := by decide +kernel
theorem dX10_best_34 : decode cX10_best 34 = .ok (.iconst 1, 1) := by decide +kernel
theorem dX10_best_35 : decode cX10_best 35 = .ok (.istore 4, 2) := by decide +kernel
theorem dX10_best_37 : decode cX10_best 37 = .ok (.iconst 2, 1) := by decide +kernel
theorem dX10_best_38 : decode cX10_best 38 = .ok (.iload 4, 2) := by decide +kernel
theorem dX10_best_40 : decode cX10_best 40 = .ok (.imul, 1) := by decide +kernel
theorem dX10_best_41 : decode cX10_best 41 = .ok (.aload_n 0, 1) := by decide +kernel
theorem dX10_best_42 : decode cX10_best 42 = .ok (.getfield 32, 3) := by decide +kernel
theorem dX10_best_45 : decode cX10_best 45 = .ok (.iload_n 1, 1) := by decide +kernel
theorem dX10_best_46 : decode cX10_best 46 = .ok (.iaload, 1) := by decide +kernel
theorem dX10_best_47 : decode cX10_best 47 = .ok (.if_icmp .gt 104, 3) := by decide +kernel
theorem dX10_best_50 : decode cX10_best 50 = .ok (.iconst 1, 1) := by decide +kernel
theorem dX10_best_51 : decode cX10_best 51 = .ok (.istore 5, 2) := by decide +kernel
theorem dX10_best_53 : decode cX10_best 53 = .ok (.iload 5, 2) := by decide +kernel
theorem dX10_best_55 : decode cX10_best 55 = .ok (.iload_n 3, 1) := by decide +kernel
theorem dX10_best_56 : decode cX10_best 56 = .ok (.if_icmp .ge 89, 3) := by decide +kernel
theorem dX10_best_59 : decode cX10_best 59 = .ok (.iload_n 3, 1) := by decide +kernel
theorem dX10_best_60 : decode cX10_best 60 = .ok (.iconst 1, 1) := by decide +kernel
theorem dX10_best_61 : decode cX10_best 61 = .ok (.isub, 1) := by decide +kernel
theorem dX10_best_62 : decode cX10_best 62 = .ok (.iload 5, 2) := by decide +kernel
theorem dX10_best_64 : decode cX10_best 64 = .ok (.iconst (-1), 1) := by decide +kernel
theorem dX10_best_65 : decode cX10_best 65 = .ok (.ixor, 1) := by decide +kernel
theorem dX10_best_66 : decode cX10_best 66 = .ok (.iand, 1) := by decide +kernel
theorem dX10_best_67 : decode cX10_best 67 = .ok (.istore 6, 2) := by decide +kernel
theorem dX10_best_69 : decode cX10_best 69 = .ok (.iload 6, 2) := by decide +kernel
theorem dX10_best_71 : decode cX10_best 71 = .ok (.iload 6, 2) := by decide +kernel
theorem dX10_best_73 : decode cX10_best 73 = .ok (.ineg, 1) := by decide +kernel
theorem dX10_best_74 : decode cX10_best 74 = .ok (.iand, 1) := by decide +kernel
theorem dX10_best_75 : decode cX10_best 75 = .ok (.istore 7, 2) := by decide +kernel
theorem dX10_best_77 : decode cX10_best 77 = .ok (.iload 7, 2) := by decide +kernel
theorem dX10_best_79 : decode cX10_best 79 = .ok (.ifCond .eq 60, 3) := by decide +kernel
theorem dX10_best_82 : decode cX10_best 82 = .ok (.iload 5, 2) := by decide +kernel
theorem dX10_best_84 : decode cX10_best 84 = .ok (.invokestatic 244, 3) := by decide +kernel
theorem dX10_best_87 : decode cX10_best 87 = .ok (.iload 4, 2) := by decide +kernel
theorem dX10_best_89 : decode cX10_best 89 = .ok (.if_icmp .ne 50, 3) := by decide +kernel
theorem dX10_best_92 : decode cX10_best 92 = .ok (.iload 7, 2) := by decide +kernel
theorem dX10_best_94 : decode cX10_best 94 = .ok (.invokestatic 244, 3) := by decide +kernel
theorem dX10_best_97 : decode cX10_best 97 = .ok (.iload 4, 2) := by decide +kernel
theorem dX10_best_99 : decode cX10_best 99 = .ok (.if_icmp .ne 27, 3) := by decide +kernel
theorem dX10_best_102 : decode cX10_best 102 = .ok (.aload_n 0, 1) := by decide +kernel
theorem dX10_best_103 : decode cX10_best 103 = .ok (.iload_n 1, 1) := by decide +kernel
theorem dX10_best_104 : decode cX10_best 104 = .ok (.iload 5, 2) := by decide +kernel
theorem dX10_best_106 : decode cX10_best 106 = .ok (.iload 7, 2) := by decide +kernel
theorem dX10_best_108 : decode cX10_best 108 = .ok (.invokevirtual 343, 3) := by decide +kernel
theorem dX10_best_111 : decode cX10_best 111 = .ok (.iload_n 2, 1) := by decide +kernel
theorem dX10_best_112 : decode cX10_best 112 = .ok (.iconst 1, 1) := by decide +kernel
theorem dX10_best_113 : decode cX10_best 113 = .ok (.isub, 1) := by decide +kernel
theorem dX10_best_114 : decode cX10_best 114 = .ok (.if_icmp .ne 12, 3) := by decide +kernel
theorem dX10_best_117 : decode cX10_best 117 = .ok (.aload_n 0, 1) := by decide +kernel
theorem dX10_best_118 : decode cX10_best 118 = .ok (.iload 7, 2) := by decide +kernel
theorem dX10_best_120 : decode cX10_best 120 = .ok (.putfield 340, 3) := by decide +kernel
theorem dX10_best_123 : decode cX10_best 123 = .ok (.iload 5, 2) := by decide +kernel
theorem dX10_best_125 : decode cX10_best 125 = .ok (.ireturn, 1) := by decide +kernel
theorem dX10_best_126 : decode cX10_best 126 = .ok (.iload 7, 2) := by decide +kernel
theorem dX10_best_128 : decode cX10_best 128 = .ok (.iload 6, 2) := by decide +kernel
theorem dX10_best_130 : decode cX10_best 130 = .ok (.isub, 1) := by decide +kernel
theorem dX10_best_131 : decode cX10_best 131 = .ok (.iload 6, 2) := by decide +kernel
theorem dX10_best_133 : decode cX10_best 133 = .ok (.iand, 1) := by decide +kernel
theorem dX10_best_134 : decode cX10_best 134 = .ok (.istore 7, 2) := by decide +kernel
theorem dX10_best_136 : decode cX10_best 136 = .ok (.goto (-59), 3) := by decide +kernel
theorem dX10_best_139 : decode cX10_best 139 = .ok (.iinc 5 1, 3) := by decide +kernel
theorem dX10_best_142 : decode cX10_best 142 = .ok (.goto (-89), 3) := by decide +kernel
theorem dX10_best_145 : decode cX10_best 145 = .ok (.iinc 4 1, 3) := by decide +kernel
theorem dX10_best_148 : decode cX10_best 148 = .ok (.goto (-111), 3) := by decide +kernel
theorem dX10_best_151 : decode cX10_best 151 = .ok (.bipush (-2), 2) := by decide +kernel
theorem dX10_best_153 : decode cX10_best 153 = .ok (.ireturn, 1) := by decide +kernel
theorem dX10_bestLeft_0 : decode cX10_bestLeft 0 = .ok (.aload_n 0, 1) := by decide +kernel
theorem dX10_bestLeft_1 : decode cX10_bestLeft 1 = .ok (.iconst 0, 1) := by decide +kernel
theorem dX10_bestLeft_2 : decode cX10_bestLeft 2 = .ok (.putfield 1, 3) := by decide +kernel
theorem dX10_bestLeft_5 : decode cX10_bestLeft 5 = .ok (.aload_n 0, 1) := by decide +kernel
theorem dX10_bestLeft_6 : decode cX10_bestLeft 6 = .ok (.iload_n 1, 1) := by decide +kernel
theorem dX10_bestLeft_7 : decode cX10_bestLeft 7 = .ok (.invokevirtual 323, 3) := by decide +kernel
theorem dX10_bestLeft_10 : decode cX10_bestLeft 10 = .ok (.ifCond .eq 11, 3) := by decide +kernel
theorem dX10_bestLeft_13 : decode cX10_bestLeft 13 = .ok (.aload_n 0, 1) := by decide +kernel
theorem dX10_bestLeft_14 : decode cX10_bestLeft 14 = .ok (.iload_n 1, 1) := by decide +kernel
theorem dX10_bestLeft_15 : decode cX10_bestLeft 15 = .ok (.invokevirtual 346, 3) := by decide +kernel
theorem dX10_bestLeft_18 : decode cX10_bestLeft 18 = .ok (.goto 4, 3) := by decide +kernel
theorem dX10_bestLeft_21 : decode cX10_bestLeft 21 = .ok (.iconst (-1), 1) := by decide +kernel
theorem dX10_bestLeft_22 : decode cX10_bestLeft 22 = .ok (.ireturn, 1) := by decide +kernel
theorem dX10_bestRight_0 : decode cX10_bestRight 0 = .ok (.aload_n 0, 1) := by decide +kernel
theorem dX10_bestRight_1 : decode cX10_bestRight 1 = .ok (.iconst 0, 1) := by decide +kernel
theorem dX10_bestRight_2 : decode cX10_bestRight 2 = .ok (.putfield 1, 3) := by decide +kernel
theorem dX10_bestRight_5 : decode cX10_bestRight 5 = .ok (.aload_n 0, 1) := by decide +kernel
theorem dX10_bestRight_6 : decode cX10_bestRight 6 = .ok (.iload_n 1, 1) := by decide +kernel
theorem dX10_bestRight_7 : decode cX10_bestRight 7 = .ok (.invokevirtual 323, 3) := by decide +kernel
theorem dX10_bestRight_10 : decode cX10_bestRight 10 = .ok (.ifCond .ne 5, 3) := by decide +kernel
theorem dX10_bestRight_13 : decode cX10_bestRight 13 = .ok (.iconst (-1), 1) := by decide +kernel
theorem dX10_bestRight_14 : decode cX10_bestRight 14 = .ok (.ireturn, 1) := by decide +kernel
theorem dX10_bestRight_15 : decode cX10_bestRight 15 = .ok (.aload_n 0, 1) := by decide +kernel
theorem dX10_bestRight_16 : decode cX10_bestRight 16 = .ok (.iload_n 1, 1) := by decide +kernel
theorem dX10_bestRight_17 : decode cX10_bestRight 17 = .ok (.invokevirtual 346, 3) := by decide +kernel
theorem dX10_bestRight_20 : decode cX10_bestRight 20 = .ok (.istore_n 2, 1) := by decide +kernel
theorem dX10_bestRight_21 : decode cX10_bestRight 21 = .ok (.aload_n 0, 1) := by decide +kernel
theorem dX10_bestRight_22 : decode cX10_bestRight 22 = .ok (.getfield 340, 3) := by decide +kernel
theorem dX10_bestRight_25 : decode cX10_bestRight 25 = .ok (.ireturn, 1) := by decide +kernel
theorem dX10_fewestWeighings_0 : decode cX10_fewestWeighings 0 = .ok (.aload_n 0, 1) := by decide +kernel
theorem dX10_fewestWeighings_1 : decode cX10_fewestWeighings 1 = .ok (.iconst 0, 1) := by decide +kernel
theorem dX10_fewestWeighings_2 : decode cX10_fewestWeighings 2 = .ok (.putfield 1, 3) := by decide +kernel
theorem dX10_fewestWeighings_5 : decode cX10_fewestWeighings 5 = .ok (.iload_n 1, 1) := by decide +kernel
theorem dX10_fewestWeighings_6 : decode cX10_fewestWeighings 6 = .ok (.i2l, 1) := by decide +kernel
theorem dX10_fewestWeighings_7 : decode cX10_fewestWeighings 7 = .ok (.ldc2_w 326, 3) := by decide +kernel
theorem dX10_fewestWeighings_10 : decode cX10_fewestWeighings 10 = .ok (.ldc2_w 349, 3) := by decide +kernel
theorem dX10_fewestWeighings_13 : decode cX10_fewestWeighings 13 = .ok (.invokestatic 124, 3) := by decide +kernel
theorem dX10_fewestWeighings_16 : decode cX10_fewestWeighings 16 = .ok (.ifCond .ne 5, 3) := by decide +kernel
theorem dX10_fewestWeighings_19 : decode cX10_fewestWeighings 19 = .ok (.iconst (-1), 1) := by decide +kernel
theorem dX10_fewestWeighings_20 : decode cX10_fewestWeighings 20 = .ok (.ireturn, 1) := by decide +kernel
theorem dX10_fewestWeighings_21 : decode cX10_fewestWeighings 21 = .ok (.aload_n 0, 1) := by decide +kernel
theorem dX10_fewestWeighings_22 : decode cX10_fewestWeighings 22 = .ok (.iload_n 1, 1) := by decide +kernel
theorem dX10_fewestWeighings_23 : decode cX10_fewestWeighings 23 = .ok (.invokevirtual 331, 3) := by decide +kernel
theorem dX10_fewestWeighings_26 : decode cX10_fewestWeighings 26 = .ok (.aload_n 0, 1) := by decide +kernel
theorem dX10_fewestWeighings_27 : decode cX10_fewestWeighings 27 = .ok (.iload_n 1, 1) := by decide +kernel
theorem dX10_fewestWeighings_28 : decode cX10_fewestWeighings 28 = .ok (.iload_n 2, 1) := by decide +kernel
theorem dX10_fewestWeighings_29 : decode cX10_fewestWeighings 29 = .ok (.ifCond .eq 7, 3) := by decide +kernel
theorem dX10_fewestWeighings_32 : decode cX10_fewestWeighings 32 = .ok (.iconst 1, 1) := by decide +kernel
theorem dX10_fewestWeighings_33 : decode cX10_fewestWeighings 33 = .ok (.goto 4, 3) := by decide +kernel
theorem dX10_fewestWeighings_36 : decode cX10_fewestWeighings 36 = .ok (.iconst 0, 1) := by decide +kernel
theorem dX10_fewestWeighings_37 : decode cX10_fewestWeighings 37 = .ok (.invokevirtual 320, 3) := by decide +kernel
theorem dX10_fewestWeighings_40 : decode cX10_fewestWeighings 40 = .ok (.istore_n 3, 1) := by decide +kernel
theorem dX10_fewestWeighings_41 : decode cX10_fewestWeighings 41 = .ok (.iload_n 3, 1) := by decide +kernel
theorem dX10_fewestWeighings_42 : decode cX10_fewestWeighings 42 = .ok (.bipush 99, 2) := by decide +kernel
theorem dX10_fewestWeighings_44 : decode cX10_fewestWeighings 44 = .ok (.if_icmp .lt 8, 3) := by decide +kernel
theorem dX10_fewestWeighings_47 : decode cX10_fewestWeighings 47 = .ok (.bipush (-2), 2) := by decide +kernel
theorem dX10_fewestWeighings_49 : decode cX10_fewestWeighings 49 = .ok (.goto 4, 3) := by decide +kernel
theorem dX10_fewestWeighings_52 : decode cX10_fewestWeighings 52 = .ok (.iload_n 3, 1) := by decide +kernel
theorem dX10_fewestWeighings_53 : decode cX10_fewestWeighings 53 = .ok (.ireturn, 1) := by decide +kernel
theorem dX10_undo_0 : decode cX10_undo 0 = .ok (.aload_n 0, 1) := by decide +kernel
theorem dX10_undo_1 : decode cX10_undo 1 = .ok (.iconst 0, 1) := by decide +kernel
theorem dX10_undo_2 : decode cX10_undo 2 = .ok (.putfield 1, 3) := by decide +kernel
theorem dX10_undo_5 : decode cX10_undo 5 = .ok (.aload_n 0, 1) := by decide +kernel
theorem dX10_undo_6 : decode cX10_undo 6 = .ok (.getfield 231, 3) := by decide +kernel
theorem dX10_undo_9 : decode cX10_undo 9 = .ok (.ifCond .ne 5, 3) := by decide +kernel
theorem dX10_undo_12 : decode cX10_undo 12 = .ok (.iconst 0, 1) := by decide +kernel
theorem dX10_undo_13 : decode cX10_undo 13 = .ok (.ireturn, 1) := by decide +kernel
theorem dX10_undo_14 : decode cX10_undo 14 = .ok (.aload_n 0, 1) := by decide +kernel
theorem dX10_undo_15 : decode cX10_undo 15 = .ok (.dup, 1) := by decide +kernel
theorem dX10_undo_16 : decode cX10_undo 16 = .ok (.getfield 231, 3) := by decide +kernel
theorem dX10_undo_19 : decode cX10_undo 19 = .ok (.iconst 1, 1) := by decide +kernel
theorem dX10_undo_20 : decode cX10_undo 20 = .ok (.isub, 1) := by decide +kernel
theorem dX10_undo_21 : decode cX10_undo 21 = .ok (.putfield 231, 3) := by decide +kernel
theorem dX10_undo_24 : decode cX10_undo 24 = .ok (.aload_n 0, 1) := by decide +kernel
theorem dX10_undo_25 : decode cX10_undo 25 = .ok (.getfield 85, 3) := by decide +kernel
theorem dX10_undo_28 : decode cX10_undo 28 = .ok (.sipush 677, 3) := by decide +kernel
theorem dX10_undo_31 : decode cX10_undo 31 = .ok (.aload_n 0, 1) := by decide +kernel
theorem dX10_undo_32 : decode cX10_undo 32 = .ok (.getfield 231, 3) := by decide +kernel
theorem dX10_undo_35 : decode cX10_undo 35 = .ok (.imul, 1) := by decide +kernel
theorem dX10_undo_36 : decode cX10_undo 36 = .ok (.aload_n 0, 1) := by decide +kernel
theorem dX10_undo_37 : decode cX10_undo 37 = .ok (.getfield 13, 3) := by decide +kernel
theorem dX10_undo_40 : decode cX10_undo 40 = .ok (.iconst 0, 1) := by decide +kernel
theorem dX10_undo_41 : decode cX10_undo 41 = .ok (.sipush 677, 3) := by decide +kernel
theorem dX10_undo_44 : decode cX10_undo 44 = .ok (.invokestatic 221, 3) := by decide +kernel
theorem dX10_undo_47 : decode cX10_undo 47 = .ok (.iconst 1, 1) := by decide +kernel
theorem dX10_undo_48 : decode cX10_undo 48 = .ok (.ireturn, 1) := by decide +kernel
theorem dX10_undoDepth_0 : decode cX10_undoDepth 0 = .ok (.aload_n 0, 1) := by decide +kernel
theorem dX10_undoDepth_1 : decode cX10_undoDepth 1 = .ok (.iconst 0, 1) := by decide +kernel
theorem dX10_undoDepth_2 : decode cX10_undoDepth 2 = .ok (.putfield 1, 3) := by decide +kernel
theorem dX10_undoDepth_5 : decode cX10_undoDepth 5 = .ok (.aload_n 0, 1) := by decide +kernel
theorem dX10_undoDepth_6 : decode cX10_undoDepth 6 = .ok (.getfield 231, 3) := by decide +kernel
theorem dX10_undoDepth_9 : decode cX10_undoDepth 9 = .ok (.ireturn, 1) := by decide +kernel
theorem dX10_saveSnapshot_0 : decode cX10_saveSnapshot 0 = .ok (.aload_n 0, 1) := by decide +kernel
theorem dX10_saveSnapshot_1 : decode cX10_saveSnapshot 1 = .ok (.iconst 0, 1) := by decide +kernel
theorem dX10_saveSnapshot_2 : decode cX10_saveSnapshot 2 = .ok (.putfield 1, 3) := by decide +kernel
theorem dX10_saveSnapshot_5 : decode cX10_saveSnapshot 5 = .ok (.iload_n 1, 1) := by decide +kernel
theorem dX10_saveSnapshot_6 : decode cX10_saveSnapshot 6 = .ok (.i2l, 1) := by decide +kernel
theorem dX10_saveSnapshot_7 : decode cX10_saveSnapshot 7 = .ok (.lconst 0, 1) := by decide +kernel
theorem dX10_saveSnapshot_8 : decode cX10_saveSnapshot 8 = .ok (.lconst 1, 1) := by decide +kernel
theorem dX10_saveSnapshot_9 : decode cX10_saveSnapshot 9 = .ok (.invokestatic 124, 3) := by decide +kernel
theorem dX10_saveSnapshot_12 : decode cX10_saveSnapshot 12 = .ok (.ifCond .ne 5, 3) := by decide +kernel
theorem dX10_saveSnapshot_15 : decode cX10_saveSnapshot 15 = .ok (.iconst 0, 1) := by decide +kernel
theorem dX10_saveSnapshot_16 : decode cX10_saveSnapshot 16 = .ok (.ireturn, 1) := by decide +kernel
theorem dX10_saveSnapshot_17 : decode cX10_saveSnapshot 17 = .ok (.aload_n 0, 1) := by decide +kernel
theorem dX10_saveSnapshot_18 : decode cX10_saveSnapshot 18 = .ok (.getfield 13, 3) := by decide +kernel
theorem dX10_saveSnapshot_21 : decode cX10_saveSnapshot 21 = .ok (.iconst 0, 1) := by decide +kernel
theorem dX10_saveSnapshot_22 : decode cX10_saveSnapshot 22 = .ok (.aload_n 0, 1) := by decide +kernel
theorem dX10_saveSnapshot_23 : decode cX10_saveSnapshot 23 = .ok (.getfield 88, 3) := by decide +kernel
theorem dX10_saveSnapshot_26 : decode cX10_saveSnapshot 26 = .ok (.sipush 677, 3) := by decide +kernel
theorem dX10_saveSnapshot_29 : decode cX10_saveSnapshot 29 = .ok (.iload_n 1, 1) := by decide +kernel
theorem dX10_saveSnapshot_30 : decode cX10_saveSnapshot 30 = .ok (.imul, 1) := by decide +kernel
theorem dX10_saveSnapshot_31 : decode cX10_saveSnapshot 31 = .ok (.sipush 677, 3) := by decide +kernel
theorem dX10_saveSnapshot_34 : decode cX10_saveSnapshot 34 = .ok (.invokestatic 221, 3) := by decide +kernel
theorem dX10_saveSnapshot_37 : decode cX10_saveSnapshot 37 = .ok (.aload_n 0, 1) := by decide +kernel
theorem dX10_saveSnapshot_38 : decode cX10_saveSnapshot 38 = .ok (.getfield 91, 3) := by decide +kernel
theorem dX10_saveSnapshot_41 : decode cX10_saveSnapshot 41 = .ok (.iload_n 1, 1) := by decide +kernel
theorem dX10_saveSnapshot_42 : decode cX10_saveSnapshot 42 = .ok (.iconst 1, 1) := by decide +kernel
theorem dX10_saveSnapshot_43 : decode cX10_saveSnapshot 43 = .ok (.bastore, 1) := by decide +kernel
theorem dX10_saveSnapshot_44 : decode cX10_saveSnapshot 44 = .ok (.iconst 1, 1) := by decide +kernel
theorem dX10_saveSnapshot_45 : decode cX10_saveSnapshot 45 = .ok (.ireturn, 1) := by decide +kernel
theorem dX10_restoreSnapshot_0 : decode cX10_restoreSnapshot 0 = .ok (.aload_n 0, 1) := by decide +kernel
theorem dX10_restoreSnapshot_1 : decode cX10_restoreSnapshot 1 = .ok (.iconst 0, 1) := by decide +kernel
theorem dX10_restoreSnapshot_2 : decode cX10_restoreSnapshot 2 = .ok (.putfield 1, 3) := by decide +kernel
theorem dX10_restoreSnapshot_5 : decode cX10_restoreSnapshot 5 = .ok (.iload_n 1, 1) := by decide +kernel
theorem dX10_restoreSnapshot_6 : decode cX10_restoreSnapshot 6 = .ok (.i2l, 1) := by decide +kernel
theorem dX10_restoreSnapshot_7 : decode cX10_restoreSnapshot 7 = .ok (.lconst 0, 1) := by decide +kernel
theorem dX10_restoreSnapshot_8 : decode cX10_restoreSnapshot 8 = .ok (.lconst 1, 1) := by decide +kernel
theorem dX10_restoreSnapshot_9 : decode cX10_restoreSnapshot 9 = .ok (.invokestatic 124, 3) := by decide +kernel
theorem dX10_restoreSnapshot_12 : decode cX10_restoreSnapshot 12 = .ok (.ifCond .eq 12, 3) := by decide +kernel
theorem dX10_restoreSnapshot_15 : decode cX10_restoreSnapshot 15 = .ok (.aload_n 0, 1) := by decide +kernel
theorem dX10_restoreSnapshot_16 : decode cX10_restoreSnapshot 16 = .ok (.getfield 91, 3) := by decide +kernel
theorem dX10_restoreSnapshot_19 : decode cX10_restoreSnapshot 19 = .ok (.iload_n 1, 1) := by decide +kernel
theorem dX10_restoreSnapshot_20 : decode cX10_restoreSnapshot 20 = .ok (.baload, 1) := by decide +kernel
theorem dX10_restoreSnapshot_21 : decode cX10_restoreSnapshot 21 = .ok (.ifCond .ne 5, 3) := by decide +kernel
theorem dX10_restoreSnapshot_24 : decode cX10_restoreSnapshot 24 = .ok (.iconst 0, 1) := by decide +kernel
theorem dX10_restoreSnapshot_25 : decode cX10_restoreSnapshot 25 = .ok (.ireturn, 1) := by decide +kernel
theorem dX10_restoreSnapshot_26 : decode cX10_restoreSnapshot 26 = .ok (.aload_n 0, 1) := by decide +kernel
theorem dX10_restoreSnapshot_27 : decode cX10_restoreSnapshot 27 = .ok (.getfield 88, 3) := by decide +kernel
theorem dX10_restoreSnapshot_30 : decode cX10_restoreSnapshot 30 = .ok (.sipush 677, 3) := by decide +kernel
theorem dX10_restoreSnapshot_33 : decode cX10_restoreSnapshot 33 = .ok (.iload_n 1, 1) := by decide +kernel
theorem dX10_restoreSnapshot_34 : decode cX10_restoreSnapshot 34 = .ok (.imul, 1) := by decide +kernel
theorem dX10_restoreSnapshot_35 : decode cX10_restoreSnapshot 35 = .ok (.aload_n 0, 1) := by decide +kernel
theorem dX10_restoreSnapshot_36 : decode cX10_restoreSnapshot 36 = .ok (.getfield 13, 3) := by decide +kernel
theorem dX10_restoreSnapshot_39 : decode cX10_restoreSnapshot 39 = .ok (.iconst 0, 1) := by decide +kernel
theorem dX10_restoreSnapshot_40 : decode cX10_restoreSnapshot 40 = .ok (.sipush 677, 3) := by decide +kernel
theorem dX10_restoreSnapshot_43 : decode cX10_restoreSnapshot 43 = .ok (.invokestatic 221, 3) := by decide +kernel
theorem dX10_restoreSnapshot_46 : decode cX10_restoreSnapshot 46 = .ok (.aload_n 0, 1) := by decide +kernel
theorem dX10_restoreSnapshot_47 : decode cX10_restoreSnapshot 47 = .ok (.iconst 0, 1) := by decide +kernel
theorem dX10_restoreSnapshot_48 : decode cX10_restoreSnapshot 48 = .ok (.putfield 231, 3) := by decide +kernel
theorem dX10_restoreSnapshot_51 : decode cX10_restoreSnapshot 51 = .ok (.iconst 1, 1) := by decide +kernel
theorem dX10_restoreSnapshot_52 : decode cX10_restoreSnapshot 52 = .ok (.ireturn, 1) := by decide +kernel
def f_X10_last_h64 (F : Nat) (r6 : Int32 → Int32 → Int32 → Int32 → si_St → Option (Int32 × si_St)) (x1 : Int32) (x2 : Int32) (x4 : Int32) (t0 : Int32) (S : si_St) : Option (Int32 × si_St) :=
  Option.bind (some (x4 + 1)) fun v1 => r6 x1 x2 t0 v1 S
def f_X10_last_h63 (F : Nat) (r6 : Int32 → Int32 → Int32 → Int32 → si_St → Option (Int32 × si_St)) (x1 : Int32) (x2 : Int32) (x3 : Int32) (x4 : Int32) (S : si_St) : Option (Int32 × si_St) :=
  f_X10_last_h64 F r6 x1 x2 x4 x3 S
def f_X10_last_h6 (F : Nat) (r6 : Int32 → Int32 → Int32 → Int32 → si_St → Option (Int32 × si_St)) (x1 : Int32) (x2 : Int32) (x3 : Int32) (x4 : Int32) (S : si_St) : Option (Int32 × si_St) :=
  Option.bind (si_rd S 88 0) fun v2 => if v2 ≤ x4 then (some (x3, S)) else (Option.bind (si_rd S 88 (1 + x4)) fun v3 => if v3 = x1 then (Option.bind (si_rd S 88 (61 + x4)) fun v4 => if v4 = 1 then (Option.bind (si_rd S 88 (31 + x4)) fun v5 => if x2 < v5 then (f_X10_last_h63 F r6 x1 x2 x3 x4 S) else (f_X10_last_h64 F r6 x1 x2 x4 x4 S)) else (f_X10_last_h63 F r6 x1 x2 x3 x4 S)) else (f_X10_last_h63 F r6 x1 x2 x3 x4 S))
def f_X10_last_l6 (F : Nat) : Nat → Int32 → Int32 → Int32 → Int32 → si_St → Option (Int32 × si_St)
 | 0 => fun _ _ _ _ _ => none
 | n + 1 => fun x1 x2 x3 x4 S => f_X10_last_h6 F (f_X10_last_l6 F n) x1 x2 x3 x4 S
def f_X10_last (F : Nat) (x1 : Int32) (x2 : Int32) (S : si_St) : Option (Int32 × si_St) :=
  f_X10_last_l6 F F x1 x2 (-2) 0 S
def f_X10_expires (F : Nat) (x1 : Int32) (S : si_St) : Option (Int32 × si_St) :=
  Option.bind (si_rd S 88 (31 + x1)) fun v1 => Option.bind (si_rd S 88 (1 + x1)) fun v2 => Option.bind (si_rd S 90 v2) fun v3 => Option.bind (si_rd S 96 v3) fun v4 => some ((((v1 / 360) + v4) * 360), S)
def f_X10_stateOf_h47 (F : Nat) (t0 : Int32) (S : si_St) : Option (Int32 × si_St) :=
  some (t0, S)
def f_X10_stateOf (F : Nat) (x1 : Int32) (x2 : Int32) (S : si_St) : Option (Int32 × si_St) :=
  Option.bind (f_X10_last F x1 x2 S) fun q1 => if q1.1 = (-2) then (f_X10_stateOf_h47 F 0 q1.2) else (Option.bind (si_rd q1.2 88 (91 + q1.1)) fun v2 => if v2 ≤ 0 then (Option.bind (f_X10_expires F q1.1 q1.2) fun q3 => if q3.1 ≤ x2 then (f_X10_stateOf_h47 F 2 q3.2) else (f_X10_stateOf_h47 F 1 q3.2)) else (f_X10_stateOf_h47 F 3 q1.2))
def f_X10_isDay (F : Nat) (x0 : Int32) (S : si_St) : Option (Int32 × si_St) :=
  Option.bind (f_X10_within F (Int32.toInt64 x0) (0 : Int64) (9999 : Int64) S) fun q1 => Option.bind (si_bz q1.1) fun v2 => some (v2, q1.2)
def f_X10_worse_h10 (F : Nat) (t0 : Int32) (S : si_St) : Option (Int32 × si_St) :=
  some (t0, S)
def f_X10_worse (F : Nat) (x0 : Int32) (x1 : Int32) (S : si_St) : Option (Int32 × si_St) :=
  if x0 ≤ x1 then (f_X10_worse_h10 F x1 S) else (f_X10_worse_h10 F x0 S)
def f_X10_sealState_h30 (F : Nat) (t0 : Int32) (S : si_St) : Option (Int32 × si_St) :=
  some (t0, S)
def f_X10_sealState_h29 (F : Nat) (S : si_St) : Option (Int32 × si_St) :=
  f_X10_sealState_h30 F (-1) S
def f_X10_sealState (F : Nat) (x1 : Int32) (x2 : Int32) (S : si_St) : Option (Int32 × si_St) :=
  Option.bind (si_pt S 87 0 0) fun S1 => Option.bind (f_X10_isScale F x1 S1) fun q2 => if q2.1 = 0 then (f_X10_sealState_h29 F q2.2) else (Option.bind (f_X10_isDay F x2 q2.2) fun q3 => if q3.1 = 0 then (f_X10_sealState_h29 F q3.2) else (Option.bind (f_X10_stateOf F x1 x2 q3.2) fun q4 => f_X10_sealState_h30 F q4.1 q4.2))
def f_X10_expiryDay_h20 (F : Nat) (S : si_St) : Option (Int32 × si_St) :=
  some ((-1), S)
def f_X10_expiryDay_h47 (F : Nat) (t0 : Int32) (S : si_St) : Option (Int32 × si_St) :=
  some (t0, S)
def f_X10_expiryDay (F : Nat) (x1 : Int32) (x2 : Int32) (S : si_St) : Option (Int32 × si_St) :=
  Option.bind (si_pt S 87 0 0) fun S1 => Option.bind (f_X10_isScale F x1 S1) fun q2 => if q2.1 = 0 then (f_X10_expiryDay_h20 F q2.2) else (Option.bind (f_X10_isDay F x2 q2.2) fun q3 => if q3.1 = 0 then (f_X10_expiryDay_h20 F q3.2) else (Option.bind (f_X10_stateOf F x1 x2 q3.2) fun q4 => if q4.1 = 1 then (Option.bind (f_X10_last F x1 x2 q4.2) fun q5 => Option.bind (f_X10_expires F q5.1 q5.2) fun q6 => f_X10_expiryDay_h47 F q6.1 q6.2) else (f_X10_expiryDay_h47 F (-2) q4.2)))
def f_X10_scalesWith_h24 (F : Nat) (S : si_St) : Option (Int32 × si_St) :=
  some ((-1), S)
def f_X10_scalesWith_h60 (F : Nat) (r31 : Int32 → Int32 → Int32 → Int32 → si_St → Option (Int32 × si_St)) (x1 : Int32) (x2 : Int32) (x4 : Int32) (t0 : Int32) (t1 : Int32) (S : si_St) : Option (Int32 × si_St) :=
  Option.bind (some (t1 ||| t0)) fun v1 => Option.bind (some (x4 + 1)) fun v2 => r31 x1 x2 v1 v2 S
def f_X10_scalesWith_h31 (F : Nat) (r31 : Int32 → Int32 → Int32 → Int32 → si_St → Option (Int32 × si_St)) (x1 : Int32) (x2 : Int32) (x3 : Int32) (x4 : Int32) (S : si_St) : Option (Int32 × si_St) :=
  if (S.1 87 3) ≤ x4 then (some (x3, S)) else (Option.bind (f_X10_stateOf F x4 x2 S) fun q3 => if q3.1 = x1 then (f_X10_scalesWith_h60 F r31 x1 x2 x4 (1 <<< (x4 &&& 31)) x3 q3.2) else (f_X10_scalesWith_h60 F r31 x1 x2 x4 0 x3 q3.2))
def f_X10_scalesWith_l31 (F : Nat) : Nat → Int32 → Int32 → Int32 → Int32 → si_St → Option (Int32 × si_St)
 | 0 => fun _ _ _ _ _ => none
 | n + 1 => fun x1 x2 x3 x4 S => f_X10_scalesWith_h31 F (f_X10_scalesWith_l31 F n) x1 x2 x3 x4 S
def f_X10_scalesWith (F : Nat) (x1 : Int32) (x2 : Int32) (S : si_St) : Option (Int32 × si_St) :=
  Option.bind (si_pt S 87 0 0) fun S4 => Option.bind (f_X10_within F (Int32.toInt64 x1) (0 : Int64) (3 : Int64) S4) fun q5 => if q5.1 = 0 then (f_X10_scalesWith_h24 F q5.2) else (Option.bind (f_X10_isDay F x2 q5.2) fun q6 => if q6.1 = 0 then (f_X10_scalesWith_h24 F q6.2) else (f_X10_scalesWith_l31 F F x1 x2 0 0 q6.2))
def f_X10_riskOf_h173 (F : Nat) (r124 : Int32 → Int32 → Int32 → Int32 → si_St → Option (Int32 × si_St)) (x1 : Int32) (x2 : Int32) (x5 : Int32) (t0 : Int32) (t1 : Int32) (S : si_St) : Option (Int32 × si_St) :=
  Option.bind (some (t1 + t0)) fun v1 => Option.bind (some (x5 + 1)) fun v2 => r124 x1 x2 v1 v2 S
def f_X10_riskOf_h172 (F : Nat) (r124 : Int32 → Int32 → Int32 → Int32 → si_St → Option (Int32 × si_St)) (x1 : Int32) (x2 : Int32) (x5 : Int32) (t0 : Int32) (S : si_St) : Option (Int32 × si_St) :=
  f_X10_riskOf_h173 F r124 x1 x2 x5 0 t0 S
def f_X10_riskOf_h124 (F : Nat) (r124 : Int32 → Int32 → Int32 → Int32 → si_St → Option (Int32 × si_St)) (x1 : Int32) (x2 : Int32) (x4 : Int32) (x5 : Int32) (S : si_St) : Option (Int32 × si_St) :=
  if (S.1 87 3) ≤ x5 then (some (x4, S)) else (if x5 = x1 then (f_X10_riskOf_h172 F r124 x1 x2 x5 x4 S) else (Option.bind (si_rd S 89 x5) fun v3 => Option.bind (si_rd S 89 x1) fun v4 => if v3 = v4 then (Option.bind (f_X10_stateOf F x5 x2 S) fun q5 => if q5.1 = 3 then (f_X10_riskOf_h173 F r124 x1 x2 x5 1 x4 q5.2) else (f_X10_riskOf_h172 F r124 x1 x2 x5 x4 q5.2)) else (f_X10_riskOf_h172 F r124 x1 x2 x5 x4 S)))
def f_X10_riskOf_l124 (F : Nat) : Nat → Int32 → Int32 → Int32 → Int32 → si_St → Option (Int32 × si_St)
 | 0 => fun _ _ _ _ _ => none
 | n + 1 => fun x1 x2 x4 x5 S => f_X10_riskOf_h124 F (f_X10_riskOf_l124 F n) x1 x2 x4 x5 S
def f_X10_riskOf_h112 (F : Nat) (r40 : Int32 → Int32 → Int32 → Int32 → si_St → Option (Int32 × si_St)) (x1 : Int32) (x2 : Int32) (x5 : Int32) (t0 : Int32) (t1 : Int32) (S : si_St) : Option (Int32 × si_St) :=
  Option.bind (some (t1 + t0)) fun v6 => Option.bind (some (x5 + 1)) fun v7 => r40 x1 x2 v6 v7 S
def f_X10_riskOf_h111 (F : Nat) (r40 : Int32 → Int32 → Int32 → Int32 → si_St → Option (Int32 × si_St)) (x1 : Int32) (x2 : Int32) (x5 : Int32) (t0 : Int32) (S : si_St) : Option (Int32 × si_St) :=
  f_X10_riskOf_h112 F r40 x1 x2 x5 0 t0 S
def f_X10_riskOf_h40 (F : Nat) (r40 : Int32 → Int32 → Int32 → Int32 → si_St → Option (Int32 × si_St)) (x1 : Int32) (x2 : Int32) (x4 : Int32) (x5 : Int32) (S : si_St) : Option (Int32 × si_St) :=
  Option.bind (si_rd S 88 0) fun v8 => if v8 ≤ x5 then (f_X10_riskOf_l124 F F x1 x2 x4 0 S) else (Option.bind (si_rd S 88 (1 + x5)) fun v9 => if v9 = x1 then (Option.bind (si_rd S 88 (61 + x5)) fun v10 => if v10 = 1 then (Option.bind (si_rd S 88 (31 + x5)) fun v11 => if x2 < v11 then (f_X10_riskOf_h111 F r40 x1 x2 x5 x4 S) else (Option.bind (si_rd S 88 (91 + x5)) fun v12 => if v12 ≤ 0 then (f_X10_riskOf_h111 F r40 x1 x2 x5 x4 S) else (f_X10_riskOf_h112 F r40 x1 x2 x5 1 x4 S))) else (f_X10_riskOf_h111 F r40 x1 x2 x5 x4 S)) else (f_X10_riskOf_h111 F r40 x1 x2 x5 x4 S))
def f_X10_riskOf_l40 (F : Nat) : Nat → Int32 → Int32 → Int32 → Int32 → si_St → Option (Int32 × si_St)
 | 0 => fun _ _ _ _ _ => none
 | n + 1 => fun x1 x2 x4 x5 S => f_X10_riskOf_h40 F (f_X10_riskOf_l40 F n) x1 x2 x4 x5 S
def f_X10_riskOf_h35 (F : Nat) (x1 : Int32) (x2 : Int32) (t0 : Int32) (S : si_St) : Option (Int32 × si_St) :=
  f_X10_riskOf_l40 F F x1 x2 t0 0 S
def f_X10_riskOf (F : Nat) (x1 : Int32) (x2 : Int32) (S : si_St) : Option (Int32 × si_St) :=
  Option.bind (f_X10_stateOf F x1 x2 S) fun q13 => if q13.1 = 0 then (f_X10_riskOf_h35 F x1 x2 4 q13.2) else (if q13.1 = 1 then (f_X10_riskOf_h35 F x1 x2 1 q13.2) else (if q13.1 = 2 then (f_X10_riskOf_h35 F x1 x2 3 q13.2) else (f_X10_riskOf_h35 F x1 x2 6 q13.2)))
def f_X10_risk_h30 (F : Nat) (t0 : Int32) (S : si_St) : Option (Int32 × si_St) :=
  some (t0, S)
def f_X10_risk_h29 (F : Nat) (S : si_St) : Option (Int32 × si_St) :=
  f_X10_risk_h30 F (-1) S
def f_X10_risk (F : Nat) (x1 : Int32) (x2 : Int32) (S : si_St) : Option (Int32 × si_St) :=
  Option.bind (si_pt S 87 0 0) fun S1 => Option.bind (f_X10_isScale F x1 S1) fun q2 => if q2.1 = 0 then (f_X10_risk_h29 F q2.2) else (Option.bind (f_X10_isDay F x2 q2.2) fun q3 => if q3.1 = 0 then (f_X10_risk_h29 F q3.2) else (Option.bind (f_X10_riskOf F x1 x2 q3.2) fun q4 => f_X10_risk_h30 F q4.1 q4.2))
def f_X10_riskiestTrader_h92 (F : Nat) (r22 : Int32 → Int32 → Int32 → Int32 → si_St → Option (Int32 × si_St)) (x1 : Int32) (x2 : Int32) (x3 : Int32) (x4 : Int32) (S : si_St) : Option (Int32 × si_St) :=
  Option.bind (some (x4 + 1)) fun v1 => r22 x1 x2 x3 v1 S
def f_X10_riskiestTrader_h71 (F : Nat) (r22 : Int32 → Int32 → Int32 → Int32 → si_St → Option (Int32 × si_St)) (r37 : Int32 → Int32 → Int32 → Int32 → Int32 → Int32 → si_St → Option (Int32 × si_St)) (x1 : Int32) (x2 : Int32) (x3 : Int32) (x4 : Int32) (x6 : Int32) (t0 : Int32) (t1 : Int32) (S : si_St) : Option (Int32 × si_St) :=
  Option.bind (some (t1 + t0)) fun v2 => Option.bind (some (x6 + 1)) fun v3 => r37 x1 x2 x3 x4 v2 v3 S
def f_X10_riskiestTrader_h37 (F : Nat) (r22 : Int32 → Int32 → Int32 → Int32 → si_St → Option (Int32 × si_St)) (r37 : Int32 → Int32 → Int32 → Int32 → Int32 → Int32 → si_St → Option (Int32 × si_St)) (x1 : Int32) (x2 : Int32) (x3 : Int32) (x4 : Int32) (x5 : Int32) (x6 : Int32) (S : si_St) : Option (Int32 × si_St) :=
  if (S.1 87 3) ≤ x6 then (if x5 ≤ x3 then (f_X10_riskiestTrader_h92 F r22 x1 x2 x3 x4 S) else (f_X10_riskiestTrader_h92 F r22 x1 x4 x5 x4 S)) else (Option.bind (si_rd S 89 x6) fun v4 => if v4 = x4 then (Option.bind (f_X10_riskOf F x6 x1 S) fun q5 => f_X10_riskiestTrader_h71 F r22 r37 x1 x2 x3 x4 x6 q5.1 x5 q5.2) else (f_X10_riskiestTrader_h71 F r22 r37 x1 x2 x3 x4 x6 0 x5 S))
def f_X10_riskiestTrader_l37 (F : Nat) (r22 : Int32 → Int32 → Int32 → Int32 → si_St → Option (Int32 × si_St)) : Nat → Int32 → Int32 → Int32 → Int32 → Int32 → Int32 → si_St → Option (Int32 × si_St)
 | 0 => fun _ _ _ _ _ _ _ => none
 | n + 1 => fun x1 x2 x3 x4 x5 x6 S => f_X10_riskiestTrader_h37 F r22 (f_X10_riskiestTrader_l37 F r22 n) x1 x2 x3 x4 x5 x6 S
def f_X10_riskiestTrader_h22 (F : Nat) (r22 : Int32 → Int32 → Int32 → Int32 → si_St → Option (Int32 × si_St)) (x1 : Int32) (x2 : Int32) (x3 : Int32) (x4 : Int32) (S : si_St) : Option (Int32 × si_St) :=
  if (S.1 87 2) ≤ x4 then (some (x2, S)) else (f_X10_riskiestTrader_l37 F r22 F x1 x2 x3 x4 0 0 S)
def f_X10_riskiestTrader_l22 (F : Nat) : Nat → Int32 → Int32 → Int32 → Int32 → si_St → Option (Int32 × si_St)
 | 0 => fun _ _ _ _ _ => none
 | n + 1 => fun x1 x2 x3 x4 S => f_X10_riskiestTrader_h22 F (f_X10_riskiestTrader_l22 F n) x1 x2 x3 x4 S
def f_X10_riskiestTrader (F : Nat) (x1 : Int32) (S : si_St) : Option (Int32 × si_St) :=
  Option.bind (si_pt S 87 0 0) fun S6 => Option.bind (f_X10_isDay F x1 S6) fun q7 => if q7.1 = 0 then (some ((-1), q7.2)) else (f_X10_riskiestTrader_l22 F F x1 (-2) (-1) 0 q7.2)
def f_X10_lot_h28 (F : Nat) (S : si_St) : Option (Int32 × si_St) :=
  some ((-1), S)
def f_X10_lot_h137 (F : Nat) (r99 : Int32 → Int32 → Int64 → Int32 → Int32 → si_St → Option (Int32 × si_St)) (r137 : Int32 → Int32 → Int64 → Int32 → Int32 → Int32 → si_St → Option (Int32 × si_St)) (x2 : Int32) (x4 : Int32) (x5 : Int64) (x7 : Int32) (x8 : Int32) (x9 : Int32) (S : si_St) : Option (Int32 × si_St) :=
  Option.bind (si_rd S 107 x7) fun v1 => if x9 < v1 then (Option.bind (si_rd S 107 x7) fun v2 => Option.bind (some (x4 - v2)) fun v3 => Option.bind (si_wr S 107 x7 0) fun S4 => Option.bind (some (x8 + 1)) fun v5 => r99 x2 v3 x5 x7 v5 S4) else (Option.bind (si_rd S 107 x7) fun v6 => Option.bind (some (x9 - v6)) fun v7 => Option.bind (some (x7 + 1)) fun v8 => r137 x2 x4 x5 v8 x8 v7 S)
def f_X10_lot_l137 (F : Nat) (r99 : Int32 → Int32 → Int64 → Int32 → Int32 → si_St → Option (Int32 × si_St)) : Nat → Int32 → Int32 → Int64 → Int32 → Int32 → Int32 → si_St → Option (Int32 × si_St)
 | 0 => fun _ _ _ _ _ _ _ => none
 | n + 1 => fun x2 x4 x5 x7 x8 x9 S => f_X10_lot_h137 F r99 (f_X10_lot_l137 F r99 n) x2 x4 x5 x7 x8 x9 S
def f_X10_lot_h99 (F : Nat) (r99 : Int32 → Int32 → Int64 → Int32 → Int32 → si_St → Option (Int32 × si_St)) (x2 : Int32) (x4 : Int32) (x5 : Int64) (x7 : Int32) (x8 : Int32) (S : si_St) : Option (Int32 × si_St) :=
  if x2 < x8 then (some (x7, S)) else (Option.bind (some (((x5 * (1103515245 : Int64)) + (12345 : Int64)) - ((x5 * (1103515245 : Int64)) + (12345 : Int64)) / (2147483648 : Int64) * (2147483648 : Int64))) fun v9 => if (Int32.toInt64 x4) = 0 then none else Option.bind (some (Int64.toInt32 ((v9 / (65536 : Int64)) - (v9 / (65536 : Int64)) / (Int32.toInt64 x4) * (Int32.toInt64 x4)))) fun v11 => f_X10_lot_l137 F r99 F x2 x4 v9 0 x8 v11 S)
def f_X10_lot_l99 (F : Nat) : Nat → Int32 → Int32 → Int64 → Int32 → Int32 → si_St → Option (Int32 × si_St)
 | 0 => fun _ _ _ _ _ _ => none
 | n + 1 => fun x2 x4 x5 x7 x8 S => f_X10_lot_h99 F (f_X10_lot_l99 F n) x2 x4 x5 x7 x8 S
def f_X10_lot_h47 (F : Nat) (r47 : Int32 → Int32 → Int32 → Int32 → Int32 → si_St → Option (Int32 × si_St)) (x1 : Int32) (x2 : Int32) (x3 : Int32) (x4 : Int32) (x5 : Int32) (S : si_St) : Option (Int32 × si_St) :=
  if (S.1 87 3) ≤ x5 then (Option.bind (some (Int32.toInt64 x1)) fun v12 => f_X10_lot_l99 F F x2 x4 v12 (-2) 0 S) else (Option.bind (f_X10_riskOf F x5 x3 S) fun q13 => Option.bind (si_wr q13.2 107 x5 q13.1) fun S14 => Option.bind (si_rd S14 107 x5) fun v15 => Option.bind (some (x4 + v15)) fun v16 => Option.bind (some (x5 + 1)) fun v17 => r47 x1 x2 x3 v16 v17 S14)
def f_X10_lot_l47 (F : Nat) : Nat → Int32 → Int32 → Int32 → Int32 → Int32 → si_St → Option (Int32 × si_St)
 | 0 => fun _ _ _ _ _ _ => none
 | n + 1 => fun x1 x2 x3 x4 x5 S => f_X10_lot_h47 F (f_X10_lot_l47 F n) x1 x2 x3 x4 x5 S
def f_X10_lot (F : Nat) (x1 : Int32) (x2 : Int32) (x3 : Int32) (S : si_St) : Option (Int32 × si_St) :=
  Option.bind (si_pt S 87 0 0) fun S18 => Option.bind (f_X10_within F (Int32.toInt64 x1) (0 : Int64) (999999 : Int64) S18) fun q19 => if q19.1 = 0 then (f_X10_lot_h28 F q19.2) else (if x2 < 0 then (f_X10_lot_h28 F q19.2) else (Option.bind (f_X10_isDay F x3 q19.2) fun q20 => if q20.1 = 0 then (f_X10_lot_h28 F q20.2) else (if x2 < (q20.2.1 87 3) then (f_X10_lot_l47 F F x1 x2 x3 0 0 q20.2) else (some ((-2), q20.2)))))
def f_X10_oneOf_h22 (F : Nat) (t0 : Int32) (S : si_St) : Option (Int32 × si_St) :=
  some (t0, S)
def f_X10_oneOf (F : Nat) (x1 : Int32) (x2 : Int32) (S : si_St) : Option (Int32 × si_St) :=
  if 2 ≤ (x1 + x2) then (Option.bind (si_rd S 108 ((13 * x1) + x2)) fun v1 => f_X10_oneOf_h22 F v1 S) else (f_X10_oneOf_h22 F 0 S)
def f_X10_bothOf_h23 (F : Nat) (t0 : Int32) (S : si_St) : Option (Int32 × si_St) :=
  some (t0, S)
def f_X10_bothOf (F : Nat) (x1 : Int32) (x2 : Int32) (S : si_St) : Option (Int32 × si_St) :=
  if 2 ≤ ((2 * x1) + x2) then (Option.bind (si_rd S 109 ((2 * x1) + x2)) fun v1 => f_X10_bothOf_h23 F v1 S) else (f_X10_bothOf_h23 F 0 S)
def f_X10_leastOne_h178 (F : Nat) (r7 : Int32 → Int32 → Int32 → Int32 → Int32 → si_St → Option (Int32 × si_St)) (r16 : Int32 → Int32 → Int32 → Int32 → Int32 → Int32 → si_St → Option (Int32 × si_St)) (r28 : Int32 → Int32 → Int32 → Int32 → Int32 → Int32 → Int32 → si_St → Option (Int32 × si_St)) (r37 : Int32 → Int32 → Int32 → Int32 → Int32 → Int32 → Int32 → Int32 → si_St → Option (Int32 × si_St)) (x1 : Int32) (x2 : Int32) (x3 : Int32) (x4 : Int32) (x5 : Int32) (x6 : Int32) (x7 : Int32) (x8 : Int32) (S : si_St) : Option (Int32 × si_St) :=
  Option.bind (some (x8 + 1)) fun v1 => r37 x1 x2 x3 x4 x5 x6 x7 v1 S
def f_X10_leastOne_h176 (F : Nat) (r7 : Int32 → Int32 → Int32 → Int32 → Int32 → si_St → Option (Int32 × si_St)) (r16 : Int32 → Int32 → Int32 → Int32 → Int32 → Int32 → si_St → Option (Int32 × si_St)) (r28 : Int32 → Int32 → Int32 → Int32 → Int32 → Int32 → Int32 → si_St → Option (Int32 × si_St)) (r37 : Int32 → Int32 → Int32 → Int32 → Int32 → Int32 → Int32 → Int32 → si_St → Option (Int32 × si_St)) (x1 : Int32) (x2 : Int32) (x3 : Int32) (x5 : Int32) (x6 : Int32) (x7 : Int32) (x8 : Int32) (t0 : Int32) (S : si_St) : Option (Int32 × si_St) :=
  f_X10_leastOne_h178 F r7 r16 r28 r37 x1 x2 x3 t0 x5 x6 x7 x8 S
def f_X10_leastOne_h100 (F : Nat) (r7 : Int32 → Int32 → Int32 → Int32 → Int32 → si_St → Option (Int32 × si_St)) (r16 : Int32 → Int32 → Int32 → Int32 → Int32 → Int32 → si_St → Option (Int32 × si_St)) (r28 : Int32 → Int32 → Int32 → Int32 → Int32 → Int32 → Int32 → si_St → Option (Int32 × si_St)) (r37 : Int32 → Int32 → Int32 → Int32 → Int32 → Int32 → Int32 → Int32 → si_St → Option (Int32 × si_St)) (x1 : Int32) (x2 : Int32) (x3 : Int32) (x4 : Int32) (x5 : Int32) (x6 : Int32) (x7 : Int32) (x8 : Int32) (x9 : Int32) (t0 : Int32) (S : si_St) : Option (Int32 × si_St) :=
  if t0 = 0 then (f_X10_leastOne_h178 F r7 r16 r28 r37 x1 x2 x3 x4 x5 x6 x7 x8 S) else (Option.bind (f_X10_size F x9 S) fun q2 => if x3 < q2.1 then (f_X10_leastOne_h178 F r7 r16 r28 r37 x1 x2 x3 x4 x5 x6 x7 x8 q2.2) else (Option.bind (f_X10_oneOf F ((x1 - x5) - x6) ((x2 - x7) - x8) q2.2) fun q3 => Option.bind (f_X10_oneOf F x5 x8 q3.2) fun q4 => Option.bind (f_X10_oneOf F x6 x7 q4.2) fun q5 => Option.bind (f_X10_worse F q4.1 q5.1 q5.2) fun q6 => Option.bind (f_X10_worse F q3.1 q6.1 q6.2) fun q7 => if x4 ≤ (q7.1 + 1) then (f_X10_leastOne_h176 F r7 r16 r28 r37 x1 x2 x3 x5 x6 x7 x8 x4 q7.2) else (f_X10_leastOne_h176 F r7 r16 r28 r37 x1 x2 x3 x5 x6 x7 x8 (q7.1 + 1) q7.2)))
def f_X10_leastOne_h99 (F : Nat) (r7 : Int32 → Int32 → Int32 → Int32 → Int32 → si_St → Option (Int32 × si_St)) (r16 : Int32 → Int32 → Int32 → Int32 → Int32 → Int32 → si_St → Option (Int32 × si_St)) (r28 : Int32 → Int32 → Int32 → Int32 → Int32 → Int32 → Int32 → si_St → Option (Int32 × si_St)) (r37 : Int32 → Int32 → Int32 → Int32 → Int32 → Int32 → Int32 → Int32 → si_St → Option (Int32 × si_St)) (x1 : Int32) (x2 : Int32) (x3 : Int32) (x4 : Int32) (x5 : Int32) (x6 : Int32) (x7 : Int32) (x8 : Int32) (x9 : Int32) (S : si_St) : Option (Int32 × si_St) :=
  f_X10_leastOne_h100 F r7 r16 r28 r37 x1 x2 x3 x4 x5 x6 x7 x8 x9 0 S
def f_X10_leastOne_h37 (F : Nat) (r7 : Int32 → Int32 → Int32 → Int32 → Int32 → si_St → Option (Int32 × si_St)) (r16 : Int32 → Int32 → Int32 → Int32 → Int32 → Int32 → si_St → Option (Int32 × si_St)) (r28 : Int32 → Int32 → Int32 → Int32 → Int32 → Int32 → Int32 → si_St → Option (Int32 × si_St)) (r37 : Int32 → Int32 → Int32 → Int32 → Int32 → Int32 → Int32 → Int32 → si_St → Option (Int32 × si_St)) (x1 : Int32) (x2 : Int32) (x3 : Int32) (x4 : Int32) (x5 : Int32) (x6 : Int32) (x7 : Int32) (x8 : Int32) (S : si_St) : Option (Int32 × si_St) :=
  if x2 < (x7 + x8) then (Option.bind (some (x7 + 1)) fun v8 => r28 x1 x2 x3 x4 x5 x6 v8 S) else (Option.bind (some (((x5 + x7) - x6) - x8)) fun v9 => if (x1 + x2) ≤ (x5 + x8) then (f_X10_leastOne_h99 F r7 r16 r28 r37 x1 x2 x3 x4 x5 x6 x7 x8 v9 S) else (if (x1 + x2) ≤ (x6 + x7) then (f_X10_leastOne_h99 F r7 r16 r28 r37 x1 x2 x3 x4 x5 x6 x7 x8 v9 S) else (if (((x5 + x6) + x7) + x8) ≤ 0 then (f_X10_leastOne_h99 F r7 r16 r28 r37 x1 x2 x3 x4 x5 x6 x7 x8 v9 S) else (f_X10_leastOne_h100 F r7 r16 r28 r37 x1 x2 x3 x4 x5 x6 x7 x8 v9 1 S))))
def f_X10_leastOne_l37 (F : Nat) (r7 : Int32 → Int32 → Int32 → Int32 → Int32 → si_St → Option (Int32 × si_St)) (r16 : Int32 → Int32 → Int32 → Int32 → Int32 → Int32 → si_St → Option (Int32 × si_St)) (r28 : Int32 → Int32 → Int32 → Int32 → Int32 → Int32 → Int32 → si_St → Option (Int32 × si_St)) : Nat → Int32 → Int32 → Int32 → Int32 → Int32 → Int32 → Int32 → Int32 → si_St → Option (Int32 × si_St)
 | 0 => fun _ _ _ _ _ _ _ _ _ => none
 | n + 1 => fun x1 x2 x3 x4 x5 x6 x7 x8 S => f_X10_leastOne_h37 F r7 r16 r28 (f_X10_leastOne_l37 F r7 r16 r28 n) x1 x2 x3 x4 x5 x6 x7 x8 S
def f_X10_leastOne_h28 (F : Nat) (r7 : Int32 → Int32 → Int32 → Int32 → Int32 → si_St → Option (Int32 × si_St)) (r16 : Int32 → Int32 → Int32 → Int32 → Int32 → Int32 → si_St → Option (Int32 × si_St)) (r28 : Int32 → Int32 → Int32 → Int32 → Int32 → Int32 → Int32 → si_St → Option (Int32 × si_St)) (x1 : Int32) (x2 : Int32) (x3 : Int32) (x4 : Int32) (x5 : Int32) (x6 : Int32) (x7 : Int32) (S : si_St) : Option (Int32 × si_St) :=
  if x2 < x7 then (Option.bind (some (x6 + 1)) fun v10 => r16 x1 x2 x3 x4 x5 v10 S) else (f_X10_leastOne_l37 F r7 r16 r28 F x1 x2 x3 x4 x5 x6 x7 0 S)
def f_X10_leastOne_l28 (F : Nat) (r7 : Int32 → Int32 → Int32 → Int32 → Int32 → si_St → Option (Int32 × si_St)) (r16 : Int32 → Int32 → Int32 → Int32 → Int32 → Int32 → si_St → Option (Int32 × si_St)) : Nat → Int32 → Int32 → Int32 → Int32 → Int32 → Int32 → Int32 → si_St → Option (Int32 × si_St)
 | 0 => fun _ _ _ _ _ _ _ _ => none
 | n + 1 => fun x1 x2 x3 x4 x5 x6 x7 S => f_X10_leastOne_h28 F r7 r16 (f_X10_leastOne_l28 F r7 r16 n) x1 x2 x3 x4 x5 x6 x7 S
def f_X10_leastOne_h16 (F : Nat) (r7 : Int32 → Int32 → Int32 → Int32 → Int32 → si_St → Option (Int32 × si_St)) (r16 : Int32 → Int32 → Int32 → Int32 → Int32 → Int32 → si_St → Option (Int32 × si_St)) (x1 : Int32) (x2 : Int32) (x3 : Int32) (x4 : Int32) (x5 : Int32) (x6 : Int32) (S : si_St) : Option (Int32 × si_St) :=
  if x1 < (x5 + x6) then (Option.bind (some (x5 + 1)) fun v11 => r7 x1 x2 x3 x4 v11 S) else (f_X10_leastOne_l28 F r7 r16 F x1 x2 x3 x4 x5 x6 0 S)
def f_X10_leastOne_l16 (F : Nat) (r7 : Int32 → Int32 → Int32 → Int32 → Int32 → si_St → Option (Int32 × si_St)) : Nat → Int32 → Int32 → Int32 → Int32 → Int32 → Int32 → si_St → Option (Int32 × si_St)
 | 0 => fun _ _ _ _ _ _ _ => none
 | n + 1 => fun x1 x2 x3 x4 x5 x6 S => f_X10_leastOne_h16 F r7 (f_X10_leastOne_l16 F r7 n) x1 x2 x3 x4 x5 x6 S
def f_X10_leastOne_h7 (F : Nat) (r7 : Int32 → Int32 → Int32 → Int32 → Int32 → si_St → Option (Int32 × si_St)) (x1 : Int32) (x2 : Int32) (x3 : Int32) (x4 : Int32) (x5 : Int32) (S : si_St) : Option (Int32 × si_St) :=
  if x1 < x5 then (some (x4, S)) else (f_X10_leastOne_l16 F r7 F x1 x2 x3 x4 x5 0 S)
def f_X10_leastOne_l7 (F : Nat) : Nat → Int32 → Int32 → Int32 → Int32 → Int32 → si_St → Option (Int32 × si_St)
 | 0 => fun _ _ _ _ _ _ => none
 | n + 1 => fun x1 x2 x3 x4 x5 S => f_X10_leastOne_h7 F (f_X10_leastOne_l7 F n) x1 x2 x3 x4 x5 S
def f_X10_leastOne (F : Nat) (x1 : Int32) (x2 : Int32) (x3 : Int32) (S : si_St) : Option (Int32 × si_St) :=
  f_X10_leastOne_l7 F F x1 x2 x3 99 0 S
def f_X10_leastBoth_h101 (F : Nat) (r7 : Int32 → Int32 → Int32 → Int32 → Int32 → si_St → Option (Int32 × si_St)) (r16 : Int32 → Int32 → Int32 → Int32 → Int32 → Int32 → si_St → Option (Int32 × si_St)) (x1 : Int32) (x2 : Int32) (x3 : Int32) (x4 : Int32) (x5 : Int32) (x6 : Int32) (S : si_St) : Option (Int32 × si_St) :=
  Option.bind (some (x6 + 1)) fun v1 => r16 x1 x2 x3 x4 x5 v1 S
def f_X10_leastBoth_h99 (F : Nat) (r7 : Int32 → Int32 → Int32 → Int32 → Int32 → si_St → Option (Int32 × si_St)) (r16 : Int32 → Int32 → Int32 → Int32 → Int32 → Int32 → si_St → Option (Int32 × si_St)) (x1 : Int32) (x2 : Int32) (x3 : Int32) (x5 : Int32) (x6 : Int32) (t0 : Int32) (S : si_St) : Option (Int32 × si_St) :=
  f_X10_leastBoth_h101 F r7 r16 x1 x2 x3 t0 x5 x6 S
def f_X10_leastBoth_h16 (F : Nat) (r7 : Int32 → Int32 → Int32 → Int32 → Int32 → si_St → Option (Int32 × si_St)) (r16 : Int32 → Int32 → Int32 → Int32 → Int32 → Int32 → si_St → Option (Int32 × si_St)) (x1 : Int32) (x2 : Int32) (x3 : Int32) (x4 : Int32) (x5 : Int32) (x6 : Int32) (S : si_St) : Option (Int32 × si_St) :=
  if x1 < (x5 + x6) then (Option.bind (some (x5 + 1)) fun v2 => r7 x1 x2 x3 x4 v2 S) else (if (x5 + x6) ≤ 0 then (f_X10_leastBoth_h101 F r7 r16 x1 x2 x3 x4 x5 x6 S) else (Option.bind (f_X10_size F (x5 - x6) S) fun q3 => if x3 < q3.1 then (f_X10_leastBoth_h101 F r7 r16 x1 x2 x3 x4 x5 x6 q3.2) else (Option.bind (f_X10_bothOf F ((x1 - x5) - x6) x2 q3.2) fun q4 => Option.bind (f_X10_oneOf F x5 x6 q4.2) fun q5 => Option.bind (f_X10_oneOf F x6 x5 q5.2) fun q6 => Option.bind (f_X10_worse F q5.1 q6.1 q6.2) fun q7 => Option.bind (f_X10_worse F q4.1 q7.1 q7.2) fun q8 => if x4 ≤ (q8.1 + 1) then (f_X10_leastBoth_h99 F r7 r16 x1 x2 x3 x5 x6 x4 q8.2) else (f_X10_leastBoth_h99 F r7 r16 x1 x2 x3 x5 x6 (q8.1 + 1) q8.2))))
def f_X10_leastBoth_l16 (F : Nat) (r7 : Int32 → Int32 → Int32 → Int32 → Int32 → si_St → Option (Int32 × si_St)) : Nat → Int32 → Int32 → Int32 → Int32 → Int32 → Int32 → si_St → Option (Int32 × si_St)
 | 0 => fun _ _ _ _ _ _ _ => none
 | n + 1 => fun x1 x2 x3 x4 x5 x6 S => f_X10_leastBoth_h16 F r7 (f_X10_leastBoth_l16 F r7 n) x1 x2 x3 x4 x5 x6 S
def f_X10_leastBoth_h7 (F : Nat) (r7 : Int32 → Int32 → Int32 → Int32 → Int32 → si_St → Option (Int32 × si_St)) (x1 : Int32) (x2 : Int32) (x3 : Int32) (x4 : Int32) (x5 : Int32) (S : si_St) : Option (Int32 × si_St) :=
  if x1 < x5 then (some (x4, S)) else (f_X10_leastBoth_l16 F r7 F x1 x2 x3 x4 x5 0 S)
def f_X10_leastBoth_l7 (F : Nat) : Nat → Int32 → Int32 → Int32 → Int32 → Int32 → si_St → Option (Int32 × si_St)
 | 0 => fun _ _ _ _ _ _ => none
 | n + 1 => fun x1 x2 x3 x4 x5 S => f_X10_leastBoth_h7 F (f_X10_leastBoth_l7 F n) x1 x2 x3 x4 x5 S
def f_X10_leastBoth (F : Nat) (x1 : Int32) (x2 : Int32) (x3 : Int32) (S : si_St) : Option (Int32 × si_St) :=
  f_X10_leastBoth_l7 F F x1 x2 x3 99 0 S
def f_X10_lays_h52 (F : Nat) (r52 : Int32 → Int32 → si_St → Option (si_St)) (x1 : Int32) (x2 : Int32) (S : si_St) : Option (si_St) :=
  if x1 < x2 then (some S) else (Option.bind (f_X10_leastBoth F x2 0 (x1 - x2) S) fun q1 => Option.bind (si_wr q1.2 109 (2 * x2) q1.1) fun S2 => Option.bind (f_X10_leastBoth F x2 1 (x1 - x2) S2) fun q3 => Option.bind (si_wr q3.2 109 ((2 * x2) + 1) q3.1) fun S4 => Option.bind (some (x2 + 1)) fun v5 => r52 x1 v5 S4)
def f_X10_lays_l52 (F : Nat) : Nat → Int32 → Int32 → si_St → Option (si_St)
 | 0 => fun _ _ _ => none
 | n + 1 => fun x1 x2 S => f_X10_lays_h52 F (f_X10_lays_l52 F n) x1 x2 S
def f_X10_lays_h9 (F : Nat) (r2 : Int32 → Int32 → si_St → Option (si_St)) (r9 : Int32 → Int32 → Int32 → si_St → Option (si_St)) (x1 : Int32) (x2 : Int32) (x3 : Int32) (S : si_St) : Option (si_St) :=
  if x2 < x3 then (Option.bind (some (x2 + 1)) fun v6 => r2 x1 v6 S) else (Option.bind (f_X10_leastOne F x3 (x2 - x3) (x1 - x2) S) fun q7 => Option.bind (si_wr q7.2 108 (((13 * x3) + x2) - x3) q7.1) fun S8 => Option.bind (some (x3 + 1)) fun v9 => r9 x1 x2 v9 S8)
def f_X10_lays_l9 (F : Nat) (r2 : Int32 → Int32 → si_St → Option (si_St)) : Nat → Int32 → Int32 → Int32 → si_St → Option (si_St)
 | 0 => fun _ _ _ _ => none
 | n + 1 => fun x1 x2 x3 S => f_X10_lays_h9 F r2 (f_X10_lays_l9 F r2 n) x1 x2 x3 S
def f_X10_lays_h2 (F : Nat) (r2 : Int32 → Int32 → si_St → Option (si_St)) (x1 : Int32) (x2 : Int32) (S : si_St) : Option (si_St) :=
  if x1 < x2 then (f_X10_lays_l52 F F x1 1 S) else (f_X10_lays_l9 F r2 F x1 x2 0 S)
def f_X10_lays_l2 (F : Nat) : Nat → Int32 → Int32 → si_St → Option (si_St)
 | 0 => fun _ _ _ => none
 | n + 1 => fun x1 x2 S => f_X10_lays_h2 F (f_X10_lays_l2 F n) x1 x2 S
def f_X10_lays (F : Nat) (x1 : Int32) (S : si_St) : Option (si_St) :=
  f_X10_lays_l2 F F x1 2 S
def f_X10_needs_h47 (F : Nat) (t0 : Int32) (S : si_St) : Option (Int32 × si_St) :=
  some (t0, S)
def f_X10_needs (F : Nat) (x1 : Int32) (x2 : Int32) (x3 : Int32) (S : si_St) : Option (Int32 × si_St) :=
  Option.bind (f_X10_bits F x1 S) fun q1 => Option.bind (f_X10_bits F x2 q1.2) fun q2 => if 2 ≤ ((q1.1 + q2.1) + x3) then (if (x1 &&& x2) = 0 then (Option.bind (f_X10_bits F x1 q2.2) fun q3 => Option.bind (f_X10_bits F x2 q3.2) fun q4 => Option.bind (f_X10_oneOf F q3.1 q4.1 q4.2) fun q5 => f_X10_needs_h47 F q5.1 q5.2) else (Option.bind (f_X10_bits F x1 q2.2) fun q6 => Option.bind (f_X10_bothOf F q6.1 x3 q6.2) fun q7 => f_X10_needs_h47 F q7.1 q7.2)) else (some (0, q2.2))
def f_X10_isSet (F : Nat) (x1 : Int32) (S : si_St) : Option (Int32 × si_St) :=
  Option.bind (f_X10_within F (Int32.toInt64 x1) (0 : Int64) (Int32.toInt64 ((S.1 87 10) - 1)) S) fun q1 => Option.bind (si_bz q1.1) fun v2 => some (v2, q1.2)
def f_X10_countOf (F : Nat) (x1 : Int32) (S : si_St) : Option (Int32 × si_St) :=
  Option.bind (si_rd S 88 (661 + x1)) fun v1 => Option.bind (f_X10_bits F v1 S) fun q2 => Option.bind (si_rd q2.2 88 (665 + x1)) fun v3 => Option.bind (f_X10_bits F v3 q2.2) fun q4 => Option.bind (si_rd q4.2 88 (669 + x1)) fun v5 => some (((q2.1 + q4.1) + v5), q4.2)
def f_X10_weightCount_h23 (F : Nat) (t0 : Int32) (S : si_St) : Option (Int32 × si_St) :=
  some (t0, S)
def f_X10_weightCount (F : Nat) (x1 : Int32) (S : si_St) : Option (Int32 × si_St) :=
  Option.bind (si_pt S 87 0 0) fun S1 => Option.bind (f_X10_isSet F x1 S1) fun q2 => if q2.1 = 0 then (f_X10_weightCount_h23 F (-1) q2.2) else (Option.bind (si_rd q2.2 94 x1) fun v3 => f_X10_weightCount_h23 F v3 q2.2)
def f_X10_weigh_h81 (F : Nat) (S : si_St) : Option (Int32 × si_St) :=
  some ((-1), S)
def f_X10_weigh_h183 (F : Nat) (x1 : Int32) (x6 : Int32) (x8 : Int32) (t0 : Int32) (t1 : Int32) (S : si_St) : Option (Int32 × si_St) :=
  Option.bind (some (t1 &&& t0)) fun v1 => Option.bind (f_X10_bits F x6 S) fun q2 => Option.bind (f_X10_bits F v1 q2.2) fun q3 => Option.bind (some ((q2.1 + q3.1) + x8)) fun v4 => if v4 = 0 then (some ((-2), q3.2)) else (Option.bind (si_rd q3.2 88 (673 + x1)) fun v5 => if v5 = 20 then (some ((-3), q3.2)) else (Option.bind (f_X10_keeps F q3.2) fun S6 => Option.bind (si_wr S6 88 (661 + x1) x6) fun S7 => Option.bind (si_wr S7 88 (665 + x1) v1) fun S8 => Option.bind (si_wr S8 88 (669 + x1) x8) fun S9 => Option.bind (si_rd S9 88 (673 + x1)) fun v10 => Option.bind (si_wr S9 88 (673 + x1) (v10 + 1)) fun S11 => some (v4, S11)))
def f_X10_weigh_h154 (F : Nat) (x1 : Int32) (x2 : Int32) (x3 : Int32) (x4 : Int32) (x7 : Int32) (x8 : Int32) (t0 : Int32) (t1 : Int32) (S : si_St) : Option (Int32 × si_St) :=
  Option.bind (some (t1 &&& t0)) fun v12 => if x4 = 0 then (f_X10_weigh_h183 F x1 v12 x8 ((x2 ||| x3) ^^^ (-1)) x7 S) else (if x4 = 1 then (f_X10_weigh_h183 F x1 v12 x8 x3 x7 S) else (f_X10_weigh_h183 F x1 v12 x8 x2 x7 S))
def f_X10_weigh_h126 (F : Nat) (x1 : Int32) (x2 : Int32) (x3 : Int32) (x4 : Int32) (x6 : Int32) (x7 : Int32) (t0 : Int32) (S : si_St) : Option (Int32 × si_St) :=
  if x4 = 0 then (f_X10_weigh_h154 F x1 x2 x3 x4 x7 t0 ((x2 ||| x3) ^^^ (-1)) x6 S) else (if x4 = 1 then (f_X10_weigh_h154 F x1 x2 x3 x4 x7 t0 x2 x6 S) else (f_X10_weigh_h154 F x1 x2 x3 x4 x7 t0 x3 x6 S))
def f_X10_weigh (F : Nat) (x1 : Int32) (x2 : Int32) (x3 : Int32) (x4 : Int32) (S : si_St) : Option (Int32 × si_St) :=
  Option.bind (si_pt S 87 0 0) fun S13 => Option.bind (f_X10_isSet F x1 S13) fun q14 => if q14.1 = 0 then (some ((-1), q14.2)) else (Option.bind (si_rd q14.2 94 x1) fun v15 => Option.bind (some ((1 <<< (v15 &&& 31)) - 1)) fun v16 => Option.bind (f_X10_within F (Int32.toInt64 x2) (1 : Int64) (Int32.toInt64 v16) q14.2) fun q17 => if q17.1 = 0 then (f_X10_weigh_h81 F q17.2) else (Option.bind (f_X10_within F (Int32.toInt64 x3) (1 : Int64) (Int32.toInt64 v16) q17.2) fun q18 => if q18.1 = 0 then (f_X10_weigh_h81 F q18.2) else (if (x2 &&& x3) = 0 then (Option.bind (f_X10_bits F x2 q18.2) fun q19 => Option.bind (f_X10_bits F x3 q19.2) fun q20 => if q19.1 = q20.1 then (Option.bind (f_X10_within F (Int32.toInt64 x4) (0 : Int64) (2 : Int64) q20.2) fun q21 => if q21.1 = 0 then (f_X10_weigh_h81 F q21.2) else (Option.bind (si_rd q21.2 88 (661 + x1)) fun v22 => Option.bind (si_rd q21.2 88 (665 + x1)) fun v23 => if x4 = 0 then (Option.bind (si_rd q21.2 88 (669 + x1)) fun v24 => f_X10_weigh_h126 F x1 x2 x3 x4 v22 v23 v24 q21.2) else (f_X10_weigh_h126 F x1 x2 x3 x4 v22 v23 0 q21.2))) else (f_X10_weigh_h81 F q20.2)) else (f_X10_weigh_h81 F q18.2))))
def f_X10_weighingCount_h27 (F : Nat) (t0 : Int32) (S : si_St) : Option (Int32 × si_St) :=
  some (t0, S)
def f_X10_weighingCount (F : Nat) (x1 : Int32) (S : si_St) : Option (Int32 × si_St) :=
  Option.bind (si_pt S 87 0 0) fun S1 => Option.bind (f_X10_isSet F x1 S1) fun q2 => if q2.1 = 0 then (f_X10_weighingCount_h27 F (-1) q2.2) else (Option.bind (si_rd q2.2 88 (673 + x1)) fun v3 => f_X10_weighingCount_h27 F v3 q2.2)
def f_X10_hypothesisCount_h22 (F : Nat) (t0 : Int32) (S : si_St) : Option (Int32 × si_St) :=
  some (t0, S)
def f_X10_hypothesisCount (F : Nat) (x1 : Int32) (S : si_St) : Option (Int32 × si_St) :=
  Option.bind (si_pt S 87 0 0) fun S1 => Option.bind (f_X10_isSet F x1 S1) fun q2 => if q2.1 = 0 then (f_X10_hypothesisCount_h22 F (-1) q2.2) else (Option.bind (f_X10_countOf F x1 q2.2) fun q3 => f_X10_hypothesisCount_h22 F q3.1 q3.2)
def f_X10_heavySuspects_h27 (F : Nat) (t0 : Int32) (S : si_St) : Option (Int32 × si_St) :=
  some (t0, S)
def f_X10_heavySuspects (F : Nat) (x1 : Int32) (S : si_St) : Option (Int32 × si_St) :=
  Option.bind (si_pt S 87 0 0) fun S1 => Option.bind (f_X10_isSet F x1 S1) fun q2 => if q2.1 = 0 then (f_X10_heavySuspects_h27 F (-1) q2.2) else (Option.bind (si_rd q2.2 88 (661 + x1)) fun v3 => f_X10_heavySuspects_h27 F v3 q2.2)
def f_X10_lightSuspects_h27 (F : Nat) (t0 : Int32) (S : si_St) : Option (Int32 × si_St) :=
  some (t0, S)
def f_X10_lightSuspects (F : Nat) (x1 : Int32) (S : si_St) : Option (Int32 × si_St) :=
  Option.bind (si_pt S 87 0 0) fun S1 => Option.bind (f_X10_isSet F x1 S1) fun q2 => if q2.1 = 0 then (f_X10_lightSuspects_h27 F (-1) q2.2) else (Option.bind (si_rd q2.2 88 (665 + x1)) fun v3 => f_X10_lightSuspects_h27 F v3 q2.2)
def f_X10_canBeGenuine_h27 (F : Nat) (t0 : Int32) (S : si_St) : Option (Int32 × si_St) :=
  some (t0, S)
def f_X10_canBeGenuine (F : Nat) (x1 : Int32) (S : si_St) : Option (Int32 × si_St) :=
  Option.bind (si_pt S 87 0 0) fun S1 => Option.bind (f_X10_isSet F x1 S1) fun q2 => if q2.1 = 0 then (f_X10_canBeGenuine_h27 F (-1) q2.2) else (Option.bind (si_rd q2.2 88 (669 + x1)) fun v3 => f_X10_canBeGenuine_h27 F v3 q2.2)
def f_X10_finding_h29 (F : Nat) (r29 : Int32 → Int32 → si_St → Option (Int32 × si_St)) (x1 : Int32) (x2 : Int32) (S : si_St) : Option (Int32 × si_St) :=
  Option.bind (si_rd S 94 x1) fun v1 => if v1 ≤ x2 then (some (0, S)) else (Option.bind (si_rd S 88 (661 + x1)) fun v2 => if v2 = (1 <<< (x2 &&& 31)) then (some ((1 + (2 * x2)), S)) else (Option.bind (si_rd S 88 (665 + x1)) fun v3 => if v3 = (1 <<< (x2 &&& 31)) then (some ((2 + (2 * x2)), S)) else (Option.bind (some (x2 + 1)) fun v4 => r29 x1 v4 S)))
def f_X10_finding_l29 (F : Nat) : Nat → Int32 → Int32 → si_St → Option (Int32 × si_St)
 | 0 => fun _ _ _ => none
 | n + 1 => fun x1 x2 S => f_X10_finding_h29 F (f_X10_finding_l29 F n) x1 x2 S
def f_X10_finding (F : Nat) (x1 : Int32) (S : si_St) : Option (Int32 × si_St) :=
  Option.bind (si_pt S 87 0 0) fun S5 => Option.bind (f_X10_isSet F x1 S5) fun q6 => if q6.1 = 0 then (some ((-1), q6.2)) else (Option.bind (f_X10_countOf F x1 q6.2) fun q7 => if q7.1 ≤ 1 then (f_X10_finding_l29 F F x1 0 q7.2) else (some ((-2), q7.2)))
def f_X10_needed (F : Nat) (x1 : Int32) (S : si_St) : Option (Int32 × si_St) :=
  Option.bind (si_rd S 94 x1) fun v1 => Option.bind (f_X10_lays F v1 S) fun S2 => Option.bind (si_rd S2 88 (661 + x1)) fun v3 => Option.bind (si_rd S2 88 (665 + x1)) fun v4 => Option.bind (si_rd S2 88 (669 + x1)) fun v5 => Option.bind (f_X10_needs F v3 v4 v5 S2) fun q6 => some (q6.1, q6.2)
def f_X10_weighingsNeeded_h33 (F : Nat) (t0 : Int32) (S : si_St) : Option (Int32 × si_St) :=
  some (t0, S)
def f_X10_weighingsNeeded (F : Nat) (x1 : Int32) (S : si_St) : Option (Int32 × si_St) :=
  Option.bind (si_pt S 87 0 0) fun S1 => Option.bind (f_X10_isSet F x1 S1) fun q2 => if q2.1 = 0 then (some ((-1), q2.2)) else (Option.bind (f_X10_needed F x1 q2.2) fun q3 => if q3.1 < 99 then (f_X10_weighingsNeeded_h33 F q3.1 q3.2) else (f_X10_weighingsNeeded_h33 F (-2) q3.2))
def f_X10_behind_h115 (F : Nat) (S : si_St) : Option (Int32 × si_St) :=
  some (99, S)
def f_X10_behind (F : Nat) (x1 : Int32) (x2 : Int32) (x3 : Int32) (S : si_St) : Option (Int32 × si_St) :=
  Option.bind (si_rd S 88 (661 + x1)) fun v1 => Option.bind (si_rd S 88 (665 + x1)) fun v2 => Option.bind (some ((x2 ||| x3) ^^^ (-1))) fun v3 => Option.bind (f_X10_countOf F x1 S) fun q4 => Option.bind (f_X10_bits F (v1 &&& v3) q4.2) fun q5 => Option.bind (f_X10_bits F (v2 &&& v3) q5.2) fun q6 => Option.bind (si_rd q6.2 88 (669 + x1)) fun v7 => Option.bind (some ((q5.1 + q6.1) + v7)) fun v8 => if v8 = q4.1 then (f_X10_behind_h115 F q6.2) else (Option.bind (f_X10_bits F (v1 &&& x2) q6.2) fun q9 => Option.bind (f_X10_bits F (v2 &&& x3) q9.2) fun q10 => if (q9.1 + q10.1) = q4.1 then (f_X10_behind_h115 F q10.2) else (Option.bind (f_X10_bits F (v1 &&& x3) q10.2) fun q11 => Option.bind (f_X10_bits F (v2 &&& x2) q11.2) fun q12 => if (q11.1 + q12.1) = q4.1 then (f_X10_behind_h115 F q12.2) else (Option.bind (si_rd q12.2 88 (669 + x1)) fun v13 => Option.bind (f_X10_needs F (v1 &&& v3) (v2 &&& v3) v13 q12.2) fun q14 => Option.bind (f_X10_needs F (v1 &&& x2) (v2 &&& x3) 0 q14.2) fun q15 => Option.bind (f_X10_needs F (v1 &&& x3) (v2 &&& x2) 0 q15.2) fun q16 => Option.bind (f_X10_worse F q15.1 q16.1 q16.2) fun q17 => Option.bind (f_X10_worse F q14.1 q17.1 q17.2) fun q18 => some (q18.1, q18.2))))
def f_X10_best_h22 (F : Nat) (S : si_St) : Option (Int32 × si_St) :=
  some ((-2), S)
def f_X10_best_h139 (F : Nat) (r37 : Int32 → Int32 → Int32 → Int32 → si_St → Option (Int32 × si_St)) (r53 : Int32 → Int32 → Int32 → Int32 → Int32 → si_St → Option (Int32 × si_St)) (x1 : Int32) (x2 : Int32) (x3 : Int32) (x4 : Int32) (x5 : Int32) (S : si_St) : Option (Int32 × si_St) :=
  Option.bind (some (x5 + 1)) fun v1 => r53 x1 x2 x3 x4 v1 S
def f_X10_best_h126 (F : Nat) (r37 : Int32 → Int32 → Int32 → Int32 → si_St → Option (Int32 × si_St)) (r53 : Int32 → Int32 → Int32 → Int32 → Int32 → si_St → Option (Int32 × si_St)) (r77 : Int32 → Int32 → Int32 → Int32 → Int32 → Int32 → Int32 → si_St → Option (Int32 × si_St)) (x1 : Int32) (x2 : Int32) (x3 : Int32) (x4 : Int32) (x5 : Int32) (x6 : Int32) (x7 : Int32) (S : si_St) : Option (Int32 × si_St) :=
  Option.bind (some ((x7 - x6) &&& x6)) fun v2 => r77 x1 x2 x3 x4 x5 x6 v2 S
def f_X10_best_h77 (F : Nat) (r37 : Int32 → Int32 → Int32 → Int32 → si_St → Option (Int32 × si_St)) (r53 : Int32 → Int32 → Int32 → Int32 → Int32 → si_St → Option (Int32 × si_St)) (r77 : Int32 → Int32 → Int32 → Int32 → Int32 → Int32 → Int32 → si_St → Option (Int32 × si_St)) (x1 : Int32) (x2 : Int32) (x3 : Int32) (x4 : Int32) (x5 : Int32) (x6 : Int32) (x7 : Int32) (S : si_St) : Option (Int32 × si_St) :=
  if x7 = 0 then (f_X10_best_h139 F r37 r53 x1 x2 x3 x4 x5 S) else (Option.bind (f_X10_bits F x5 S) fun q3 => if q3.1 = x4 then (Option.bind (f_X10_bits F x7 q3.2) fun q4 => if q4.1 = x4 then (Option.bind (f_X10_behind F x1 x5 x7 q4.2) fun q5 => if q5.1 = (x2 - 1) then (Option.bind (si_pt q5.2 87 40 x7) fun S6 => some (x5, S6)) else (f_X10_best_h126 F r37 r53 r77 x1 x2 x3 x4 x5 x6 x7 q5.2)) else (f_X10_best_h126 F r37 r53 r77 x1 x2 x3 x4 x5 x6 x7 q4.2)) else (f_X10_best_h139 F r37 r53 x1 x2 x3 x4 x5 q3.2))
def f_X10_best_l77 (F : Nat) (r37 : Int32 → Int32 → Int32 → Int32 → si_St → Option (Int32 × si_St)) (r53 : Int32 → Int32 → Int32 → Int32 → Int32 → si_St → Option (Int32 × si_St)) : Nat → Int32 → Int32 → Int32 → Int32 → Int32 → Int32 → Int32 → si_St → Option (Int32 × si_St)
 | 0 => fun _ _ _ _ _ _ _ _ => none
 | n + 1 => fun x1 x2 x3 x4 x5 x6 x7 S => f_X10_best_h77 F r37 r53 (f_X10_best_l77 F r37 r53 n) x1 x2 x3 x4 x5 x6 x7 S
def f_X10_best_h53 (F : Nat) (r37 : Int32 → Int32 → Int32 → Int32 → si_St → Option (Int32 × si_St)) (r53 : Int32 → Int32 → Int32 → Int32 → Int32 → si_St → Option (Int32 × si_St)) (x1 : Int32) (x2 : Int32) (x3 : Int32) (x4 : Int32) (x5 : Int32) (S : si_St) : Option (Int32 × si_St) :=
  if x3 ≤ x5 then (Option.bind (some (x4 + 1)) fun v7 => r37 x1 x2 x3 v7 S) else (Option.bind (some ((x3 - 1) &&& (x5 ^^^ (-1)))) fun v8 => Option.bind (some (v8 &&& (-v8))) fun v9 => f_X10_best_l77 F r37 r53 F x1 x2 x3 x4 x5 v8 v9 S)
def f_X10_best_l53 (F : Nat) (r37 : Int32 → Int32 → Int32 → Int32 → si_St → Option (Int32 × si_St)) : Nat → Int32 → Int32 → Int32 → Int32 → Int32 → si_St → Option (Int32 × si_St)
 | 0 => fun _ _ _ _ _ _ => none
 | n + 1 => fun x1 x2 x3 x4 x5 S => f_X10_best_h53 F r37 (f_X10_best_l53 F r37 n) x1 x2 x3 x4 x5 S
def f_X10_best_h37 (F : Nat) (r37 : Int32 → Int32 → Int32 → Int32 → si_St → Option (Int32 × si_St)) (x1 : Int32) (x2 : Int32) (x3 : Int32) (x4 : Int32) (S : si_St) : Option (Int32 × si_St) :=
  Option.bind (si_rd S 94 x1) fun v10 => if v10 < (2 * x4) then (some ((-2), S)) else (f_X10_best_l53 F r37 F x1 x2 x3 x4 1 S)
def f_X10_best_l37 (F : Nat) : Nat → Int32 → Int32 → Int32 → Int32 → si_St → Option (Int32 × si_St)
 | 0 => fun _ _ _ _ _ => none
 | n + 1 => fun x1 x2 x3 x4 S => f_X10_best_h37 F (f_X10_best_l37 F n) x1 x2 x3 x4 S
def f_X10_best (F : Nat) (x1 : Int32) (S : si_St) : Option (Int32 × si_St) :=
  Option.bind (f_X10_needed F x1 S) fun q11 => Option.bind (si_pt q11.2 87 40 (-2)) fun S12 => if q11.1 = 0 then (f_X10_best_h22 F S12) else (if q11.1 < 99 then (Option.bind (si_rd S12 94 x1) fun v13 => Option.bind (some (1 <<< (v13 &&& 31))) fun v14 => f_X10_best_l37 F F x1 q11.1 v14 1 S12) else (f_X10_best_h22 F S12))
def f_X10_bestLeft_h22 (F : Nat) (t0 : Int32) (S : si_St) : Option (Int32 × si_St) :=
  some (t0, S)
def f_X10_bestLeft (F : Nat) (x1 : Int32) (S : si_St) : Option (Int32 × si_St) :=
  Option.bind (si_pt S 87 0 0) fun S1 => Option.bind (f_X10_isSet F x1 S1) fun q2 => if q2.1 = 0 then (f_X10_bestLeft_h22 F (-1) q2.2) else (Option.bind (f_X10_best F x1 q2.2) fun q3 => f_X10_bestLeft_h22 F q3.1 q3.2)
def f_X10_bestRight (F : Nat) (x1 : Int32) (S : si_St) : Option (Int32 × si_St) :=
  Option.bind (si_pt S 87 0 0) fun S1 => Option.bind (f_X10_isSet F x1 S1) fun q2 => if q2.1 = 0 then (some ((-1), q2.2)) else (Option.bind (f_X10_best F x1 q2.2) fun q3 => some ((q3.2.1 87 40), q3.2))
def f_X10_fewestWeighings_h53 (F : Nat) (t0 : Int32) (S : si_St) : Option (Int32 × si_St) :=
  some (t0, S)
def f_X10_fewestWeighings_h37 (F : Nat) (t0 : Int32) (t1 : Int32) (S : si_St) : Option (Int32 × si_St) :=
  Option.bind (f_X10_bothOf F t1 t0 S) fun q1 => if q1.1 < 99 then (f_X10_fewestWeighings_h53 F q1.1 q1.2) else (f_X10_fewestWeighings_h53 F (-2) q1.2)
def f_X10_fewestWeighings (F : Nat) (x1 : Int32) (x2 : Int32) (S : si_St) : Option (Int32 × si_St) :=
  Option.bind (si_pt S 87 0 0) fun S2 => Option.bind (f_X10_within F (Int32.toInt64 x1) (2 : Int64) (12 : Int64) S2) fun q3 => if q3.1 = 0 then (some ((-1), q3.2)) else (Option.bind (f_X10_lays F x1 q3.2) fun S4 => if x2 = 0 then (f_X10_fewestWeighings_h37 F 0 x1 S4) else (f_X10_fewestWeighings_h37 F 1 x1 S4))
def f_X10_undo (F : Nat) (S : si_St) : Option (Int32 × si_St) :=
  Option.bind (si_pt S 87 0 0) fun S1 => if (S1.1 87 41) = 0 then (Option.bind (si_bz 0) fun v5 => some (v5, S1)) else (Option.bind (si_pt S1 87 41 ((S1.1 87 41) - 1)) fun S2 => Option.bind (f_X10_copies F 110 88 (677 * (S2.1 87 41)) 0 677 S2) fun S3 => Option.bind (si_bz 1) fun v4 => some (v4, S3))
def f_X10_undoDepth (F : Nat) (S : si_St) : Option (Int32 × si_St) :=
  Option.bind (si_pt S 87 0 0) fun S1 => some ((S1.1 87 41), S1)
def f_X10_saveSnapshot (F : Nat) (x1 : Int32) (S : si_St) : Option (Int32 × si_St) :=
  Option.bind (si_pt S 87 0 0) fun S1 => Option.bind (f_X10_within F (Int32.toInt64 x1) (0 : Int64) (1 : Int64) S1) fun q2 => if q2.1 = 0 then (Option.bind (si_bz 0) fun v6 => some (v6, q2.2)) else (Option.bind (f_X10_copies F 88 111 0 (677 * x1) 677 q2.2) fun S3 => Option.bind (si_wz S3 112 x1 1) fun S4 => Option.bind (si_bz 1) fun v5 => some (v5, S4))
def f_X10_restoreSnapshot_h24 (F : Nat) (S : si_St) : Option (Int32 × si_St) :=
  Option.bind (si_bz 0) fun v1 => some (v1, S)
def f_X10_restoreSnapshot (F : Nat) (x1 : Int32) (S : si_St) : Option (Int32 × si_St) :=
  Option.bind (si_pt S 87 0 0) fun S2 => Option.bind (f_X10_within F (Int32.toInt64 x1) (0 : Int64) (1 : Int64) S2) fun q3 => if q3.1 = 0 then (f_X10_restoreSnapshot_h24 F q3.2) else (Option.bind (si_rd q3.2 112 x1) fun v4 => if v4 = 0 then (f_X10_restoreSnapshot_h24 F q3.2) else (Option.bind (f_X10_copies F 111 88 (677 * x1) 0 677 q3.2) fun S5 => Option.bind (si_pt S5 87 41 0) fun S6 => Option.bind (si_bz 1) fun v7 => some (v7, S6)))
abbrev rm_X10_last : Room := { frames := 0, cells := 0, slots := 0, locals := 0 }
set_option maxHeartbeats 4000000 in
set_option maxRecDepth 100000 in
theorem c_X10_last (l : Launch) (E : si_Ev) (F : Nat) (x1 : Int32) (x2 : Int32) (S : si_St) (o : Int32 × si_St) (hf : f_X10_last F x1 x2 S = some o) : si_Mi l E yX10_last cX10_last 5 (some .int) rm_X10_last [.ref (E.2.1 87), .int x1, .int x2] S o := by
  refine si_ofWi (plainFor_of_name (by decide +kernel)) (Nat.le_of_ble_eq_true rfl) ?_
  intro p e s m args below meth c ls Q A X hw hA hl hret
  have hl : lv_has ls 5 [(0, .ref (E.2.1 87)), (1, .int x1), (2, .int x2)] := hl
  have B6 : ∀ (n6 : Nat) (x1 : Int32) (x2 : Int32) (x3 : Int32) (x4 : Int32) (S : si_St) (H : Heap) (locs : List Loc) (ls : Array Slot) , f_X10_last_l6 F n6 x1 x2 x3 x4 S = some o → si_Ws E A s.heap S H locs → lv_has ls 5 [(0, .ref (E.2.1 87)), (1, .int x1), (2, .int x2), (3, .int x3), (4, .int x4)] → W p l e rm_X10_last s m args below meth c H locs 0 0 Q (F0 m 6 ls []) := by
    intro n6
    induction n6 with
    | zero => intro x1 x2 x3 x4  S H locs ls  hf; cases hf
    | succ n6 ih6 =>
      have B64 : ∀ (x1 : Int32) (x2 : Int32) (x4 : Int32) (t0 : Int32) (S : si_St) (H : Heap) (locs : List Loc) (ls : Array Slot) , f_X10_last_h64 F (f_X10_last_l6 F n6) x1 x2 x4 t0 S = some o → si_Ws E A s.heap S H locs → lv_has ls 5 [(0, .ref (E.2.1 87)), (1, .int x1), (2, .int x2), (4, .int x4)] → W p l e rm_X10_last s m args below meth c H locs 0 0 Q (F0 m 64 ls [.int t0]) := by
        intro x1 x2 x4 t0  S H locs ls  hf hw hl
        unfold f_X10_last_h64 at hf
        refine lv_istore_n (lv' := [(3, .int t0), (0, .ref (E.2.1 87)), (1, .int x1), (2, .int x2), (4, .int x4)]) X.1 X.2.1 dX10_last_64 rfl hl (by decide) rfl (fun ls hl => ?_)
        obtain ⟨v1, ev1, hf⟩ := si_ob hf
        refine lv_iinc (v := v1) (lv' := [(4, .int v1), (3, .int t0), (0, .ref (E.2.1 87)), (1, .int x1), (2, .int x2)]) X.1 X.2.1 dX10_last_65 hl (k := 4) rfl (Option.some.inj ev1) (by decide) rfl (fun ls hl => ?_)
        refine lv_goto (tgt := 6) X.1 X.2.1 dX10_last_68 (by decide) ?_
        exact ih6 _ _ _ _ _ _ _ _ hf hw (lv_sub hl [2, 3, 4, 1, 0] rfl)
      have B63 : ∀ (x1 : Int32) (x2 : Int32) (x3 : Int32) (x4 : Int32) (S : si_St) (H : Heap) (locs : List Loc) (ls : Array Slot) , f_X10_last_h63 F (f_X10_last_l6 F n6) x1 x2 x3 x4 S = some o → si_Ws E A s.heap S H locs → lv_has ls 5 [(0, .ref (E.2.1 87)), (1, .int x1), (2, .int x2), (3, .int x3), (4, .int x4)] → W p l e rm_X10_last s m args below meth c H locs 0 0 Q (F0 m 63 ls []) := by
        intro x1 x2 x3 x4  S H locs ls  hf hw hl
        unfold f_X10_last_h63 at hf
        refine lv_iload_n X.1 X.2.1 dX10_last_63 rfl (lv_at hl 3 rfl) ?_
        exact B64 _ _ _ _ _ _ _ _ hf hw (lv_sub hl [0, 1, 2, 4] rfl)
      intro x1 x2 x3 x4  S H locs ls  hf hw hl
      have hf : f_X10_last_h6 F (f_X10_last_l6 F n6) x1 x2 x3 x4 S = some o := hf
      unfold f_X10_last_h6 at hf
      refine lv_iload X.1 X.2.1 dX10_last_6 (lv_at hl 4 rfl) ?_
      refine lv_aload_n X.1 X.2.1 dX10_last_8 rfl (lv_at hl 0 rfl) ?_
      refine si_getR (k' := 88) (d := 1) X hw si_cl10 1 (by decide) gf_RX10_13 rfl rfl rfl (by decide) rfl dX10_last_9 ?_
      refine lv_iconst (v := 0) X.1 X.2.1 dX10_last_12 (by decide) ?_
      obtain ⟨v2, ev2, hf⟩ := si_ob hf
      refine si_iald X hw rfl ev2 dX10_last_13 ?_
      refine lv_icmp_ge (tgt := 71) X.1 X.2.1 dX10_last_14 (by decide) (fun c14 => ?_) (fun c14 => ?_)
      · have hf := si_ip c14 hf
        refine lv_iload_n X.1 X.2.1 dX10_last_71 rfl (lv_at hl 3 rfl) ?_
        exact hret _ _ _ _ _ _ hf hw dX10_last_72
      · have hf := si_in c14 hf
        refine lv_aload_n X.1 X.2.1 dX10_last_17 rfl (lv_at hl 0 rfl) ?_
        refine si_getR (k' := 88) (d := 1) X hw si_cl10 1 (by decide) gf_RX10_13 rfl rfl rfl (by decide) rfl dX10_last_18 ?_
        refine lv_iconst (v := 1) X.1 X.2.1 dX10_last_21 (by decide) ?_
        refine lv_iload X.1 X.2.1 dX10_last_22 (lv_at hl 4 rfl) ?_
        refine lv_iadd X.1 X.2.1 dX10_last_24 ?_
        obtain ⟨v3, ev3, hf⟩ := si_ob hf
        refine si_iald X hw rfl ev3 dX10_last_25 ?_
        refine lv_iload_n X.1 X.2.1 dX10_last_26 rfl (lv_at hl 1 rfl) ?_
        refine lv_icmp_ne (tgt := 63) X.1 X.2.1 dX10_last_27 (by decide) (fun c27 => ?_) (fun c27 => ?_)
        · have hf := si_in c27 hf
          exact B63 _ _ _ _ _ _ _ _ hf hw (lv_sub hl [0, 1, 2, 3, 4] rfl)
        · have hf := si_ip c27 hf
          refine lv_aload_n X.1 X.2.1 dX10_last_30 rfl (lv_at hl 0 rfl) ?_
          refine si_getR (k' := 88) (d := 1) X hw si_cl10 1 (by decide) gf_RX10_13 rfl rfl rfl (by decide) rfl dX10_last_31 ?_
          refine lv_bipush (v := 61) X.1 X.2.1 dX10_last_34 (by decide) ?_
          refine lv_iload X.1 X.2.1 dX10_last_36 (lv_at hl 4 rfl) ?_
          refine lv_iadd X.1 X.2.1 dX10_last_38 ?_
          obtain ⟨v4, ev4, hf⟩ := si_ob hf
          refine si_iald X hw rfl ev4 dX10_last_39 ?_
          refine lv_iconst (v := 1) X.1 X.2.1 dX10_last_40 (by decide) ?_
          refine lv_icmp_ne (tgt := 63) X.1 X.2.1 dX10_last_41 (by decide) (fun c41 => ?_) (fun c41 => ?_)
          · have hf := si_in c41 hf
            exact B63 _ _ _ _ _ _ _ _ hf hw (lv_sub hl [0, 1, 2, 3, 4] rfl)
          · have hf := si_ip c41 hf
            refine lv_aload_n X.1 X.2.1 dX10_last_44 rfl (lv_at hl 0 rfl) ?_
            refine si_getR (k' := 88) (d := 1) X hw si_cl10 1 (by decide) gf_RX10_13 rfl rfl rfl (by decide) rfl dX10_last_45 ?_
            refine lv_bipush (v := 31) X.1 X.2.1 dX10_last_48 (by decide) ?_
            refine lv_iload X.1 X.2.1 dX10_last_50 (lv_at hl 4 rfl) ?_
            refine lv_iadd X.1 X.2.1 dX10_last_52 ?_
            obtain ⟨v5, ev5, hf⟩ := si_ob hf
            refine si_iald X hw rfl ev5 dX10_last_53 ?_
            refine lv_iload_n X.1 X.2.1 dX10_last_54 rfl (lv_at hl 2 rfl) ?_
            refine lv_icmp_gt (tgt := 63) X.1 X.2.1 dX10_last_55 (by decide) (fun c55 => ?_) (fun c55 => ?_)
            · have hf := si_ip c55 hf
              exact B63 _ _ _ _ _ _ _ _ hf hw (lv_sub hl [0, 1, 2, 3, 4] rfl)
            · have hf := si_in c55 hf
              refine lv_iload X.1 X.2.1 dX10_last_58 (lv_at hl 4 rfl) ?_
              refine lv_goto (tgt := 64) X.1 X.2.1 dX10_last_60 (by decide) ?_
              exact B64 _ _ _ _ _ _ _ _ hf hw (lv_sub hl [0, 1, 2, 4] rfl)
  unfold f_X10_last at hf
  refine lv_bipush (v := (-2)) X.1 X.2.1 dX10_last_0 (by decide) ?_
  refine lv_istore_n (lv' := [(3, .int (-2)), (0, .ref (E.2.1 87)), (1, .int x1), (2, .int x2)]) X.1 X.2.1 dX10_last_2 rfl hl (by decide) rfl (fun ls hl => ?_)
  refine lv_iconst (v := 0) X.1 X.2.1 dX10_last_3 (by decide) ?_
  refine lv_istore (lv' := [(4, .int 0), (3, .int (-2)), (0, .ref (E.2.1 87)), (1, .int x1), (2, .int x2)]) X.1 X.2.1 dX10_last_4 hl (by decide) rfl (fun ls hl => ?_)
  exact B6 F _ _ _ _ _ _ _ _ hf hw (lv_sub hl [2, 3, 4, 1, 0] rfl)
abbrev rm_X10_expires : Room := { frames := 0, cells := 0, slots := 0, locals := 0 }
set_option maxHeartbeats 4000000 in
set_option maxRecDepth 100000 in
theorem c_X10_expires (l : Launch) (E : si_Ev) (F : Nat) (x1 : Int32) (S : si_St) (o : Int32 × si_St) (hf : f_X10_expires F x1 S = some o) : si_Mi l E yX10_expires cX10_expires 2 (some .int) rm_X10_expires [.ref (E.2.1 87), .int x1] S o := by
  refine si_ofWi (plainFor_of_name (by decide +kernel)) (Nat.le_of_ble_eq_true rfl) ?_
  intro p e s m args below meth c ls Q A X hw hA hl hret
  have hl : lv_has ls 2 [(0, .ref (E.2.1 87)), (1, .int x1)] := hl
  unfold f_X10_expires at hf
  refine lv_aload_n X.1 X.2.1 dX10_expires_0 rfl (lv_at hl 0 rfl) ?_
  refine si_getR (k' := 88) (d := 1) X hw si_cl10 1 (by decide) gf_RX10_13 rfl rfl rfl (by decide) rfl dX10_expires_1 ?_
  refine lv_bipush (v := 31) X.1 X.2.1 dX10_expires_4 (by decide) ?_
  refine lv_iload_n X.1 X.2.1 dX10_expires_6 rfl (lv_at hl 1 rfl) ?_
  refine lv_iadd X.1 X.2.1 dX10_expires_7 ?_
  obtain ⟨v1, ev1, hf⟩ := si_ob hf
  refine si_iald X hw rfl ev1 dX10_expires_8 ?_
  refine lv_sipush (v := 360) X.1 X.2.1 dX10_expires_9 (by decide) ?_
  refine lv_idiv X.1 X.2.1 dX10_expires_12 (by decide) ?_
  refine lv_aload_n X.1 X.2.1 dX10_expires_13 rfl (lv_at hl 0 rfl) ?_
  refine si_getR (k' := 96) (d := 9) X hw si_cl10 13 (by decide) gf_RX10_39 rfl rfl rfl (by decide) rfl dX10_expires_14 ?_
  refine lv_aload_n X.1 X.2.1 dX10_expires_17 rfl (lv_at hl 0 rfl) ?_
  refine si_getR (k' := 90) (d := 3) X hw si_cl10 5 (by decide) gf_RX10_20 rfl rfl rfl (by decide) rfl dX10_expires_18 ?_
  refine lv_aload_n X.1 X.2.1 dX10_expires_21 rfl (lv_at hl 0 rfl) ?_
  refine si_getR (k' := 88) (d := 1) X hw si_cl10 1 (by decide) gf_RX10_13 rfl rfl rfl (by decide) rfl dX10_expires_22 ?_
  refine lv_iconst (v := 1) X.1 X.2.1 dX10_expires_25 (by decide) ?_
  refine lv_iload_n X.1 X.2.1 dX10_expires_26 rfl (lv_at hl 1 rfl) ?_
  refine lv_iadd X.1 X.2.1 dX10_expires_27 ?_
  obtain ⟨v2, ev2, hf⟩ := si_ob hf
  refine si_iald X hw rfl ev2 dX10_expires_28 ?_
  obtain ⟨v3, ev3, hf⟩ := si_ob hf
  refine si_iald X hw rfl ev3 dX10_expires_29 ?_
  obtain ⟨v4, ev4, hf⟩ := si_ob hf
  refine si_iald X hw rfl ev4 dX10_expires_30 ?_
  refine lv_iadd X.1 X.2.1 dX10_expires_31 ?_
  refine lv_sipush (v := 360) X.1 X.2.1 dX10_expires_32 (by decide) ?_
  refine lv_imul X.1 X.2.1 dX10_expires_35 ?_
  exact hret _ _ _ _ _ _ hf hw dX10_expires_36
abbrev rm_X10_stateOf : Room := { frames := 1, cells := 0, slots := 0, locals := 24 }
set_option maxHeartbeats 4000000 in
set_option maxRecDepth 100000 in
theorem c_X10_stateOf (l : Launch) (E : si_Ev) (F : Nat) (x1 : Int32) (x2 : Int32) (S : si_St) (o : Int32 × si_St) (hf : f_X10_stateOf F x1 x2 S = some o) : si_Mi l E yX10_stateOf cX10_stateOf 4 (some .int) rm_X10_stateOf [.ref (E.2.1 87), .int x1, .int x2] S o := by
  refine si_ofWi (plainFor_of_name (by decide +kernel)) (Nat.le_of_ble_eq_true rfl) ?_
  intro p e s m args below meth c ls Q A X hw hA hl hret
  have hl : lv_has ls 4 [(0, .ref (E.2.1 87)), (1, .int x1), (2, .int x2)] := hl
  have B47 : ∀ (t0 : Int32) (S : si_St) (H : Heap) (locs : List Loc) (ls : Array Slot) , f_X10_stateOf_h47 F t0 S = some o → si_Ws E A s.heap S H locs → lv_has ls 4 [] → W p l e rm_X10_stateOf s m args below meth c H locs 0 0 Q (F0 m 47 ls [.int t0]) := by
    intro t0  S H locs ls  hf hw hl
    unfold f_X10_stateOf_h47 at hf
    exact hret _ _ _ _ _ _ hf hw dX10_stateOf_47
  unfold f_X10_stateOf at hf
  refine lv_aload_n X.1 X.2.1 dX10_stateOf_0 rfl (lv_at hl 0 rfl) ?_
  refine lv_iload_n X.1 X.2.1 dX10_stateOf_1 rfl (lv_at hl 1 rfl) ?_
  refine lv_iload_n X.1 X.2.1 dX10_stateOf_2 rfl (lv_at hl 2 rfl) ?_
  obtain ⟨q1, eq1, hf⟩ := si_ob hf
  refine si_cVi [.int x1, .int x2] cal_X10_last gm_RX10_280 X hw hA hl.1 (c_X10_last l E F x1 x2 S q1 eq1) si_cl10 rfl ⟨⟨rfl, rfl⟩, Nat.le_of_ble_eq_true rfl, Nat.le_of_ble_eq_true rfl⟩ rfl rfl (Nat.le_of_ble_eq_true rfl) ⟨Nat.zero_le _, Nat.zero_le _⟩ dX10_stateOf_3 (fun H locs hw => ?_)
  refine lv_istore_n (lv' := [(3, .int q1.1), (0, .ref (E.2.1 87)), (1, .int x1), (2, .int x2)]) X.1 X.2.1 dX10_stateOf_6 rfl hl (by decide) rfl (fun ls hl => ?_)
  refine lv_iload_n X.1 X.2.1 dX10_stateOf_7 rfl (lv_at hl 0 rfl) ?_
  refine lv_bipush (v := (-2)) X.1 X.2.1 dX10_stateOf_8 (by decide) ?_
  refine lv_icmp_ne (tgt := 17) X.1 X.2.1 dX10_stateOf_10 (by decide) (fun c10 => ?_) (fun c10 => ?_)
  · have hf := si_in c10 hf
    refine lv_aload_n X.1 X.2.1 dX10_stateOf_17 rfl (lv_at hl 1 rfl) ?_
    refine si_getR (k' := 88) (d := 1) X hw si_cl10 1 (by decide) gf_RX10_13 rfl rfl rfl (by decide) rfl dX10_stateOf_18 ?_
    refine lv_bipush (v := 91) X.1 X.2.1 dX10_stateOf_21 (by decide) ?_
    refine lv_iload_n X.1 X.2.1 dX10_stateOf_23 rfl (lv_at hl 0 rfl) ?_
    refine lv_iadd X.1 X.2.1 dX10_stateOf_24 ?_
    obtain ⟨v2, ev2, hf⟩ := si_ob hf
    refine si_iald X hw rfl ev2 dX10_stateOf_25 ?_
    refine lv_if_le (tgt := 33) X.1 X.2.1 dX10_stateOf_26 (by decide) (fun c26 => ?_) (fun c26 => ?_)
    · have hf := si_ip c26 hf
      refine lv_iload_n X.1 X.2.1 dX10_stateOf_33 rfl (lv_at hl 3 rfl) ?_
      refine lv_aload_n X.1 X.2.1 dX10_stateOf_34 rfl (lv_at hl 1 rfl) ?_
      refine lv_iload_n X.1 X.2.1 dX10_stateOf_35 rfl (lv_at hl 0 rfl) ?_
      obtain ⟨q3, eq3, hf⟩ := si_ob hf
      refine si_cVi [.int q1.1] cal_X10_expires gm_RX10_283 X hw hA hl.1 (c_X10_expires l E F q1.1 q1.2 q3 eq3) si_cl10 rfl ⟨⟨rfl, rfl⟩, Nat.le_of_ble_eq_true rfl, Nat.le_of_ble_eq_true rfl⟩ rfl rfl (Nat.le_of_ble_eq_true rfl) ⟨Nat.zero_le _, Nat.zero_le _⟩ dX10_stateOf_36 (fun H locs hw => ?_)
      refine lv_icmp_ge (tgt := 46) X.1 X.2.1 dX10_stateOf_39 (by decide) (fun c39 => ?_) (fun c39 => ?_)
      · have hf := si_ip c39 hf
        refine lv_iconst (v := 2) X.1 X.2.1 dX10_stateOf_46 (by decide) ?_
        exact B47 _ _ _ _ _ hf hw (lv_sub hl [] rfl)
      · have hf := si_in c39 hf
        refine lv_iconst (v := 1) X.1 X.2.1 dX10_stateOf_42 (by decide) ?_
        refine lv_goto (tgt := 47) X.1 X.2.1 dX10_stateOf_43 (by decide) ?_
        exact B47 _ _ _ _ _ hf hw (lv_sub hl [] rfl)
    · have hf := si_in c26 hf
      refine lv_iconst (v := 3) X.1 X.2.1 dX10_stateOf_29 (by decide) ?_
      refine lv_goto (tgt := 47) X.1 X.2.1 dX10_stateOf_30 (by decide) ?_
      exact B47 _ _ _ _ _ hf hw (lv_sub hl [] rfl)
  · have hf := si_ip c10 hf
    refine lv_iconst (v := 0) X.1 X.2.1 dX10_stateOf_13 (by decide) ?_
    refine lv_goto (tgt := 47) X.1 X.2.1 dX10_stateOf_14 (by decide) ?_
    exact B47 _ _ _ _ _ hf hw (lv_sub hl [] rfl)
abbrev rm_X10_isDay : Room := { frames := 1, cells := 0, slots := 0, locals := 25 }
set_option maxHeartbeats 4000000 in
set_option maxRecDepth 100000 in
theorem c_X10_isDay (l : Launch) (E : si_Ev) (F : Nat) (x0 : Int32) (S : si_St) (o : Int32 × si_St) (hf : f_X10_isDay F x0 S = some o) : si_Mi l E yX10_isDay cX10_isDay 1 (some .boolean) rm_X10_isDay [.int x0] S o := by
  refine si_ofWz (plainFor_of_name (by decide +kernel)) (Nat.le_of_ble_eq_true rfl) ?_
  intro p e s m args below meth c ls Q A X hw hA hl hret
  have hl : lv_has ls 1 [(0, .int x0)] := hl
  unfold f_X10_isDay at hf
  refine lv_iload_n X.1 X.2.1 dX10_isDay_0 rfl (lv_at hl 0 rfl) ?_
  refine lv_i2l (v := (Int32.toInt64 x0)) X.1 X.2.1 dX10_isDay_1 rfl ?_
  refine lv_lconst (v := (0 : Int64)) X.1 X.2.1 dX10_isDay_2 (by decide) ?_
  refine lv_ldc2 (v := (9999 : Int64)) X.1 X.2.1 X.2.2.2.1 (si_wd X gk_RX10_247) dX10_isDay_3 ?_
  obtain ⟨q1, eq1, hf⟩ := si_ob hf
  refine si_cSi [.long (Int32.toInt64 x0), .long (0 : Int64), .long (9999 : Int64)] cal_X10_within gm_RX10_124 X hw hA hl.1 (c_X10_within l E F (Int32.toInt64 x0) (0 : Int64) (9999 : Int64) S q1 eq1) ⟨⟨rfl, rfl⟩, Nat.le_of_ble_eq_true rfl, Nat.le_of_ble_eq_true rfl⟩ rfl rfl (Nat.le_of_ble_eq_true rfl) ⟨Nat.zero_le _, Nat.zero_le _⟩ dX10_isDay_6 (fun H locs hw => ?_)
  obtain ⟨v2, ev2, hf⟩ := si_ob hf
  exact hret _ _ _ _ _ _ (si_bzf ev2 hf) (si_nz (si_bz_inv ev2).1) hw dX10_isDay_9
abbrev rm_X10_worse : Room := { frames := 0, cells := 0, slots := 0, locals := 0 }
set_option maxHeartbeats 4000000 in
set_option maxRecDepth 100000 in
theorem c_X10_worse (l : Launch) (E : si_Ev) (F : Nat) (x0 : Int32) (x1 : Int32) (S : si_St) (o : Int32 × si_St) (hf : f_X10_worse F x0 x1 S = some o) : si_Mi l E yX10_worse cX10_worse 2 (some .int) rm_X10_worse [.int x0, .int x1] S o := by
  refine si_ofWi (plainFor_of_name (by decide +kernel)) (Nat.le_of_ble_eq_true rfl) ?_
  intro p e s m args below meth c ls Q A X hw hA hl hret
  have hl : lv_has ls 2 [(0, .int x0), (1, .int x1)] := hl
  have B10 : ∀ (t0 : Int32) (S : si_St) (H : Heap) (locs : List Loc) (ls : Array Slot) , f_X10_worse_h10 F t0 S = some o → si_Ws E A s.heap S H locs → lv_has ls 2 [] → W p l e rm_X10_worse s m args below meth c H locs 0 0 Q (F0 m 10 ls [.int t0]) := by
    intro t0  S H locs ls  hf hw hl
    unfold f_X10_worse_h10 at hf
    exact hret _ _ _ _ _ _ hf hw dX10_worse_10
  unfold f_X10_worse at hf
  refine lv_iload_n X.1 X.2.1 dX10_worse_0 rfl (lv_at hl 0 rfl) ?_
  refine lv_iload_n X.1 X.2.1 dX10_worse_1 rfl (lv_at hl 1 rfl) ?_
  refine lv_icmp_le (tgt := 9) X.1 X.2.1 dX10_worse_2 (by decide) (fun c2 => ?_) (fun c2 => ?_)
  · have hf := si_ip c2 hf
    refine lv_iload_n X.1 X.2.1 dX10_worse_9 rfl (lv_at hl 1 rfl) ?_
    exact B10 _ _ _ _ _ hf hw (lv_sub hl [] rfl)
  · have hf := si_in c2 hf
    refine lv_iload_n X.1 X.2.1 dX10_worse_5 rfl (lv_at hl 0 rfl) ?_
    refine lv_goto (tgt := 10) X.1 X.2.1 dX10_worse_6 (by decide) ?_
    exact B10 _ _ _ _ _ hf hw (lv_sub hl [] rfl)
abbrev rm_X10_sealState : Room := { frames := 2, cells := 0, slots := 0, locals := 47 }
set_option maxHeartbeats 4000000 in
set_option maxRecDepth 100000 in
theorem c_X10_sealState (l : Launch) (E : si_Ev) (F : Nat) (x1 : Int32) (x2 : Int32) (S : si_St) (o : Int32 × si_St) (hf : f_X10_sealState F x1 x2 S = some o) : si_Mi l E yX10_sealState cX10_sealState 3 (some .int) rm_X10_sealState [.ref (E.2.1 87), .int x1, .int x2] S o := by
  refine si_ofWi (plainFor_of_name (by decide +kernel)) (Nat.le_of_ble_eq_true rfl) ?_
  intro p e s m args below meth c ls Q A X hw hA hl hret
  have hl : lv_has ls 3 [(0, .ref (E.2.1 87)), (1, .int x1), (2, .int x2)] := hl
  have B30 : ∀ (t0 : Int32) (S : si_St) (H : Heap) (locs : List Loc) (ls : Array Slot) , f_X10_sealState_h30 F t0 S = some o → si_Ws E A s.heap S H locs → lv_has ls 3 [] → W p l e rm_X10_sealState s m args below meth c H locs 0 0 Q (F0 m 30 ls [.int t0]) := by
    intro t0  S H locs ls  hf hw hl
    unfold f_X10_sealState_h30 at hf
    exact hret _ _ _ _ _ _ hf hw dX10_sealState_30
  have B29 : ∀ (S : si_St) (H : Heap) (locs : List Loc) (ls : Array Slot) , f_X10_sealState_h29 F S = some o → si_Ws E A s.heap S H locs → lv_has ls 3 [] → W p l e rm_X10_sealState s m args below meth c H locs 0 0 Q (F0 m 29 ls []) := by
    intro   S H locs ls  hf hw hl
    unfold f_X10_sealState_h29 at hf
    refine lv_iconst (v := (-1)) X.1 X.2.1 dX10_sealState_29 (by decide) ?_
    exact B30 _ _ _ _ _ hf hw (lv_sub hl [] rfl)
  unfold f_X10_sealState at hf
  refine lv_aload_n X.1 X.2.1 dX10_sealState_0 rfl (lv_at hl 0 rfl) ?_
  refine lv_iconst (v := 0) X.1 X.2.1 dX10_sealState_1 (by decide) ?_
  obtain ⟨S1, eS1, hf⟩ := si_ob hf
  refine si_ptI X hw si_cl10 0 (by decide) gf_RX10_1 rfl rfl rfl rfl rfl eS1 dX10_sealState_2 (fun H locs hw => ?_)
  refine lv_aload_n X.1 X.2.1 dX10_sealState_5 rfl (lv_at hl 0 rfl) ?_
  refine lv_iload_n X.1 X.2.1 dX10_sealState_6 rfl (lv_at hl 1 rfl) ?_
  obtain ⟨q2, eq2, hf⟩ := si_ob hf
  refine si_cVi [.int x1] cal_X10_isScale gm_RX10_234 X hw hA hl.1 (c_X10_isScale l E F x1 S1 q2 eq2) si_cl10 rfl ⟨⟨rfl, rfl⟩, Nat.le_of_ble_eq_true rfl, Nat.le_of_ble_eq_true rfl⟩ rfl rfl (Nat.le_of_ble_eq_true rfl) ⟨Nat.zero_le _, Nat.zero_le _⟩ dX10_sealState_7 (fun H locs hw => ?_)
  refine lv_if_eq (tgt := 29) X.1 X.2.1 dX10_sealState_10 (by decide) (fun c10 => ?_) (fun c10 => ?_)
  · have hf := si_ip c10 hf
    exact B29 _ _ _ _ hf hw (lv_sub hl [] rfl)
  · have hf := si_in c10 hf
    refine lv_iload_n X.1 X.2.1 dX10_sealState_13 rfl (lv_at hl 2 rfl) ?_
    obtain ⟨q3, eq3, hf⟩ := si_ob hf
    refine si_cSi [.int x2] cal_X10_isDay gm_RX10_286 X hw hA hl.1 (c_X10_isDay l E F x2 q2.2 q3 eq3) ⟨⟨rfl, rfl⟩, Nat.le_of_ble_eq_true rfl, Nat.le_of_ble_eq_true rfl⟩ rfl rfl (Nat.le_of_ble_eq_true rfl) ⟨Nat.zero_le _, Nat.zero_le _⟩ dX10_sealState_14 (fun H locs hw => ?_)
    refine lv_if_eq (tgt := 29) X.1 X.2.1 dX10_sealState_17 (by decide) (fun c17 => ?_) (fun c17 => ?_)
    · have hf := si_ip c17 hf
      exact B29 _ _ _ _ hf hw (lv_sub hl [] rfl)
    · have hf := si_in c17 hf
      refine lv_aload_n X.1 X.2.1 dX10_sealState_20 rfl (lv_at hl 0 rfl) ?_
      refine lv_iload_n X.1 X.2.1 dX10_sealState_21 rfl (lv_at hl 1 rfl) ?_
      refine lv_iload_n X.1 X.2.1 dX10_sealState_22 rfl (lv_at hl 2 rfl) ?_
      obtain ⟨q4, eq4, hf⟩ := si_ob hf
      refine si_cVi [.int x1, .int x2] cal_X10_stateOf gm_RX10_289 X hw hA hl.1 (c_X10_stateOf l E F x1 x2 q3.2 q4 eq4) si_cl10 rfl ⟨⟨rfl, rfl⟩, Nat.le_of_ble_eq_true rfl, Nat.le_of_ble_eq_true rfl⟩ rfl rfl (Nat.le_of_ble_eq_true rfl) ⟨Nat.zero_le _, Nat.zero_le _⟩ dX10_sealState_23 (fun H locs hw => ?_)
      refine lv_goto (tgt := 30) X.1 X.2.1 dX10_sealState_26 (by decide) ?_
      exact B30 _ _ _ _ _ hf hw (lv_sub hl [] rfl)
abbrev rm_X10_expiryDay : Room := { frames := 2, cells := 0, slots := 0, locals := 47 }
set_option maxHeartbeats 4000000 in
set_option maxRecDepth 100000 in
theorem c_X10_expiryDay (l : Launch) (E : si_Ev) (F : Nat) (x1 : Int32) (x2 : Int32) (S : si_St) (o : Int32 × si_St) (hf : f_X10_expiryDay F x1 x2 S = some o) : si_Mi l E yX10_expiryDay cX10_expiryDay 3 (some .int) rm_X10_expiryDay [.ref (E.2.1 87), .int x1, .int x2] S o := by
  refine si_ofWi (plainFor_of_name (by decide +kernel)) (Nat.le_of_ble_eq_true rfl) ?_
  intro p e s m args below meth c ls Q A X hw hA hl hret
  have hl : lv_has ls 3 [(0, .ref (E.2.1 87)), (1, .int x1), (2, .int x2)] := hl
  have B20 : ∀ (S : si_St) (H : Heap) (locs : List Loc) (ls : Array Slot) , f_X10_expiryDay_h20 F S = some o → si_Ws E A s.heap S H locs → lv_has ls 3 [] → W p l e rm_X10_expiryDay s m args below meth c H locs 0 0 Q (F0 m 20 ls []) := by
    intro   S H locs ls  hf hw hl
    unfold f_X10_expiryDay_h20 at hf
    refine lv_iconst (v := (-1)) X.1 X.2.1 dX10_expiryDay_20 (by decide) ?_
    exact hret _ _ _ _ _ _ hf hw dX10_expiryDay_21
  have B47 : ∀ (t0 : Int32) (S : si_St) (H : Heap) (locs : List Loc) (ls : Array Slot) , f_X10_expiryDay_h47 F t0 S = some o → si_Ws E A s.heap S H locs → lv_has ls 3 [] → W p l e rm_X10_expiryDay s m args below meth c H locs 0 0 Q (F0 m 47 ls [.int t0]) := by
    intro t0  S H locs ls  hf hw hl
    unfold f_X10_expiryDay_h47 at hf
    exact hret _ _ _ _ _ _ hf hw dX10_expiryDay_47
  unfold f_X10_expiryDay at hf
  refine lv_aload_n X.1 X.2.1 dX10_expiryDay_0 rfl (lv_at hl 0 rfl) ?_
  refine lv_iconst (v := 0) X.1 X.2.1 dX10_expiryDay_1 (by decide) ?_
  obtain ⟨S1, eS1, hf⟩ := si_ob hf
  refine si_ptI X hw si_cl10 0 (by decide) gf_RX10_1 rfl rfl rfl rfl rfl eS1 dX10_expiryDay_2 (fun H locs hw => ?_)
  refine lv_aload_n X.1 X.2.1 dX10_expiryDay_5 rfl (lv_at hl 0 rfl) ?_
  refine lv_iload_n X.1 X.2.1 dX10_expiryDay_6 rfl (lv_at hl 1 rfl) ?_
  obtain ⟨q2, eq2, hf⟩ := si_ob hf
  refine si_cVi [.int x1] cal_X10_isScale gm_RX10_234 X hw hA hl.1 (c_X10_isScale l E F x1 S1 q2 eq2) si_cl10 rfl ⟨⟨rfl, rfl⟩, Nat.le_of_ble_eq_true rfl, Nat.le_of_ble_eq_true rfl⟩ rfl rfl (Nat.le_of_ble_eq_true rfl) ⟨Nat.zero_le _, Nat.zero_le _⟩ dX10_expiryDay_7 (fun H locs hw => ?_)
  refine lv_if_eq (tgt := 20) X.1 X.2.1 dX10_expiryDay_10 (by decide) (fun c10 => ?_) (fun c10 => ?_)
  · have hf := si_ip c10 hf
    exact B20 _ _ _ _ hf hw (lv_sub hl [] rfl)
  · have hf := si_in c10 hf
    refine lv_iload_n X.1 X.2.1 dX10_expiryDay_13 rfl (lv_at hl 2 rfl) ?_
    obtain ⟨q3, eq3, hf⟩ := si_ob hf
    refine si_cSi [.int x2] cal_X10_isDay gm_RX10_286 X hw hA hl.1 (c_X10_isDay l E F x2 q2.2 q3 eq3) ⟨⟨rfl, rfl⟩, Nat.le_of_ble_eq_true rfl, Nat.le_of_ble_eq_true rfl⟩ rfl rfl (Nat.le_of_ble_eq_true rfl) ⟨Nat.zero_le _, Nat.zero_le _⟩ dX10_expiryDay_14 (fun H locs hw => ?_)
    refine lv_if_ne (tgt := 22) X.1 X.2.1 dX10_expiryDay_17 (by decide) (fun c17 => ?_) (fun c17 => ?_)
    · have hf := si_in c17 hf
      refine lv_aload_n X.1 X.2.1 dX10_expiryDay_22 rfl (lv_at hl 0 rfl) ?_
      refine lv_iload_n X.1 X.2.1 dX10_expiryDay_23 rfl (lv_at hl 1 rfl) ?_
      refine lv_iload_n X.1 X.2.1 dX10_expiryDay_24 rfl (lv_at hl 2 rfl) ?_
      obtain ⟨q4, eq4, hf⟩ := si_ob hf
      refine si_cVi [.int x1, .int x2] cal_X10_stateOf gm_RX10_289 X hw hA hl.1 (c_X10_stateOf l E F x1 x2 q3.2 q4 eq4) si_cl10 rfl ⟨⟨rfl, rfl⟩, Nat.le_of_ble_eq_true rfl, Nat.le_of_ble_eq_true rfl⟩ rfl rfl (Nat.le_of_ble_eq_true rfl) ⟨Nat.zero_le _, Nat.zero_le _⟩ dX10_expiryDay_25 (fun H locs hw => ?_)
      refine lv_iconst (v := 1) X.1 X.2.1 dX10_expiryDay_28 (by decide) ?_
      refine lv_icmp_ne (tgt := 45) X.1 X.2.1 dX10_expiryDay_29 (by decide) (fun c29 => ?_) (fun c29 => ?_)
      · have hf := si_in c29 hf
        refine lv_bipush (v := (-2)) X.1 X.2.1 dX10_expiryDay_45 (by decide) ?_
        exact B47 _ _ _ _ _ hf hw (lv_sub hl [] rfl)
      · have hf := si_ip c29 hf
        refine lv_aload_n X.1 X.2.1 dX10_expiryDay_32 rfl (lv_at hl 0 rfl) ?_
        refine lv_aload_n X.1 X.2.1 dX10_expiryDay_33 rfl (lv_at hl 0 rfl) ?_
        refine lv_iload_n X.1 X.2.1 dX10_expiryDay_34 rfl (lv_at hl 1 rfl) ?_
        refine lv_iload_n X.1 X.2.1 dX10_expiryDay_35 rfl (lv_at hl 2 rfl) ?_
        obtain ⟨q5, eq5, hf⟩ := si_ob hf
        refine si_cVi [.int x1, .int x2] cal_X10_last gm_RX10_280 X hw hA hl.1 (c_X10_last l E F x1 x2 q4.2 q5 eq5) si_cl10 rfl ⟨⟨rfl, rfl⟩, Nat.le_of_ble_eq_true rfl, Nat.le_of_ble_eq_true rfl⟩ rfl rfl (Nat.le_of_ble_eq_true rfl) ⟨Nat.zero_le _, Nat.zero_le _⟩ dX10_expiryDay_36 (fun H locs hw => ?_)
        obtain ⟨q6, eq6, hf⟩ := si_ob hf
        refine si_cVi [.int q5.1] cal_X10_expires gm_RX10_283 X hw hA hl.1 (c_X10_expires l E F q5.1 q5.2 q6 eq6) si_cl10 rfl ⟨⟨rfl, rfl⟩, Nat.le_of_ble_eq_true rfl, Nat.le_of_ble_eq_true rfl⟩ rfl rfl (Nat.le_of_ble_eq_true rfl) ⟨Nat.zero_le _, Nat.zero_le _⟩ dX10_expiryDay_39 (fun H locs hw => ?_)
        refine lv_goto (tgt := 47) X.1 X.2.1 dX10_expiryDay_42 (by decide) ?_
        exact B47 _ _ _ _ _ hf hw (lv_sub hl [] rfl)
    · have hf := si_ip c17 hf
      exact B20 _ _ _ _ hf hw (lv_sub hl [] rfl)
abbrev rm_X10_scalesWith : Room := { frames := 2, cells := 0, slots := 0, locals := 47 }
set_option maxHeartbeats 4000000 in
set_option maxRecDepth 100000 in
theorem c_X10_scalesWith (l : Launch) (E : si_Ev) (F : Nat) (x1 : Int32) (x2 : Int32) (S : si_St) (o : Int32 × si_St) (hf : f_X10_scalesWith F x1 x2 S = some o) : si_Mi l E yX10_scalesWith cX10_scalesWith 5 (some .int) rm_X10_scalesWith [.ref (E.2.1 87), .int x1, .int x2] S o := by
  refine si_ofWi (plainFor_of_name (by decide +kernel)) (Nat.le_of_ble_eq_true rfl) ?_
  intro p e s m args below meth c ls Q A X hw hA hl hret
  have hl : lv_has ls 5 [(0, .ref (E.2.1 87)), (1, .int x1), (2, .int x2)] := hl
  have B24 : ∀ (S : si_St) (H : Heap) (locs : List Loc) (ls : Array Slot) , f_X10_scalesWith_h24 F S = some o → si_Ws E A s.heap S H locs → lv_has ls 5 [] → W p l e rm_X10_scalesWith s m args below meth c H locs 0 0 Q (F0 m 24 ls []) := by
    intro   S H locs ls  hf hw hl
    unfold f_X10_scalesWith_h24 at hf
    refine lv_iconst (v := (-1)) X.1 X.2.1 dX10_scalesWith_24 (by decide) ?_
    exact hret _ _ _ _ _ _ hf hw dX10_scalesWith_25
  have B31 : ∀ (n31 : Nat) (x1 : Int32) (x2 : Int32) (x3 : Int32) (x4 : Int32) (S : si_St) (H : Heap) (locs : List Loc) (ls : Array Slot) , f_X10_scalesWith_l31 F n31 x1 x2 x3 x4 S = some o → si_Ws E A s.heap S H locs → lv_has ls 5 [(0, .ref (E.2.1 87)), (1, .int x1), (2, .int x2), (3, .int x3), (4, .int x4)] → W p l e rm_X10_scalesWith s m args below meth c H locs 0 0 Q (F0 m 31 ls []) := by
    intro n31
    induction n31 with
    | zero => intro x1 x2 x3 x4  S H locs ls  hf; cases hf
    | succ n31 ih31 =>
      have B60 : ∀ (x1 : Int32) (x2 : Int32) (x4 : Int32) (t0 : Int32) (t1 : Int32) (S : si_St) (H : Heap) (locs : List Loc) (ls : Array Slot) , f_X10_scalesWith_h60 F (f_X10_scalesWith_l31 F n31) x1 x2 x4 t0 t1 S = some o → si_Ws E A s.heap S H locs → lv_has ls 5 [(0, .ref (E.2.1 87)), (1, .int x1), (2, .int x2), (4, .int x4)] → W p l e rm_X10_scalesWith s m args below meth c H locs 0 0 Q (F0 m 60 ls [.int t0, .int t1]) := by
        intro x1 x2 x4 t0 t1  S H locs ls  hf hw hl
        unfold f_X10_scalesWith_h60 at hf
        refine lv_ior X.1 X.2.1 dX10_scalesWith_60 ?_
        obtain ⟨v1, ev1, hf⟩ := si_ob hf
        refine si_nmI ev1 ?_
        refine lv_istore_n (lv' := [(3, .int v1), (0, .ref (E.2.1 87)), (1, .int x1), (2, .int x2), (4, .int x4)]) X.1 X.2.1 dX10_scalesWith_61 rfl hl (by decide) rfl (fun ls hl => ?_)
        obtain ⟨v2, ev2, hf⟩ := si_ob hf
        refine lv_iinc (v := v2) (lv' := [(4, .int v2), (3, .int v1), (0, .ref (E.2.1 87)), (1, .int x1), (2, .int x2)]) X.1 X.2.1 dX10_scalesWith_62 hl (k := 4) rfl (Option.some.inj ev2) (by decide) rfl (fun ls hl => ?_)
        refine lv_goto (tgt := 31) X.1 X.2.1 dX10_scalesWith_65 (by decide) ?_
        exact ih31 _ _ _ _ _ _ _ _ hf hw (lv_sub hl [2, 3, 4, 1, 0] rfl)
      intro x1 x2 x3 x4  S H locs ls  hf hw hl
      have hf : f_X10_scalesWith_h31 F (f_X10_scalesWith_l31 F n31) x1 x2 x3 x4 S = some o := hf
      unfold f_X10_scalesWith_h31 at hf
      refine lv_iload X.1 X.2.1 dX10_scalesWith_31 (lv_at hl 4 rfl) ?_
      refine lv_aload_n X.1 X.2.1 dX10_scalesWith_33 rfl (lv_at hl 0 rfl) ?_
      refine si_getI X hw si_cl10 3 (by decide) gf_RX10_218 rfl rfl rfl dX10_scalesWith_34 ?_
      refine lv_icmp_ge (tgt := 68) X.1 X.2.1 dX10_scalesWith_37 (by decide) (fun c37 => ?_) (fun c37 => ?_)
      · have hf := si_ip c37 hf
        refine lv_iload_n X.1 X.2.1 dX10_scalesWith_68 rfl (lv_at hl 3 rfl) ?_
        exact hret _ _ _ _ _ _ hf hw dX10_scalesWith_69
      · have hf := si_in c37 hf
        refine lv_iload_n X.1 X.2.1 dX10_scalesWith_40 rfl (lv_at hl 3 rfl) ?_
        refine lv_aload_n X.1 X.2.1 dX10_scalesWith_41 rfl (lv_at hl 0 rfl) ?_
        refine lv_iload X.1 X.2.1 dX10_scalesWith_42 (lv_at hl 4 rfl) ?_
        refine lv_iload_n X.1 X.2.1 dX10_scalesWith_44 rfl (lv_at hl 2 rfl) ?_
        obtain ⟨q3, eq3, hf⟩ := si_ob hf
        refine si_cVi [.int x4, .int x2] cal_X10_stateOf gm_RX10_289 X hw hA hl.1 (c_X10_stateOf l E F x4 x2 S q3 eq3) si_cl10 rfl ⟨⟨rfl, rfl⟩, Nat.le_of_ble_eq_true rfl, Nat.le_of_ble_eq_true rfl⟩ rfl rfl (Nat.le_of_ble_eq_true rfl) ⟨Nat.zero_le _, Nat.zero_le _⟩ dX10_scalesWith_45 (fun H locs hw => ?_)
        refine lv_iload_n X.1 X.2.1 dX10_scalesWith_48 rfl (lv_at hl 1 rfl) ?_
        refine lv_icmp_ne (tgt := 59) X.1 X.2.1 dX10_scalesWith_49 (by decide) (fun c49 => ?_) (fun c49 => ?_)
        · have hf := si_in c49 hf
          refine lv_iconst (v := 0) X.1 X.2.1 dX10_scalesWith_59 (by decide) ?_
          exact B60 _ _ _ _ _ _ _ _ _ hf hw (lv_sub hl [0, 1, 2, 4] rfl)
        · have hf := si_ip c49 hf
          refine lv_iconst (v := 1) X.1 X.2.1 dX10_scalesWith_52 (by decide) ?_
          refine lv_iload X.1 X.2.1 dX10_scalesWith_53 (lv_at hl 4 rfl) ?_
          refine lv_ishl X.1 X.2.1 dX10_scalesWith_55 ?_
          refine lv_goto (tgt := 60) X.1 X.2.1 dX10_scalesWith_56 (by decide) ?_
          exact B60 _ _ _ _ _ _ _ _ _ hf hw (lv_sub hl [0, 1, 2, 4] rfl)
  unfold f_X10_scalesWith at hf
  refine lv_aload_n X.1 X.2.1 dX10_scalesWith_0 rfl (lv_at hl 0 rfl) ?_
  refine lv_iconst (v := 0) X.1 X.2.1 dX10_scalesWith_1 (by decide) ?_
  obtain ⟨S4, eS4, hf⟩ := si_ob hf
  refine si_ptI X hw si_cl10 0 (by decide) gf_RX10_1 rfl rfl rfl rfl rfl eS4 dX10_scalesWith_2 (fun H locs hw => ?_)
  refine lv_iload_n X.1 X.2.1 dX10_scalesWith_5 rfl (lv_at hl 1 rfl) ?_
  refine lv_i2l (v := (Int32.toInt64 x1)) X.1 X.2.1 dX10_scalesWith_6 rfl ?_
  refine lv_lconst (v := (0 : Int64)) X.1 X.2.1 dX10_scalesWith_7 (by decide) ?_
  refine lv_ldc2 (v := (3 : Int64)) X.1 X.2.1 X.2.2.2.1 (si_wd X gk_RX10_292) dX10_scalesWith_8 ?_
  obtain ⟨q5, eq5, hf⟩ := si_ob hf
  refine si_cSi [.long (Int32.toInt64 x1), .long (0 : Int64), .long (3 : Int64)] cal_X10_within gm_RX10_124 X hw hA hl.1 (c_X10_within l E F (Int32.toInt64 x1) (0 : Int64) (3 : Int64) S4 q5 eq5) ⟨⟨rfl, rfl⟩, Nat.le_of_ble_eq_true rfl, Nat.le_of_ble_eq_true rfl⟩ rfl rfl (Nat.le_of_ble_eq_true rfl) ⟨Nat.zero_le _, Nat.zero_le _⟩ dX10_scalesWith_11 (fun H locs hw => ?_)
  refine lv_if_eq (tgt := 24) X.1 X.2.1 dX10_scalesWith_14 (by decide) (fun c14 => ?_) (fun c14 => ?_)
  · have hf := si_ip c14 hf
    exact B24 _ _ _ _ hf hw (lv_sub hl [] rfl)
  · have hf := si_in c14 hf
    refine lv_iload_n X.1 X.2.1 dX10_scalesWith_17 rfl (lv_at hl 2 rfl) ?_
    obtain ⟨q6, eq6, hf⟩ := si_ob hf
    refine si_cSi [.int x2] cal_X10_isDay gm_RX10_286 X hw hA hl.1 (c_X10_isDay l E F x2 q5.2 q6 eq6) ⟨⟨rfl, rfl⟩, Nat.le_of_ble_eq_true rfl, Nat.le_of_ble_eq_true rfl⟩ rfl rfl (Nat.le_of_ble_eq_true rfl) ⟨Nat.zero_le _, Nat.zero_le _⟩ dX10_scalesWith_18 (fun H locs hw => ?_)
    refine lv_if_ne (tgt := 26) X.1 X.2.1 dX10_scalesWith_21 (by decide) (fun c21 => ?_) (fun c21 => ?_)
    · have hf := si_in c21 hf
      refine lv_iconst (v := 0) X.1 X.2.1 dX10_scalesWith_26 (by decide) ?_
      refine lv_istore_n (lv' := [(3, .int 0), (0, .ref (E.2.1 87)), (1, .int x1), (2, .int x2)]) X.1 X.2.1 dX10_scalesWith_27 rfl hl (by decide) rfl (fun ls hl => ?_)
      refine lv_iconst (v := 0) X.1 X.2.1 dX10_scalesWith_28 (by decide) ?_
      refine lv_istore (lv' := [(4, .int 0), (3, .int 0), (0, .ref (E.2.1 87)), (1, .int x1), (2, .int x2)]) X.1 X.2.1 dX10_scalesWith_29 hl (by decide) rfl (fun ls hl => ?_)
      exact B31 F _ _ _ _ _ _ _ _ hf hw (lv_sub hl [2, 3, 4, 1, 0] rfl)
    · have hf := si_ip c21 hf
      exact B24 _ _ _ _ hf hw (lv_sub hl [] rfl)
abbrev rm_X10_riskOf : Room := { frames := 2, cells := 0, slots := 0, locals := 47 }
set_option maxHeartbeats 4000000 in
set_option maxRecDepth 100000 in
theorem c_X10_riskOf (l : Launch) (E : si_Ev) (F : Nat) (x1 : Int32) (x2 : Int32) (S : si_St) (o : Int32 × si_St) (hf : f_X10_riskOf F x1 x2 S = some o) : si_Mi l E yX10_riskOf cX10_riskOf 6 (some .int) rm_X10_riskOf [.ref (E.2.1 87), .int x1, .int x2] S o := by
  refine si_ofWi (plainFor_of_name (by decide +kernel)) (Nat.le_of_ble_eq_true rfl) ?_
  intro p e s m args below meth c ls Q A X hw hA hl hret
  have hl : lv_has ls 6 [(0, .ref (E.2.1 87)), (1, .int x1), (2, .int x2)] := hl
  have B124 : ∀ (n124 : Nat) (x1 : Int32) (x2 : Int32) (x4 : Int32) (x5 : Int32) (S : si_St) (H : Heap) (locs : List Loc) (ls : Array Slot) , f_X10_riskOf_l124 F n124 x1 x2 x4 x5 S = some o → si_Ws E A s.heap S H locs → lv_has ls 6 [(0, .ref (E.2.1 87)), (1, .int x1), (2, .int x2), (4, .int x4), (5, .int x5)] → W p l e rm_X10_riskOf s m args below meth c H locs 0 0 Q (F0 m 124 ls []) := by
    intro n124
    induction n124 with
    | zero => intro x1 x2 x4 x5  S H locs ls  hf; cases hf
    | succ n124 ih124 =>
      have B173 : ∀ (x1 : Int32) (x2 : Int32) (x5 : Int32) (t0 : Int32) (t1 : Int32) (S : si_St) (H : Heap) (locs : List Loc) (ls : Array Slot) , f_X10_riskOf_h173 F (f_X10_riskOf_l124 F n124) x1 x2 x5 t0 t1 S = some o → si_Ws E A s.heap S H locs → lv_has ls 6 [(0, .ref (E.2.1 87)), (1, .int x1), (2, .int x2), (5, .int x5)] → W p l e rm_X10_riskOf s m args below meth c H locs 0 0 Q (F0 m 173 ls [.int t0, .int t1]) := by
        intro x1 x2 x5 t0 t1  S H locs ls  hf hw hl
        unfold f_X10_riskOf_h173 at hf
        refine lv_iadd X.1 X.2.1 dX10_riskOf_173 ?_
        obtain ⟨v1, ev1, hf⟩ := si_ob hf
        refine si_nmI ev1 ?_
        refine lv_istore (lv' := [(4, .int v1), (0, .ref (E.2.1 87)), (1, .int x1), (2, .int x2), (5, .int x5)]) X.1 X.2.1 dX10_riskOf_174 hl (by decide) rfl (fun ls hl => ?_)
        obtain ⟨v2, ev2, hf⟩ := si_ob hf
        refine lv_iinc (v := v2) (lv' := [(5, .int v2), (4, .int v1), (0, .ref (E.2.1 87)), (1, .int x1), (2, .int x2)]) X.1 X.2.1 dX10_riskOf_176 hl (k := 4) rfl (Option.some.inj ev2) (by decide) rfl (fun ls hl => ?_)
        refine lv_goto (tgt := 124) X.1 X.2.1 dX10_riskOf_179 (by decide) ?_
        exact ih124 _ _ _ _ _ _ _ _ hf hw (lv_sub hl [2, 3, 4, 1, 0] rfl)
      have B172 : ∀ (x1 : Int32) (x2 : Int32) (x5 : Int32) (t0 : Int32) (S : si_St) (H : Heap) (locs : List Loc) (ls : Array Slot) , f_X10_riskOf_h172 F (f_X10_riskOf_l124 F n124) x1 x2 x5 t0 S = some o → si_Ws E A s.heap S H locs → lv_has ls 6 [(0, .ref (E.2.1 87)), (1, .int x1), (2, .int x2), (5, .int x5)] → W p l e rm_X10_riskOf s m args below meth c H locs 0 0 Q (F0 m 172 ls [.int t0]) := by
        intro x1 x2 x5 t0  S H locs ls  hf hw hl
        unfold f_X10_riskOf_h172 at hf
        refine lv_iconst (v := 0) X.1 X.2.1 dX10_riskOf_172 (by decide) ?_
        exact B173 _ _ _ _ _ _ _ _ _ hf hw (lv_sub hl [0, 1, 2, 3] rfl)
      intro x1 x2 x4 x5  S H locs ls  hf hw hl
      have hf : f_X10_riskOf_h124 F (f_X10_riskOf_l124 F n124) x1 x2 x4 x5 S = some o := hf
      unfold f_X10_riskOf_h124 at hf
      refine lv_iload X.1 X.2.1 dX10_riskOf_124 (lv_at hl 4 rfl) ?_
      refine lv_aload_n X.1 X.2.1 dX10_riskOf_126 rfl (lv_at hl 0 rfl) ?_
      refine si_getI X hw si_cl10 3 (by decide) gf_RX10_218 rfl rfl rfl dX10_riskOf_127 ?_
      refine lv_icmp_ge (tgt := 182) X.1 X.2.1 dX10_riskOf_130 (by decide) (fun c130 => ?_) (fun c130 => ?_)
      · have hf := si_ip c130 hf
        refine lv_iload X.1 X.2.1 dX10_riskOf_182 (lv_at hl 3 rfl) ?_
        exact hret _ _ _ _ _ _ hf hw dX10_riskOf_184
      · have hf := si_in c130 hf
        refine lv_iload X.1 X.2.1 dX10_riskOf_133 (lv_at hl 3 rfl) ?_
        refine lv_iload X.1 X.2.1 dX10_riskOf_135 (lv_at hl 4 rfl) ?_
        refine lv_iload_n X.1 X.2.1 dX10_riskOf_137 rfl (lv_at hl 1 rfl) ?_
        refine lv_icmp_eq (tgt := 172) X.1 X.2.1 dX10_riskOf_138 (by decide) (fun c138 => ?_) (fun c138 => ?_)
        · have hf := si_ip c138 hf
          exact B172 _ _ _ _ _ _ _ _ hf hw (lv_sub hl [0, 1, 2, 4] rfl)
        · have hf := si_in c138 hf
          refine lv_aload_n X.1 X.2.1 dX10_riskOf_141 rfl (lv_at hl 0 rfl) ?_
          refine si_getR (k' := 89) (d := 2) X hw si_cl10 4 (by decide) gf_RX10_17 rfl rfl rfl (by decide) rfl dX10_riskOf_142 ?_
          refine lv_iload X.1 X.2.1 dX10_riskOf_145 (lv_at hl 4 rfl) ?_
          obtain ⟨v3, ev3, hf⟩ := si_ob hf
          refine si_iald X hw rfl ev3 dX10_riskOf_147 ?_
          refine lv_aload_n X.1 X.2.1 dX10_riskOf_148 rfl (lv_at hl 0 rfl) ?_
          refine si_getR (k' := 89) (d := 2) X hw si_cl10 4 (by decide) gf_RX10_17 rfl rfl rfl (by decide) rfl dX10_riskOf_149 ?_
          refine lv_iload_n X.1 X.2.1 dX10_riskOf_152 rfl (lv_at hl 1 rfl) ?_
          obtain ⟨v4, ev4, hf⟩ := si_ob hf
          refine si_iald X hw rfl ev4 dX10_riskOf_153 ?_
          refine lv_icmp_ne (tgt := 172) X.1 X.2.1 dX10_riskOf_154 (by decide) (fun c154 => ?_) (fun c154 => ?_)
          · have hf := si_in c154 hf
            exact B172 _ _ _ _ _ _ _ _ hf hw (lv_sub hl [0, 1, 2, 4] rfl)
          · have hf := si_ip c154 hf
            refine lv_aload_n X.1 X.2.1 dX10_riskOf_157 rfl (lv_at hl 0 rfl) ?_
            refine lv_iload X.1 X.2.1 dX10_riskOf_158 (lv_at hl 4 rfl) ?_
            refine lv_iload_n X.1 X.2.1 dX10_riskOf_160 rfl (lv_at hl 2 rfl) ?_
            obtain ⟨q5, eq5, hf⟩ := si_ob hf
            refine si_cVi [.int x5, .int x2] cal_X10_stateOf gm_RX10_289 X hw hA hl.1 (c_X10_stateOf l E F x5 x2 S q5 eq5) si_cl10 rfl ⟨⟨rfl, rfl⟩, Nat.le_of_ble_eq_true rfl, Nat.le_of_ble_eq_true rfl⟩ rfl rfl (Nat.le_of_ble_eq_true rfl) ⟨Nat.zero_le _, Nat.zero_le _⟩ dX10_riskOf_161 (fun H locs hw => ?_)
            refine lv_iconst (v := 3) X.1 X.2.1 dX10_riskOf_164 (by decide) ?_
            refine lv_icmp_ne (tgt := 172) X.1 X.2.1 dX10_riskOf_165 (by decide) (fun c165 => ?_) (fun c165 => ?_)
            · have hf := si_in c165 hf
              exact B172 _ _ _ _ _ _ _ _ hf hw (lv_sub hl [0, 1, 2, 4] rfl)
            · have hf := si_ip c165 hf
              refine lv_iconst (v := 1) X.1 X.2.1 dX10_riskOf_168 (by decide) ?_
              refine lv_goto (tgt := 173) X.1 X.2.1 dX10_riskOf_169 (by decide) ?_
              exact B173 _ _ _ _ _ _ _ _ _ hf hw (lv_sub hl [0, 1, 2, 4] rfl)
  have B40 : ∀ (n40 : Nat) (x1 : Int32) (x2 : Int32) (x4 : Int32) (x5 : Int32) (S : si_St) (H : Heap) (locs : List Loc) (ls : Array Slot) , f_X10_riskOf_l40 F n40 x1 x2 x4 x5 S = some o → si_Ws E A s.heap S H locs → lv_has ls 6 [(0, .ref (E.2.1 87)), (1, .int x1), (2, .int x2), (4, .int x4), (5, .int x5)] → W p l e rm_X10_riskOf s m args below meth c H locs 0 0 Q (F0 m 40 ls []) := by
    intro n40
    induction n40 with
    | zero => intro x1 x2 x4 x5  S H locs ls  hf; cases hf
    | succ n40 ih40 =>
      have B112 : ∀ (x1 : Int32) (x2 : Int32) (x5 : Int32) (t0 : Int32) (t1 : Int32) (S : si_St) (H : Heap) (locs : List Loc) (ls : Array Slot) , f_X10_riskOf_h112 F (f_X10_riskOf_l40 F n40) x1 x2 x5 t0 t1 S = some o → si_Ws E A s.heap S H locs → lv_has ls 6 [(0, .ref (E.2.1 87)), (1, .int x1), (2, .int x2), (5, .int x5)] → W p l e rm_X10_riskOf s m args below meth c H locs 0 0 Q (F0 m 112 ls [.int t0, .int t1]) := by
        intro x1 x2 x5 t0 t1  S H locs ls  hf hw hl
        unfold f_X10_riskOf_h112 at hf
        refine lv_iadd X.1 X.2.1 dX10_riskOf_112 ?_
        obtain ⟨v6, ev6, hf⟩ := si_ob hf
        refine si_nmI ev6 ?_
        refine lv_istore (lv' := [(4, .int v6), (0, .ref (E.2.1 87)), (1, .int x1), (2, .int x2), (5, .int x5)]) X.1 X.2.1 dX10_riskOf_113 hl (by decide) rfl (fun ls hl => ?_)
        obtain ⟨v7, ev7, hf⟩ := si_ob hf
        refine lv_iinc (v := v7) (lv' := [(5, .int v7), (4, .int v6), (0, .ref (E.2.1 87)), (1, .int x1), (2, .int x2)]) X.1 X.2.1 dX10_riskOf_115 hl (k := 4) rfl (Option.some.inj ev7) (by decide) rfl (fun ls hl => ?_)
        refine lv_goto (tgt := 40) X.1 X.2.1 dX10_riskOf_118 (by decide) ?_
        exact ih40 _ _ _ _ _ _ _ _ hf hw (lv_sub hl [2, 3, 4, 1, 0] rfl)
      have B111 : ∀ (x1 : Int32) (x2 : Int32) (x5 : Int32) (t0 : Int32) (S : si_St) (H : Heap) (locs : List Loc) (ls : Array Slot) , f_X10_riskOf_h111 F (f_X10_riskOf_l40 F n40) x1 x2 x5 t0 S = some o → si_Ws E A s.heap S H locs → lv_has ls 6 [(0, .ref (E.2.1 87)), (1, .int x1), (2, .int x2), (5, .int x5)] → W p l e rm_X10_riskOf s m args below meth c H locs 0 0 Q (F0 m 111 ls [.int t0]) := by
        intro x1 x2 x5 t0  S H locs ls  hf hw hl
        unfold f_X10_riskOf_h111 at hf
        refine lv_iconst (v := 0) X.1 X.2.1 dX10_riskOf_111 (by decide) ?_
        exact B112 _ _ _ _ _ _ _ _ _ hf hw (lv_sub hl [0, 1, 2, 3] rfl)
      intro x1 x2 x4 x5  S H locs ls  hf hw hl
      have hf : f_X10_riskOf_h40 F (f_X10_riskOf_l40 F n40) x1 x2 x4 x5 S = some o := hf
      unfold f_X10_riskOf_h40 at hf
      refine lv_iload X.1 X.2.1 dX10_riskOf_40 (lv_at hl 4 rfl) ?_
      refine lv_aload_n X.1 X.2.1 dX10_riskOf_42 rfl (lv_at hl 0 rfl) ?_
      refine si_getR (k' := 88) (d := 1) X hw si_cl10 1 (by decide) gf_RX10_13 rfl rfl rfl (by decide) rfl dX10_riskOf_43 ?_
      refine lv_iconst (v := 0) X.1 X.2.1 dX10_riskOf_46 (by decide) ?_
      obtain ⟨v8, ev8, hf⟩ := si_ob hf
      refine si_iald X hw rfl ev8 dX10_riskOf_47 ?_
      refine lv_icmp_ge (tgt := 121) X.1 X.2.1 dX10_riskOf_48 (by decide) (fun c48 => ?_) (fun c48 => ?_)
      · have hf := si_ip c48 hf
        refine lv_iconst (v := 0) X.1 X.2.1 dX10_riskOf_121 (by decide) ?_
        refine lv_istore (lv' := [(5, .int 0), (0, .ref (E.2.1 87)), (1, .int x1), (2, .int x2), (4, .int x4)]) X.1 X.2.1 dX10_riskOf_122 hl (by decide) rfl (fun ls hl => ?_)
        exact B124 F _ _ _ _ _ _ _ _ hf hw (lv_sub hl [1, 2, 3, 4, 0] rfl)
      · have hf := si_in c48 hf
        refine lv_iload X.1 X.2.1 dX10_riskOf_51 (lv_at hl 3 rfl) ?_
        refine lv_aload_n X.1 X.2.1 dX10_riskOf_53 rfl (lv_at hl 0 rfl) ?_
        refine si_getR (k' := 88) (d := 1) X hw si_cl10 1 (by decide) gf_RX10_13 rfl rfl rfl (by decide) rfl dX10_riskOf_54 ?_
        refine lv_iconst (v := 1) X.1 X.2.1 dX10_riskOf_57 (by decide) ?_
        refine lv_iload X.1 X.2.1 dX10_riskOf_58 (lv_at hl 4 rfl) ?_
        refine lv_iadd X.1 X.2.1 dX10_riskOf_60 ?_
        obtain ⟨v9, ev9, hf⟩ := si_ob hf
        refine si_iald X hw rfl ev9 dX10_riskOf_61 ?_
        refine lv_iload_n X.1 X.2.1 dX10_riskOf_62 rfl (lv_at hl 1 rfl) ?_
        refine lv_icmp_ne (tgt := 111) X.1 X.2.1 dX10_riskOf_63 (by decide) (fun c63 => ?_) (fun c63 => ?_)
        · have hf := si_in c63 hf
          exact B111 _ _ _ _ _ _ _ _ hf hw (lv_sub hl [0, 1, 2, 4] rfl)
        · have hf := si_ip c63 hf
          refine lv_aload_n X.1 X.2.1 dX10_riskOf_66 rfl (lv_at hl 0 rfl) ?_
          refine si_getR (k' := 88) (d := 1) X hw si_cl10 1 (by decide) gf_RX10_13 rfl rfl rfl (by decide) rfl dX10_riskOf_67 ?_
          refine lv_bipush (v := 61) X.1 X.2.1 dX10_riskOf_70 (by decide) ?_
          refine lv_iload X.1 X.2.1 dX10_riskOf_72 (lv_at hl 4 rfl) ?_
          refine lv_iadd X.1 X.2.1 dX10_riskOf_74 ?_
          obtain ⟨v10, ev10, hf⟩ := si_ob hf
          refine si_iald X hw rfl ev10 dX10_riskOf_75 ?_
          refine lv_iconst (v := 1) X.1 X.2.1 dX10_riskOf_76 (by decide) ?_
          refine lv_icmp_ne (tgt := 111) X.1 X.2.1 dX10_riskOf_77 (by decide) (fun c77 => ?_) (fun c77 => ?_)
          · have hf := si_in c77 hf
            exact B111 _ _ _ _ _ _ _ _ hf hw (lv_sub hl [0, 1, 2, 4] rfl)
          · have hf := si_ip c77 hf
            refine lv_aload_n X.1 X.2.1 dX10_riskOf_80 rfl (lv_at hl 0 rfl) ?_
            refine si_getR (k' := 88) (d := 1) X hw si_cl10 1 (by decide) gf_RX10_13 rfl rfl rfl (by decide) rfl dX10_riskOf_81 ?_
            refine lv_bipush (v := 31) X.1 X.2.1 dX10_riskOf_84 (by decide) ?_
            refine lv_iload X.1 X.2.1 dX10_riskOf_86 (lv_at hl 4 rfl) ?_
            refine lv_iadd X.1 X.2.1 dX10_riskOf_88 ?_
            obtain ⟨v11, ev11, hf⟩ := si_ob hf
            refine si_iald X hw rfl ev11 dX10_riskOf_89 ?_
            refine lv_iload_n X.1 X.2.1 dX10_riskOf_90 rfl (lv_at hl 2 rfl) ?_
            refine lv_icmp_gt (tgt := 111) X.1 X.2.1 dX10_riskOf_91 (by decide) (fun c91 => ?_) (fun c91 => ?_)
            · have hf := si_ip c91 hf
              exact B111 _ _ _ _ _ _ _ _ hf hw (lv_sub hl [0, 1, 2, 4] rfl)
            · have hf := si_in c91 hf
              refine lv_aload_n X.1 X.2.1 dX10_riskOf_94 rfl (lv_at hl 0 rfl) ?_
              refine si_getR (k' := 88) (d := 1) X hw si_cl10 1 (by decide) gf_RX10_13 rfl rfl rfl (by decide) rfl dX10_riskOf_95 ?_
              refine lv_bipush (v := 91) X.1 X.2.1 dX10_riskOf_98 (by decide) ?_
              refine lv_iload X.1 X.2.1 dX10_riskOf_100 (lv_at hl 4 rfl) ?_
              refine lv_iadd X.1 X.2.1 dX10_riskOf_102 ?_
              obtain ⟨v12, ev12, hf⟩ := si_ob hf
              refine si_iald X hw rfl ev12 dX10_riskOf_103 ?_
              refine lv_if_le (tgt := 111) X.1 X.2.1 dX10_riskOf_104 (by decide) (fun c104 => ?_) (fun c104 => ?_)
              · have hf := si_ip c104 hf
                exact B111 _ _ _ _ _ _ _ _ hf hw (lv_sub hl [0, 1, 2, 4] rfl)
              · have hf := si_in c104 hf
                refine lv_iconst (v := 1) X.1 X.2.1 dX10_riskOf_107 (by decide) ?_
                refine lv_goto (tgt := 112) X.1 X.2.1 dX10_riskOf_108 (by decide) ?_
                exact B112 _ _ _ _ _ _ _ _ _ hf hw (lv_sub hl [0, 1, 2, 4] rfl)
  have B35 : ∀ (x1 : Int32) (x2 : Int32) (t0 : Int32) (S : si_St) (H : Heap) (locs : List Loc) (ls : Array Slot) , f_X10_riskOf_h35 F x1 x2 t0 S = some o → si_Ws E A s.heap S H locs → lv_has ls 6 [(0, .ref (E.2.1 87)), (1, .int x1), (2, .int x2)] → W p l e rm_X10_riskOf s m args below meth c H locs 0 0 Q (F0 m 35 ls [.int t0]) := by
    intro x1 x2 t0  S H locs ls  hf hw hl
    unfold f_X10_riskOf_h35 at hf
    refine lv_istore (lv' := [(4, .int t0), (0, .ref (E.2.1 87)), (1, .int x1), (2, .int x2)]) X.1 X.2.1 dX10_riskOf_35 hl (by decide) rfl (fun ls hl => ?_)
    refine lv_iconst (v := 0) X.1 X.2.1 dX10_riskOf_37 (by decide) ?_
    refine lv_istore (lv' := [(5, .int 0), (4, .int t0), (0, .ref (E.2.1 87)), (1, .int x1), (2, .int x2)]) X.1 X.2.1 dX10_riskOf_38 hl (by decide) rfl (fun ls hl => ?_)
    exact B40 F _ _ _ _ _ _ _ _ hf hw (lv_sub hl [2, 3, 4, 1, 0] rfl)
  unfold f_X10_riskOf at hf
  refine lv_aload_n X.1 X.2.1 dX10_riskOf_0 rfl (lv_at hl 0 rfl) ?_
  refine lv_iload_n X.1 X.2.1 dX10_riskOf_1 rfl (lv_at hl 1 rfl) ?_
  refine lv_iload_n X.1 X.2.1 dX10_riskOf_2 rfl (lv_at hl 2 rfl) ?_
  obtain ⟨q13, eq13, hf⟩ := si_ob hf
  refine si_cVi [.int x1, .int x2] cal_X10_stateOf gm_RX10_289 X hw hA hl.1 (c_X10_stateOf l E F x1 x2 S q13 eq13) si_cl10 rfl ⟨⟨rfl, rfl⟩, Nat.le_of_ble_eq_true rfl, Nat.le_of_ble_eq_true rfl⟩ rfl rfl (Nat.le_of_ble_eq_true rfl) ⟨Nat.zero_le _, Nat.zero_le _⟩ dX10_riskOf_3 (fun H locs hw => ?_)
  refine lv_istore_n (lv' := [(3, .int q13.1), (0, .ref (E.2.1 87)), (1, .int x1), (2, .int x2)]) X.1 X.2.1 dX10_riskOf_6 rfl hl (by decide) rfl (fun ls hl => ?_)
  refine lv_iload_n X.1 X.2.1 dX10_riskOf_7 rfl (lv_at hl 0 rfl) ?_
  refine lv_if_ne (tgt := 15) X.1 X.2.1 dX10_riskOf_8 (by decide) (fun c8 => ?_) (fun c8 => ?_)
  · have hf := si_in c8 hf
    refine lv_iload_n X.1 X.2.1 dX10_riskOf_15 rfl (lv_at hl 0 rfl) ?_
    refine lv_iconst (v := 1) X.1 X.2.1 dX10_riskOf_16 (by decide) ?_
    refine lv_icmp_ne (tgt := 24) X.1 X.2.1 dX10_riskOf_17 (by decide) (fun c17 => ?_) (fun c17 => ?_)
    · have hf := si_in c17 hf
      refine lv_iload_n X.1 X.2.1 dX10_riskOf_24 rfl (lv_at hl 0 rfl) ?_
      refine lv_iconst (v := 2) X.1 X.2.1 dX10_riskOf_25 (by decide) ?_
      refine lv_icmp_ne (tgt := 33) X.1 X.2.1 dX10_riskOf_26 (by decide) (fun c26 => ?_) (fun c26 => ?_)
      · have hf := si_in c26 hf
        refine lv_bipush (v := 6) X.1 X.2.1 dX10_riskOf_33 (by decide) ?_
        exact B35 _ _ _ _ _ _ _ hf hw (lv_sub hl [1, 2, 3] rfl)
      · have hf := si_ip c26 hf
        refine lv_iconst (v := 3) X.1 X.2.1 dX10_riskOf_29 (by decide) ?_
        refine lv_goto (tgt := 35) X.1 X.2.1 dX10_riskOf_30 (by decide) ?_
        exact B35 _ _ _ _ _ _ _ hf hw (lv_sub hl [1, 2, 3] rfl)
    · have hf := si_ip c17 hf
      refine lv_iconst (v := 1) X.1 X.2.1 dX10_riskOf_20 (by decide) ?_
      refine lv_goto (tgt := 35) X.1 X.2.1 dX10_riskOf_21 (by decide) ?_
      exact B35 _ _ _ _ _ _ _ hf hw (lv_sub hl [1, 2, 3] rfl)
  · have hf := si_ip c8 hf
    refine lv_iconst (v := 4) X.1 X.2.1 dX10_riskOf_11 (by decide) ?_
    refine lv_goto (tgt := 35) X.1 X.2.1 dX10_riskOf_12 (by decide) ?_
    exact B35 _ _ _ _ _ _ _ hf hw (lv_sub hl [1, 2, 3] rfl)
abbrev rm_X10_risk : Room := { frames := 3, cells := 0, slots := 0, locals := 72 }
set_option maxHeartbeats 4000000 in
set_option maxRecDepth 100000 in
theorem c_X10_risk (l : Launch) (E : si_Ev) (F : Nat) (x1 : Int32) (x2 : Int32) (S : si_St) (o : Int32 × si_St) (hf : f_X10_risk F x1 x2 S = some o) : si_Mi l E yX10_risk cX10_risk 3 (some .int) rm_X10_risk [.ref (E.2.1 87), .int x1, .int x2] S o := by
  refine si_ofWi (plainFor_of_name (by decide +kernel)) (Nat.le_of_ble_eq_true rfl) ?_
  intro p e s m args below meth c ls Q A X hw hA hl hret
  have hl : lv_has ls 3 [(0, .ref (E.2.1 87)), (1, .int x1), (2, .int x2)] := hl
  have B30 : ∀ (t0 : Int32) (S : si_St) (H : Heap) (locs : List Loc) (ls : Array Slot) , f_X10_risk_h30 F t0 S = some o → si_Ws E A s.heap S H locs → lv_has ls 3 [] → W p l e rm_X10_risk s m args below meth c H locs 0 0 Q (F0 m 30 ls [.int t0]) := by
    intro t0  S H locs ls  hf hw hl
    unfold f_X10_risk_h30 at hf
    exact hret _ _ _ _ _ _ hf hw dX10_risk_30
  have B29 : ∀ (S : si_St) (H : Heap) (locs : List Loc) (ls : Array Slot) , f_X10_risk_h29 F S = some o → si_Ws E A s.heap S H locs → lv_has ls 3 [] → W p l e rm_X10_risk s m args below meth c H locs 0 0 Q (F0 m 29 ls []) := by
    intro   S H locs ls  hf hw hl
    unfold f_X10_risk_h29 at hf
    refine lv_iconst (v := (-1)) X.1 X.2.1 dX10_risk_29 (by decide) ?_
    exact B30 _ _ _ _ _ hf hw (lv_sub hl [] rfl)
  unfold f_X10_risk at hf
  refine lv_aload_n X.1 X.2.1 dX10_risk_0 rfl (lv_at hl 0 rfl) ?_
  refine lv_iconst (v := 0) X.1 X.2.1 dX10_risk_1 (by decide) ?_
  obtain ⟨S1, eS1, hf⟩ := si_ob hf
  refine si_ptI X hw si_cl10 0 (by decide) gf_RX10_1 rfl rfl rfl rfl rfl eS1 dX10_risk_2 (fun H locs hw => ?_)
  refine lv_aload_n X.1 X.2.1 dX10_risk_5 rfl (lv_at hl 0 rfl) ?_
  refine lv_iload_n X.1 X.2.1 dX10_risk_6 rfl (lv_at hl 1 rfl) ?_
  obtain ⟨q2, eq2, hf⟩ := si_ob hf
  refine si_cVi [.int x1] cal_X10_isScale gm_RX10_234 X hw hA hl.1 (c_X10_isScale l E F x1 S1 q2 eq2) si_cl10 rfl ⟨⟨rfl, rfl⟩, Nat.le_of_ble_eq_true rfl, Nat.le_of_ble_eq_true rfl⟩ rfl rfl (Nat.le_of_ble_eq_true rfl) ⟨Nat.zero_le _, Nat.zero_le _⟩ dX10_risk_7 (fun H locs hw => ?_)
  refine lv_if_eq (tgt := 29) X.1 X.2.1 dX10_risk_10 (by decide) (fun c10 => ?_) (fun c10 => ?_)
  · have hf := si_ip c10 hf
    exact B29 _ _ _ _ hf hw (lv_sub hl [] rfl)
  · have hf := si_in c10 hf
    refine lv_iload_n X.1 X.2.1 dX10_risk_13 rfl (lv_at hl 2 rfl) ?_
    obtain ⟨q3, eq3, hf⟩ := si_ob hf
    refine si_cSi [.int x2] cal_X10_isDay gm_RX10_286 X hw hA hl.1 (c_X10_isDay l E F x2 q2.2 q3 eq3) ⟨⟨rfl, rfl⟩, Nat.le_of_ble_eq_true rfl, Nat.le_of_ble_eq_true rfl⟩ rfl rfl (Nat.le_of_ble_eq_true rfl) ⟨Nat.zero_le _, Nat.zero_le _⟩ dX10_risk_14 (fun H locs hw => ?_)
    refine lv_if_eq (tgt := 29) X.1 X.2.1 dX10_risk_17 (by decide) (fun c17 => ?_) (fun c17 => ?_)
    · have hf := si_ip c17 hf
      exact B29 _ _ _ _ hf hw (lv_sub hl [] rfl)
    · have hf := si_in c17 hf
      refine lv_aload_n X.1 X.2.1 dX10_risk_20 rfl (lv_at hl 0 rfl) ?_
      refine lv_iload_n X.1 X.2.1 dX10_risk_21 rfl (lv_at hl 1 rfl) ?_
      refine lv_iload_n X.1 X.2.1 dX10_risk_22 rfl (lv_at hl 2 rfl) ?_
      obtain ⟨q4, eq4, hf⟩ := si_ob hf
      refine si_cVi [.int x1, .int x2] cal_X10_riskOf gm_RX10_294 X hw hA hl.1 (c_X10_riskOf l E F x1 x2 q3.2 q4 eq4) si_cl10 rfl ⟨⟨rfl, rfl⟩, Nat.le_of_ble_eq_true rfl, Nat.le_of_ble_eq_true rfl⟩ rfl rfl (Nat.le_of_ble_eq_true rfl) ⟨Nat.zero_le _, Nat.zero_le _⟩ dX10_risk_23 (fun H locs hw => ?_)
      refine lv_goto (tgt := 30) X.1 X.2.1 dX10_risk_26 (by decide) ?_
      exact B30 _ _ _ _ _ hf hw (lv_sub hl [] rfl)
abbrev rm_X10_riskiestTrader : Room := { frames := 3, cells := 0, slots := 0, locals := 72 }
set_option maxHeartbeats 4000000 in
set_option maxRecDepth 100000 in
theorem c_X10_riskiestTrader (l : Launch) (E : si_Ev) (F : Nat) (x1 : Int32) (S : si_St) (o : Int32 × si_St) (hf : f_X10_riskiestTrader F x1 S = some o) : si_Mi l E yX10_riskiestTrader cX10_riskiestTrader 7 (some .int) rm_X10_riskiestTrader [.ref (E.2.1 87), .int x1] S o := by
  refine si_ofWi (plainFor_of_name (by decide +kernel)) (Nat.le_of_ble_eq_true rfl) ?_
  intro p e s m args below meth c ls Q A X hw hA hl hret
  have hl : lv_has ls 7 [(0, .ref (E.2.1 87)), (1, .int x1)] := hl
  have B22 : ∀ (n22 : Nat) (x1 : Int32) (x2 : Int32) (x3 : Int32) (x4 : Int32) (S : si_St) (H : Heap) (locs : List Loc) (ls : Array Slot) , f_X10_riskiestTrader_l22 F n22 x1 x2 x3 x4 S = some o → si_Ws E A s.heap S H locs → lv_has ls 7 [(0, .ref (E.2.1 87)), (1, .int x1), (2, .int x2), (3, .int x3), (4, .int x4)] → W p l e rm_X10_riskiestTrader s m args below meth c H locs 0 0 Q (F0 m 22 ls []) := by
    intro n22
    induction n22 with
    | zero => intro x1 x2 x3 x4  S H locs ls  hf; cases hf
    | succ n22 ih22 =>
      have B92 : ∀ (x1 : Int32) (x2 : Int32) (x3 : Int32) (x4 : Int32) (S : si_St) (H : Heap) (locs : List Loc) (ls : Array Slot) , f_X10_riskiestTrader_h92 F (f_X10_riskiestTrader_l22 F n22) x1 x2 x3 x4 S = some o → si_Ws E A s.heap S H locs → lv_has ls 7 [(0, .ref (E.2.1 87)), (1, .int x1), (2, .int x2), (3, .int x3), (4, .int x4)] → W p l e rm_X10_riskiestTrader s m args below meth c H locs 0 0 Q (F0 m 92 ls []) := by
        intro x1 x2 x3 x4  S H locs ls  hf hw hl
        unfold f_X10_riskiestTrader_h92 at hf
        obtain ⟨v1, ev1, hf⟩ := si_ob hf
        refine lv_iinc (v := v1) (lv' := [(4, .int v1), (0, .ref (E.2.1 87)), (1, .int x1), (2, .int x2), (3, .int x3)]) X.1 X.2.1 dX10_riskiestTrader_92 hl (k := 4) rfl (Option.some.inj ev1) (by decide) rfl (fun ls hl => ?_)
        refine lv_goto (tgt := 22) X.1 X.2.1 dX10_riskiestTrader_95 (by decide) ?_
        exact ih22 _ _ _ _ _ _ _ _ hf hw (lv_sub hl [1, 2, 3, 4, 0] rfl)
      have B37 : ∀ (n37 : Nat) (x1 : Int32) (x2 : Int32) (x3 : Int32) (x4 : Int32) (x5 : Int32) (x6 : Int32) (S : si_St) (H : Heap) (locs : List Loc) (ls : Array Slot) , f_X10_riskiestTrader_l37 F (f_X10_riskiestTrader_l22 F n22) n37 x1 x2 x3 x4 x5 x6 S = some o → si_Ws E A s.heap S H locs → lv_has ls 7 [(0, .ref (E.2.1 87)), (1, .int x1), (2, .int x2), (3, .int x3), (4, .int x4), (5, .int x5), (6, .int x6)] → W p l e rm_X10_riskiestTrader s m args below meth c H locs 0 0 Q (F0 m 37 ls []) := by
        intro n37
        induction n37 with
        | zero => intro x1 x2 x3 x4 x5 x6  S H locs ls  hf; cases hf
        | succ n37 ih37 =>
          have B71 : ∀ (x1 : Int32) (x2 : Int32) (x3 : Int32) (x4 : Int32) (x6 : Int32) (t0 : Int32) (t1 : Int32) (S : si_St) (H : Heap) (locs : List Loc) (ls : Array Slot) , f_X10_riskiestTrader_h71 F (f_X10_riskiestTrader_l22 F n22) (f_X10_riskiestTrader_l37 F (f_X10_riskiestTrader_l22 F n22) n37) x1 x2 x3 x4 x6 t0 t1 S = some o → si_Ws E A s.heap S H locs → lv_has ls 7 [(0, .ref (E.2.1 87)), (1, .int x1), (2, .int x2), (3, .int x3), (4, .int x4), (6, .int x6)] → W p l e rm_X10_riskiestTrader s m args below meth c H locs 0 0 Q (F0 m 71 ls [.int t0, .int t1]) := by
            intro x1 x2 x3 x4 x6 t0 t1  S H locs ls  hf hw hl
            unfold f_X10_riskiestTrader_h71 at hf
            refine lv_iadd X.1 X.2.1 dX10_riskiestTrader_71 ?_
            obtain ⟨v2, ev2, hf⟩ := si_ob hf
            refine si_nmI ev2 ?_
            refine lv_istore (lv' := [(5, .int v2), (0, .ref (E.2.1 87)), (1, .int x1), (2, .int x2), (3, .int x3), (4, .int x4), (6, .int x6)]) X.1 X.2.1 dX10_riskiestTrader_72 hl (by decide) rfl (fun ls hl => ?_)
            obtain ⟨v3, ev3, hf⟩ := si_ob hf
            refine lv_iinc (v := v3) (lv' := [(6, .int v3), (5, .int v2), (0, .ref (E.2.1 87)), (1, .int x1), (2, .int x2), (3, .int x3), (4, .int x4)]) X.1 X.2.1 dX10_riskiestTrader_74 hl (k := 6) rfl (Option.some.inj ev3) (by decide) rfl (fun ls hl => ?_)
            refine lv_goto (tgt := 37) X.1 X.2.1 dX10_riskiestTrader_77 (by decide) ?_
            exact ih37 _ _ _ _ _ _ _ _ _ _ hf hw (lv_sub hl [2, 3, 4, 5, 6, 1, 0] rfl)
          intro x1 x2 x3 x4 x5 x6  S H locs ls  hf hw hl
          have hf : f_X10_riskiestTrader_h37 F (f_X10_riskiestTrader_l22 F n22) (f_X10_riskiestTrader_l37 F (f_X10_riskiestTrader_l22 F n22) n37) x1 x2 x3 x4 x5 x6 S = some o := hf
          unfold f_X10_riskiestTrader_h37 at hf
          refine lv_iload X.1 X.2.1 dX10_riskiestTrader_37 (lv_at hl 6 rfl) ?_
          refine lv_aload_n X.1 X.2.1 dX10_riskiestTrader_39 rfl (lv_at hl 0 rfl) ?_
          refine si_getI X hw si_cl10 3 (by decide) gf_RX10_218 rfl rfl rfl dX10_riskiestTrader_40 ?_
          refine lv_icmp_ge (tgt := 80) X.1 X.2.1 dX10_riskiestTrader_43 (by decide) (fun c43 => ?_) (fun c43 => ?_)
          · have hf := si_ip c43 hf
            refine lv_iload X.1 X.2.1 dX10_riskiestTrader_80 (lv_at hl 5 rfl) ?_
            refine lv_iload_n X.1 X.2.1 dX10_riskiestTrader_82 rfl (lv_at hl 3 rfl) ?_
            refine lv_icmp_le (tgt := 92) X.1 X.2.1 dX10_riskiestTrader_83 (by decide) (fun c83 => ?_) (fun c83 => ?_)
            · have hf := si_ip c83 hf
              exact B92 _ _ _ _ _ _ _ _ hf hw (lv_sub hl [0, 1, 2, 3, 4] rfl)
            · have hf := si_in c83 hf
              refine lv_iload X.1 X.2.1 dX10_riskiestTrader_86 (lv_at hl 4 rfl) ?_
              refine lv_istore_n (lv' := [(2, .int x4), (0, .ref (E.2.1 87)), (1, .int x1), (3, .int x3), (4, .int x4), (5, .int x5), (6, .int x6)]) X.1 X.2.1 dX10_riskiestTrader_88 rfl hl (by decide) rfl (fun ls hl => ?_)
              refine lv_iload X.1 X.2.1 dX10_riskiestTrader_89 (lv_at hl 5 rfl) ?_
              refine lv_istore_n (lv' := [(3, .int x5), (2, .int x4), (0, .ref (E.2.1 87)), (1, .int x1), (4, .int x4), (5, .int x5), (6, .int x6)]) X.1 X.2.1 dX10_riskiestTrader_91 rfl hl (by decide) rfl (fun ls hl => ?_)
              exact B92 _ _ _ _ _ _ _ _ hf hw (lv_sub hl [2, 3, 1, 0, 4] rfl)
          · have hf := si_in c43 hf
            refine lv_iload X.1 X.2.1 dX10_riskiestTrader_46 (lv_at hl 5 rfl) ?_
            refine lv_aload_n X.1 X.2.1 dX10_riskiestTrader_48 rfl (lv_at hl 0 rfl) ?_
            refine si_getR (k' := 89) (d := 2) X hw si_cl10 4 (by decide) gf_RX10_17 rfl rfl rfl (by decide) rfl dX10_riskiestTrader_49 ?_
            refine lv_iload X.1 X.2.1 dX10_riskiestTrader_52 (lv_at hl 6 rfl) ?_
            obtain ⟨v4, ev4, hf⟩ := si_ob hf
            refine si_iald X hw rfl ev4 dX10_riskiestTrader_54 ?_
            refine lv_iload X.1 X.2.1 dX10_riskiestTrader_55 (lv_at hl 4 rfl) ?_
            refine lv_icmp_ne (tgt := 70) X.1 X.2.1 dX10_riskiestTrader_57 (by decide) (fun c57 => ?_) (fun c57 => ?_)
            · have hf := si_in c57 hf
              refine lv_iconst (v := 0) X.1 X.2.1 dX10_riskiestTrader_70 (by decide) ?_
              exact B71 _ _ _ _ _ _ _ _ _ _ _ hf hw (lv_sub hl [0, 1, 2, 3, 4, 6] rfl)
            · have hf := si_ip c57 hf
              refine lv_aload_n X.1 X.2.1 dX10_riskiestTrader_60 rfl (lv_at hl 0 rfl) ?_
              refine lv_iload X.1 X.2.1 dX10_riskiestTrader_61 (lv_at hl 6 rfl) ?_
              refine lv_iload_n X.1 X.2.1 dX10_riskiestTrader_63 rfl (lv_at hl 1 rfl) ?_
              obtain ⟨q5, eq5, hf⟩ := si_ob hf
              refine si_cVi [.int x6, .int x1] cal_X10_riskOf gm_RX10_294 X hw hA hl.1 (c_X10_riskOf l E F x6 x1 S q5 eq5) si_cl10 rfl ⟨⟨rfl, rfl⟩, Nat.le_of_ble_eq_true rfl, Nat.le_of_ble_eq_true rfl⟩ rfl rfl (Nat.le_of_ble_eq_true rfl) ⟨Nat.zero_le _, Nat.zero_le _⟩ dX10_riskiestTrader_64 (fun H locs hw => ?_)
              refine lv_goto (tgt := 71) X.1 X.2.1 dX10_riskiestTrader_67 (by decide) ?_
              exact B71 _ _ _ _ _ _ _ _ _ _ _ hf hw (lv_sub hl [0, 1, 2, 3, 4, 6] rfl)
      intro x1 x2 x3 x4  S H locs ls  hf hw hl
      have hf : f_X10_riskiestTrader_h22 F (f_X10_riskiestTrader_l22 F n22) x1 x2 x3 x4 S = some o := hf
      unfold f_X10_riskiestTrader_h22 at hf
      refine lv_iload X.1 X.2.1 dX10_riskiestTrader_22 (lv_at hl 4 rfl) ?_
      refine lv_aload_n X.1 X.2.1 dX10_riskiestTrader_24 rfl (lv_at hl 0 rfl) ?_
      refine si_getI X hw si_cl10 2 (by decide) gf_RX10_215 rfl rfl rfl dX10_riskiestTrader_25 ?_
      refine lv_icmp_ge (tgt := 98) X.1 X.2.1 dX10_riskiestTrader_28 (by decide) (fun c28 => ?_) (fun c28 => ?_)
      · have hf := si_ip c28 hf
        refine lv_iload_n X.1 X.2.1 dX10_riskiestTrader_98 rfl (lv_at hl 2 rfl) ?_
        exact hret _ _ _ _ _ _ hf hw dX10_riskiestTrader_99
      · have hf := si_in c28 hf
        refine lv_iconst (v := 0) X.1 X.2.1 dX10_riskiestTrader_31 (by decide) ?_
        refine lv_istore (lv' := [(5, .int 0), (0, .ref (E.2.1 87)), (1, .int x1), (2, .int x2), (3, .int x3), (4, .int x4)]) X.1 X.2.1 dX10_riskiestTrader_32 hl (by decide) rfl (fun ls hl => ?_)
        refine lv_iconst (v := 0) X.1 X.2.1 dX10_riskiestTrader_34 (by decide) ?_
        refine lv_istore (lv' := [(6, .int 0), (5, .int 0), (0, .ref (E.2.1 87)), (1, .int x1), (2, .int x2), (3, .int x3), (4, .int x4)]) X.1 X.2.1 dX10_riskiestTrader_35 hl (by decide) rfl (fun ls hl => ?_)
        exact B37 F _ _ _ _ _ _ _ _ _ _ hf hw (lv_sub hl [2, 3, 4, 5, 6, 1, 0] rfl)
  unfold f_X10_riskiestTrader at hf
  refine lv_aload_n X.1 X.2.1 dX10_riskiestTrader_0 rfl (lv_at hl 0 rfl) ?_
  refine lv_iconst (v := 0) X.1 X.2.1 dX10_riskiestTrader_1 (by decide) ?_
  obtain ⟨S6, eS6, hf⟩ := si_ob hf
  refine si_ptI X hw si_cl10 0 (by decide) gf_RX10_1 rfl rfl rfl rfl rfl eS6 dX10_riskiestTrader_2 (fun H locs hw => ?_)
  refine lv_iload_n X.1 X.2.1 dX10_riskiestTrader_5 rfl (lv_at hl 1 rfl) ?_
  obtain ⟨q7, eq7, hf⟩ := si_ob hf
  refine si_cSi [.int x1] cal_X10_isDay gm_RX10_286 X hw hA hl.1 (c_X10_isDay l E F x1 S6 q7 eq7) ⟨⟨rfl, rfl⟩, Nat.le_of_ble_eq_true rfl, Nat.le_of_ble_eq_true rfl⟩ rfl rfl (Nat.le_of_ble_eq_true rfl) ⟨Nat.zero_le _, Nat.zero_le _⟩ dX10_riskiestTrader_6 (fun H locs hw => ?_)
  refine lv_if_ne (tgt := 14) X.1 X.2.1 dX10_riskiestTrader_9 (by decide) (fun c9 => ?_) (fun c9 => ?_)
  · have hf := si_in c9 hf
    refine lv_bipush (v := (-2)) X.1 X.2.1 dX10_riskiestTrader_14 (by decide) ?_
    refine lv_istore_n (lv' := [(2, .int (-2)), (0, .ref (E.2.1 87)), (1, .int x1)]) X.1 X.2.1 dX10_riskiestTrader_16 rfl hl (by decide) rfl (fun ls hl => ?_)
    refine lv_iconst (v := (-1)) X.1 X.2.1 dX10_riskiestTrader_17 (by decide) ?_
    refine lv_istore_n (lv' := [(3, .int (-1)), (2, .int (-2)), (0, .ref (E.2.1 87)), (1, .int x1)]) X.1 X.2.1 dX10_riskiestTrader_18 rfl hl (by decide) rfl (fun ls hl => ?_)
    refine lv_iconst (v := 0) X.1 X.2.1 dX10_riskiestTrader_19 (by decide) ?_
    refine lv_istore (lv' := [(4, .int 0), (3, .int (-1)), (2, .int (-2)), (0, .ref (E.2.1 87)), (1, .int x1)]) X.1 X.2.1 dX10_riskiestTrader_20 hl (by decide) rfl (fun ls hl => ?_)
    exact B22 F _ _ _ _ _ _ _ _ hf hw (lv_sub hl [3, 4, 2, 1, 0] rfl)
  · have hf := si_ip c9 hf
    refine lv_iconst (v := (-1)) X.1 X.2.1 dX10_riskiestTrader_12 (by decide) ?_
    exact hret _ _ _ _ _ _ hf hw dX10_riskiestTrader_13
abbrev rm_X10_lot : Room := { frames := 3, cells := 0, slots := 0, locals := 72 }
set_option maxHeartbeats 4000000 in
set_option maxRecDepth 100000 in
theorem c_X10_lot (l : Launch) (E : si_Ev) (F : Nat) (x1 : Int32) (x2 : Int32) (x3 : Int32) (S : si_St) (o : Int32 × si_St) (hf : f_X10_lot F x1 x2 x3 S = some o) : si_Mi l E yX10_lot cX10_lot 10 (some .int) rm_X10_lot [.ref (E.2.1 87), .int x1, .int x2, .int x3] S o := by
  refine si_ofWi (plainFor_of_name (by decide +kernel)) (Nat.le_of_ble_eq_true rfl) ?_
  intro p e s m args below meth c ls Q A X hw hA hl hret
  have hl : lv_has ls 10 [(0, .ref (E.2.1 87)), (1, .int x1), (2, .int x2), (3, .int x3)] := hl
  have B28 : ∀ (S : si_St) (H : Heap) (locs : List Loc) (ls : Array Slot) , f_X10_lot_h28 F S = some o → si_Ws E A s.heap S H locs → lv_has ls 10 [] → W p l e rm_X10_lot s m args below meth c H locs 0 0 Q (F0 m 28 ls []) := by
    intro   S H locs ls  hf hw hl
    unfold f_X10_lot_h28 at hf
    refine lv_iconst (v := (-1)) X.1 X.2.1 dX10_lot_28 (by decide) ?_
    exact hret _ _ _ _ _ _ hf hw dX10_lot_29
  have B99 : ∀ (n99 : Nat) (x2 : Int32) (x4 : Int32) (x5 : Int64) (x7 : Int32) (x8 : Int32) (S : si_St) (H : Heap) (locs : List Loc) (ls : Array Slot) , f_X10_lot_l99 F n99 x2 x4 x5 x7 x8 S = some o → si_Ws E A s.heap S H locs → lv_has ls 10 [(0, .ref (E.2.1 87)), (2, .int x2), (4, .int x4), (5, .long x5), (7, .int x7), (8, .int x8)] → W p l e rm_X10_lot s m args below meth c H locs 0 0 Q (F0 m 99 ls []) := by
    intro n99
    induction n99 with
    | zero => intro x2 x4 x5 x7 x8  S H locs ls  hf; cases hf
    | succ n99 ih99 =>
      have B137 : ∀ (n137 : Nat) (x2 : Int32) (x4 : Int32) (x5 : Int64) (x7 : Int32) (x8 : Int32) (x9 : Int32) (S : si_St) (H : Heap) (locs : List Loc) (ls : Array Slot) , f_X10_lot_l137 F (f_X10_lot_l99 F n99) n137 x2 x4 x5 x7 x8 x9 S = some o → si_Ws E A s.heap S H locs → lv_has ls 10 [(0, .ref (E.2.1 87)), (2, .int x2), (4, .int x4), (5, .long x5), (7, .int x7), (8, .int x8), (9, .int x9)] → W p l e rm_X10_lot s m args below meth c H locs 0 0 Q (F0 m 137 ls []) := by
        intro n137
        induction n137 with
        | zero => intro x2 x4 x5 x7 x8 x9  S H locs ls  hf; cases hf
        | succ n137 ih137 =>
          intro x2 x4 x5 x7 x8 x9  S H locs ls  hf hw hl
          have hf : f_X10_lot_h137 F (f_X10_lot_l99 F n99) (f_X10_lot_l137 F (f_X10_lot_l99 F n99) n137) x2 x4 x5 x7 x8 x9 S = some o := hf
          unfold f_X10_lot_h137 at hf
          refine lv_iload X.1 X.2.1 dX10_lot_137 (lv_at hl 6 rfl) ?_
          refine lv_aload_n X.1 X.2.1 dX10_lot_139 rfl (lv_at hl 0 rfl) ?_
          refine si_getR (k' := 107) (d := 20) X hw si_cl10 37 (by decide) gf_RX10_76 rfl rfl rfl (by decide) rfl dX10_lot_140 ?_
          refine lv_iload X.1 X.2.1 dX10_lot_143 (lv_at hl 4 rfl) ?_
          obtain ⟨v1, ev1, hf⟩ := si_ob hf
          refine si_iald X hw rfl ev1 dX10_lot_145 ?_
          refine lv_icmp_lt (tgt := 167) X.1 X.2.1 dX10_lot_146 (by decide) (fun c146 => ?_) (fun c146 => ?_)
          · have hf := si_ip c146 hf
            refine lv_iload X.1 X.2.1 dX10_lot_167 (lv_at hl 2 rfl) ?_
            refine lv_aload_n X.1 X.2.1 dX10_lot_169 rfl (lv_at hl 0 rfl) ?_
            refine si_getR (k' := 107) (d := 20) X hw si_cl10 37 (by decide) gf_RX10_76 rfl rfl rfl (by decide) rfl dX10_lot_170 ?_
            refine lv_iload X.1 X.2.1 dX10_lot_173 (lv_at hl 4 rfl) ?_
            obtain ⟨v2, ev2, hf⟩ := si_ob hf
            refine si_iald X hw rfl ev2 dX10_lot_175 ?_
            refine lv_isub X.1 X.2.1 dX10_lot_176 ?_
            obtain ⟨v3, ev3, hf⟩ := si_ob hf
            refine si_nmI ev3 ?_
            refine lv_istore (lv' := [(4, .int v3), (0, .ref (E.2.1 87)), (2, .int x2), (5, .long x5), (7, .int x7), (8, .int x8), (9, .int x9)]) X.1 X.2.1 dX10_lot_177 hl (by decide) rfl (fun ls hl => ?_)
            refine lv_aload_n X.1 X.2.1 dX10_lot_179 rfl (lv_at hl 1 rfl) ?_
            refine si_getR (k' := 107) (d := 20) X hw si_cl10 37 (by decide) gf_RX10_76 rfl rfl rfl (by decide) rfl dX10_lot_180 ?_
            refine lv_iload X.1 X.2.1 dX10_lot_183 (lv_at hl 4 rfl) ?_
            refine lv_iconst (v := 0) X.1 X.2.1 dX10_lot_185 (by decide) ?_
            obtain ⟨S4, eS4, hf⟩ := si_ob hf
            refine si_iast X hw rfl eS4 dX10_lot_186 (fun H locs hw => ?_)
            obtain ⟨v5, ev5, hf⟩ := si_ob hf
            refine lv_iinc (v := v5) (lv' := [(8, .int v5), (4, .int v3), (0, .ref (E.2.1 87)), (2, .int x2), (5, .long x5), (7, .int x7), (9, .int x9)]) X.1 X.2.1 dX10_lot_187 hl (k := 5) rfl (Option.some.inj ev5) (by decide) rfl (fun ls hl => ?_)
            refine lv_goto (tgt := 99) X.1 X.2.1 dX10_lot_190 (by decide) ?_
            exact ih99 _ _ _ _ _ _ _ _ _ hf hw (lv_sub hl [2, 3, 1, 4, 5, 0] rfl)
          · have hf := si_in c146 hf
            refine lv_iload X.1 X.2.1 dX10_lot_149 (lv_at hl 6 rfl) ?_
            refine lv_aload_n X.1 X.2.1 dX10_lot_151 rfl (lv_at hl 0 rfl) ?_
            refine si_getR (k' := 107) (d := 20) X hw si_cl10 37 (by decide) gf_RX10_76 rfl rfl rfl (by decide) rfl dX10_lot_152 ?_
            refine lv_iload X.1 X.2.1 dX10_lot_155 (lv_at hl 4 rfl) ?_
            obtain ⟨v6, ev6, hf⟩ := si_ob hf
            refine si_iald X hw rfl ev6 dX10_lot_157 ?_
            refine lv_isub X.1 X.2.1 dX10_lot_158 ?_
            obtain ⟨v7, ev7, hf⟩ := si_ob hf
            refine si_nmI ev7 ?_
            refine lv_istore (lv' := [(9, .int v7), (0, .ref (E.2.1 87)), (2, .int x2), (4, .int x4), (5, .long x5), (7, .int x7), (8, .int x8)]) X.1 X.2.1 dX10_lot_159 hl (by decide) rfl (fun ls hl => ?_)
            obtain ⟨v8, ev8, hf⟩ := si_ob hf
            refine lv_iinc (v := v8) (lv' := [(7, .int v8), (9, .int v7), (0, .ref (E.2.1 87)), (2, .int x2), (4, .int x4), (5, .long x5), (8, .int x8)]) X.1 X.2.1 dX10_lot_161 hl (k := 5) rfl (Option.some.inj ev8) (by decide) rfl (fun ls hl => ?_)
            refine lv_goto (tgt := 137) X.1 X.2.1 dX10_lot_164 (by decide) ?_
            exact ih137 _ _ _ _ _ _ _ _ _ _ hf hw (lv_sub hl [2, 3, 4, 5, 0, 6, 1] rfl)
      intro x2 x4 x5 x7 x8  S H locs ls  hf hw hl
      have hf : f_X10_lot_h99 F (f_X10_lot_l99 F n99) x2 x4 x5 x7 x8 S = some o := hf
      unfold f_X10_lot_h99 at hf
      refine lv_iload X.1 X.2.1 dX10_lot_99 (lv_at hl 5 rfl) ?_
      refine lv_iload_n X.1 X.2.1 dX10_lot_101 rfl (lv_at hl 1 rfl) ?_
      refine lv_icmp_gt (tgt := 193) X.1 X.2.1 dX10_lot_102 (by decide) (fun c102 => ?_) (fun c102 => ?_)
      · have hf := si_ip c102 hf
        refine lv_iload X.1 X.2.1 dX10_lot_193 (lv_at hl 4 rfl) ?_
        exact hret _ _ _ _ _ _ hf hw dX10_lot_195
      · have hf := si_in c102 hf
        refine lv_lload X.1 X.2.1 dX10_lot_105 (lv_at hl 3 rfl) ?_
        refine lv_ldc2 (v := (1103515245 : Int64)) X.1 X.2.1 X.2.2.2.1 (si_wd X gk_RX10_299) dX10_lot_107 ?_
        refine lv_lmul X.1 X.2.1 dX10_lot_110 ?_
        refine lv_ldc2 (v := (12345 : Int64)) X.1 X.2.1 X.2.2.2.1 (si_wd X gk_RX10_301) dX10_lot_111 ?_
        refine lv_ladd X.1 X.2.1 dX10_lot_114 ?_
        refine lv_ldc2 (v := (2147483648 : Int64)) X.1 X.2.1 X.2.2.2.1 (si_wd X gk_RX10_303) dX10_lot_115 ?_
        refine lv_lrem X.1 X.2.1 dX10_lot_118 (by decide) ?_
        obtain ⟨v9, ev9, hf⟩ := si_ob hf
        refine si_nmJ ev9 ?_
        refine lv_lstore (lv' := [(5, .long v9), (0, .ref (E.2.1 87)), (2, .int x2), (4, .int x4), (7, .int x7), (8, .int x8)]) X.1 X.2.1 dX10_lot_119 hl (by decide) rfl (fun ls hl => ?_)
        refine lv_lload X.1 X.2.1 dX10_lot_121 (lv_at hl 0 rfl) ?_
        refine lv_ldc2 (v := (65536 : Int64)) X.1 X.2.1 X.2.2.2.1 (si_wd X gk_RX10_305) dX10_lot_123 ?_
        refine lv_ldiv X.1 X.2.1 dX10_lot_126 (by decide) ?_
        refine lv_iload X.1 X.2.1 dX10_lot_127 (lv_at hl 3 rfl) ?_
        refine lv_i2l (v := (Int32.toInt64 x4)) X.1 X.2.1 dX10_lot_129 rfl ?_
        have d10 : ¬ (Int32.toInt64 x4) = 0 := fun h9 => by rw [if_pos h9] at hf; cases hf
        have hf := si_in d10 hf
        refine lv_lrem X.1 X.2.1 dX10_lot_130 d10 ?_
        refine lv_l2i (v := (Int64.toInt32 ((v9 / (65536 : Int64)) - (v9 / (65536 : Int64)) / (Int32.toInt64 x4) * (Int32.toInt64 x4)))) X.1 X.2.1 dX10_lot_131 rfl ?_
        obtain ⟨v11, ev11, hf⟩ := si_ob hf
        refine si_nmI ev11 ?_
        refine lv_istore (lv' := [(9, .int v11), (5, .long v9), (0, .ref (E.2.1 87)), (2, .int x2), (4, .int x4), (7, .int x7), (8, .int x8)]) X.1 X.2.1 dX10_lot_132 hl (by decide) rfl (fun ls hl => ?_)
        refine lv_iconst (v := 0) X.1 X.2.1 dX10_lot_134 (by decide) ?_
        refine lv_istore (lv' := [(7, .int 0), (9, .int v11), (5, .long v9), (0, .ref (E.2.1 87)), (2, .int x2), (4, .int x4), (8, .int x8)]) X.1 X.2.1 dX10_lot_135 hl (by decide) rfl (fun ls hl => ?_)
        exact B137 F _ _ _ _ _ _ _ _ _ _ hf hw (lv_sub hl [3, 4, 5, 2, 0, 6, 1] rfl)
  have B47 : ∀ (n47 : Nat) (x1 : Int32) (x2 : Int32) (x3 : Int32) (x4 : Int32) (x5 : Int32) (S : si_St) (H : Heap) (locs : List Loc) (ls : Array Slot) , f_X10_lot_l47 F n47 x1 x2 x3 x4 x5 S = some o → si_Ws E A s.heap S H locs → lv_has ls 10 [(0, .ref (E.2.1 87)), (1, .int x1), (2, .int x2), (3, .int x3), (4, .int x4), (5, .int x5)] → W p l e rm_X10_lot s m args below meth c H locs 0 0 Q (F0 m 47 ls []) := by
    intro n47
    induction n47 with
    | zero => intro x1 x2 x3 x4 x5  S H locs ls  hf; cases hf
    | succ n47 ih47 =>
      intro x1 x2 x3 x4 x5  S H locs ls  hf hw hl
      have hf : f_X10_lot_h47 F (f_X10_lot_l47 F n47) x1 x2 x3 x4 x5 S = some o := hf
      unfold f_X10_lot_h47 at hf
      refine lv_iload X.1 X.2.1 dX10_lot_47 (lv_at hl 5 rfl) ?_
      refine lv_aload_n X.1 X.2.1 dX10_lot_49 rfl (lv_at hl 0 rfl) ?_
      refine si_getI X hw si_cl10 3 (by decide) gf_RX10_218 rfl rfl rfl dX10_lot_50 ?_
      refine lv_icmp_ge (tgt := 88) X.1 X.2.1 dX10_lot_53 (by decide) (fun c53 => ?_) (fun c53 => ?_)
      · have hf := si_ip c53 hf
        refine lv_iload_n X.1 X.2.1 dX10_lot_88 rfl (lv_at hl 1 rfl) ?_
        refine lv_i2l (v := (Int32.toInt64 x1)) X.1 X.2.1 dX10_lot_89 rfl ?_
        obtain ⟨v12, ev12, hf⟩ := si_ob hf
        refine si_nmJ ev12 ?_
        refine lv_lstore (lv' := [(5, .long v12), (0, .ref (E.2.1 87)), (1, .int x1), (2, .int x2), (3, .int x3), (4, .int x4)]) X.1 X.2.1 dX10_lot_90 hl (by decide) rfl (fun ls hl => ?_)
        refine lv_bipush (v := (-2)) X.1 X.2.1 dX10_lot_92 (by decide) ?_
        refine lv_istore (lv' := [(7, .int (-2)), (5, .long v12), (0, .ref (E.2.1 87)), (1, .int x1), (2, .int x2), (3, .int x3), (4, .int x4)]) X.1 X.2.1 dX10_lot_94 hl (by decide) rfl (fun ls hl => ?_)
        refine lv_iconst (v := 0) X.1 X.2.1 dX10_lot_96 (by decide) ?_
        refine lv_istore (lv' := [(8, .int 0), (7, .int (-2)), (5, .long v12), (0, .ref (E.2.1 87)), (1, .int x1), (2, .int x2), (3, .int x3), (4, .int x4)]) X.1 X.2.1 dX10_lot_97 hl (by decide) rfl (fun ls hl => ?_)
        exact B99 F _ _ _ _ _ _ _ _ _ hf hw (lv_sub hl [3, 5, 7, 2, 1, 0] rfl)
      · have hf := si_in c53 hf
        refine lv_aload_n X.1 X.2.1 dX10_lot_56 rfl (lv_at hl 0 rfl) ?_
        refine si_getR (k' := 107) (d := 20) X hw si_cl10 37 (by decide) gf_RX10_76 rfl rfl rfl (by decide) rfl dX10_lot_57 ?_
        refine lv_iload X.1 X.2.1 dX10_lot_60 (lv_at hl 5 rfl) ?_
        refine lv_aload_n X.1 X.2.1 dX10_lot_62 rfl (lv_at hl 0 rfl) ?_
        refine lv_iload X.1 X.2.1 dX10_lot_63 (lv_at hl 5 rfl) ?_
        refine lv_iload_n X.1 X.2.1 dX10_lot_65 rfl (lv_at hl 3 rfl) ?_
        obtain ⟨q13, eq13, hf⟩ := si_ob hf
        refine si_cVi [.int x5, .int x3] cal_X10_riskOf gm_RX10_294 X hw hA hl.1 (c_X10_riskOf l E F x5 x3 S q13 eq13) si_cl10 rfl ⟨⟨rfl, rfl⟩, Nat.le_of_ble_eq_true rfl, Nat.le_of_ble_eq_true rfl⟩ rfl rfl (Nat.le_of_ble_eq_true rfl) ⟨Nat.zero_le _, Nat.zero_le _⟩ dX10_lot_66 (fun H locs hw => ?_)
        obtain ⟨S14, eS14, hf⟩ := si_ob hf
        refine si_iast X hw rfl eS14 dX10_lot_69 (fun H locs hw => ?_)
        refine lv_iload X.1 X.2.1 dX10_lot_70 (lv_at hl 4 rfl) ?_
        refine lv_aload_n X.1 X.2.1 dX10_lot_72 rfl (lv_at hl 0 rfl) ?_
        refine si_getR (k' := 107) (d := 20) X hw si_cl10 37 (by decide) gf_RX10_76 rfl rfl rfl (by decide) rfl dX10_lot_73 ?_
        refine lv_iload X.1 X.2.1 dX10_lot_76 (lv_at hl 5 rfl) ?_
        obtain ⟨v15, ev15, hf⟩ := si_ob hf
        refine si_iald X hw rfl ev15 dX10_lot_78 ?_
        refine lv_iadd X.1 X.2.1 dX10_lot_79 ?_
        obtain ⟨v16, ev16, hf⟩ := si_ob hf
        refine si_nmI ev16 ?_
        refine lv_istore (lv' := [(4, .int v16), (0, .ref (E.2.1 87)), (1, .int x1), (2, .int x2), (3, .int x3), (5, .int x5)]) X.1 X.2.1 dX10_lot_80 hl (by decide) rfl (fun ls hl => ?_)
        obtain ⟨v17, ev17, hf⟩ := si_ob hf
        refine lv_iinc (v := v17) (lv' := [(5, .int v17), (4, .int v16), (0, .ref (E.2.1 87)), (1, .int x1), (2, .int x2), (3, .int x3)]) X.1 X.2.1 dX10_lot_82 hl (k := 5) rfl (Option.some.inj ev17) (by decide) rfl (fun ls hl => ?_)
        refine lv_goto (tgt := 47) X.1 X.2.1 dX10_lot_85 (by decide) ?_
        exact ih47 _ _ _ _ _ _ _ _ _ hf hw (lv_sub hl [2, 3, 4, 5, 1, 0] rfl)
  unfold f_X10_lot at hf
  refine lv_aload_n X.1 X.2.1 dX10_lot_0 rfl (lv_at hl 0 rfl) ?_
  refine lv_iconst (v := 0) X.1 X.2.1 dX10_lot_1 (by decide) ?_
  obtain ⟨S18, eS18, hf⟩ := si_ob hf
  refine si_ptI X hw si_cl10 0 (by decide) gf_RX10_1 rfl rfl rfl rfl rfl eS18 dX10_lot_2 (fun H locs hw => ?_)
  refine lv_iload_n X.1 X.2.1 dX10_lot_5 rfl (lv_at hl 1 rfl) ?_
  refine lv_i2l (v := (Int32.toInt64 x1)) X.1 X.2.1 dX10_lot_6 rfl ?_
  refine lv_lconst (v := (0 : Int64)) X.1 X.2.1 dX10_lot_7 (by decide) ?_
  refine lv_ldc2 (v := (999999 : Int64)) X.1 X.2.1 X.2.2.2.1 (si_wd X gk_RX10_297) dX10_lot_8 ?_
  obtain ⟨q19, eq19, hf⟩ := si_ob hf
  refine si_cSi [.long (Int32.toInt64 x1), .long (0 : Int64), .long (999999 : Int64)] cal_X10_within gm_RX10_124 X hw hA hl.1 (c_X10_within l E F (Int32.toInt64 x1) (0 : Int64) (999999 : Int64) S18 q19 eq19) ⟨⟨rfl, rfl⟩, Nat.le_of_ble_eq_true rfl, Nat.le_of_ble_eq_true rfl⟩ rfl rfl (Nat.le_of_ble_eq_true rfl) ⟨Nat.zero_le _, Nat.zero_le _⟩ dX10_lot_11 (fun H locs hw => ?_)
  refine lv_if_eq (tgt := 28) X.1 X.2.1 dX10_lot_14 (by decide) (fun c14 => ?_) (fun c14 => ?_)
  · have hf := si_ip c14 hf
    exact B28 _ _ _ _ hf hw (lv_sub hl [] rfl)
  · have hf := si_in c14 hf
    refine lv_iload_n X.1 X.2.1 dX10_lot_17 rfl (lv_at hl 2 rfl) ?_
    refine lv_if_lt (tgt := 28) X.1 X.2.1 dX10_lot_18 (by decide) (fun c18 => ?_) (fun c18 => ?_)
    · have hf := si_ip c18 hf
      exact B28 _ _ _ _ hf hw (lv_sub hl [] rfl)
    · have hf := si_in c18 hf
      refine lv_iload_n X.1 X.2.1 dX10_lot_21 rfl (lv_at hl 3 rfl) ?_
      obtain ⟨q20, eq20, hf⟩ := si_ob hf
      refine si_cSi [.int x3] cal_X10_isDay gm_RX10_286 X hw hA hl.1 (c_X10_isDay l E F x3 q19.2 q20 eq20) ⟨⟨rfl, rfl⟩, Nat.le_of_ble_eq_true rfl, Nat.le_of_ble_eq_true rfl⟩ rfl rfl (Nat.le_of_ble_eq_true rfl) ⟨Nat.zero_le _, Nat.zero_le _⟩ dX10_lot_22 (fun H locs hw => ?_)
      refine lv_if_ne (tgt := 30) X.1 X.2.1 dX10_lot_25 (by decide) (fun c25 => ?_) (fun c25 => ?_)
      · have hf := si_in c25 hf
        refine lv_iload_n X.1 X.2.1 dX10_lot_30 rfl (lv_at hl 2 rfl) ?_
        refine lv_aload_n X.1 X.2.1 dX10_lot_31 rfl (lv_at hl 0 rfl) ?_
        refine si_getI X hw si_cl10 3 (by decide) gf_RX10_218 rfl rfl rfl dX10_lot_32 ?_
        refine lv_icmp_lt (tgt := 41) X.1 X.2.1 dX10_lot_35 (by decide) (fun c35 => ?_) (fun c35 => ?_)
        · have hf := si_ip c35 hf
          refine lv_iconst (v := 0) X.1 X.2.1 dX10_lot_41 (by decide) ?_
          refine lv_istore (lv' := [(4, .int 0), (0, .ref (E.2.1 87)), (1, .int x1), (2, .int x2), (3, .int x3)]) X.1 X.2.1 dX10_lot_42 hl (by decide) rfl (fun ls hl => ?_)
          refine lv_iconst (v := 0) X.1 X.2.1 dX10_lot_44 (by decide) ?_
          refine lv_istore (lv' := [(5, .int 0), (4, .int 0), (0, .ref (E.2.1 87)), (1, .int x1), (2, .int x2), (3, .int x3)]) X.1 X.2.1 dX10_lot_45 hl (by decide) rfl (fun ls hl => ?_)
          exact B47 F _ _ _ _ _ _ _ _ _ hf hw (lv_sub hl [2, 3, 4, 5, 1, 0] rfl)
        · have hf := si_in c35 hf
          refine lv_bipush (v := (-2)) X.1 X.2.1 dX10_lot_38 (by decide) ?_
          exact hret _ _ _ _ _ _ hf hw dX10_lot_40
      · have hf := si_ip c25 hf
        exact B28 _ _ _ _ hf hw (lv_sub hl [] rfl)
abbrev rm_X10_oneOf : Room := { frames := 0, cells := 0, slots := 0, locals := 0 }
set_option maxHeartbeats 4000000 in
set_option maxRecDepth 100000 in
theorem c_X10_oneOf (l : Launch) (E : si_Ev) (F : Nat) (x1 : Int32) (x2 : Int32) (S : si_St) (o : Int32 × si_St) (hf : f_X10_oneOf F x1 x2 S = some o) : si_Mi l E yX10_oneOf cX10_oneOf 3 (some .int) rm_X10_oneOf [.ref (E.2.1 87), .int x1, .int x2] S o := by
  refine si_ofWi (plainFor_of_name (by decide +kernel)) (Nat.le_of_ble_eq_true rfl) ?_
  intro p e s m args below meth c ls Q A X hw hA hl hret
  have hl : lv_has ls 3 [(0, .ref (E.2.1 87)), (1, .int x1), (2, .int x2)] := hl
  have B22 : ∀ (t0 : Int32) (S : si_St) (H : Heap) (locs : List Loc) (ls : Array Slot) , f_X10_oneOf_h22 F t0 S = some o → si_Ws E A s.heap S H locs → lv_has ls 3 [] → W p l e rm_X10_oneOf s m args below meth c H locs 0 0 Q (F0 m 22 ls [.int t0]) := by
    intro t0  S H locs ls  hf hw hl
    unfold f_X10_oneOf_h22 at hf
    exact hret _ _ _ _ _ _ hf hw dX10_oneOf_22
  unfold f_X10_oneOf at hf
  refine lv_iload_n X.1 X.2.1 dX10_oneOf_0 rfl (lv_at hl 1 rfl) ?_
  refine lv_iload_n X.1 X.2.1 dX10_oneOf_1 rfl (lv_at hl 2 rfl) ?_
  refine lv_iadd X.1 X.2.1 dX10_oneOf_2 ?_
  refine lv_iconst (v := 2) X.1 X.2.1 dX10_oneOf_3 (by decide) ?_
  refine lv_icmp_ge (tgt := 11) X.1 X.2.1 dX10_oneOf_4 (by decide) (fun c4 => ?_) (fun c4 => ?_)
  · have hf := si_ip c4 hf
    refine lv_aload_n X.1 X.2.1 dX10_oneOf_11 rfl (lv_at hl 0 rfl) ?_
    refine si_getR (k' := 108) (d := 21) X hw si_cl10 38 (by decide) gf_RX10_79 rfl rfl rfl (by decide) rfl dX10_oneOf_12 ?_
    refine lv_bipush (v := 13) X.1 X.2.1 dX10_oneOf_15 (by decide) ?_
    refine lv_iload_n X.1 X.2.1 dX10_oneOf_17 rfl (lv_at hl 1 rfl) ?_
    refine lv_imul X.1 X.2.1 dX10_oneOf_18 ?_
    refine lv_iload_n X.1 X.2.1 dX10_oneOf_19 rfl (lv_at hl 2 rfl) ?_
    refine lv_iadd X.1 X.2.1 dX10_oneOf_20 ?_
    obtain ⟨v1, ev1, hf⟩ := si_ob hf
    refine si_iald X hw rfl ev1 dX10_oneOf_21 ?_
    exact B22 _ _ _ _ _ hf hw (lv_sub hl [] rfl)
  · have hf := si_in c4 hf
    refine lv_iconst (v := 0) X.1 X.2.1 dX10_oneOf_7 (by decide) ?_
    refine lv_goto (tgt := 22) X.1 X.2.1 dX10_oneOf_8 (by decide) ?_
    exact B22 _ _ _ _ _ hf hw (lv_sub hl [] rfl)
abbrev rm_X10_bothOf : Room := { frames := 0, cells := 0, slots := 0, locals := 0 }
set_option maxHeartbeats 4000000 in
set_option maxRecDepth 100000 in
theorem c_X10_bothOf (l : Launch) (E : si_Ev) (F : Nat) (x1 : Int32) (x2 : Int32) (S : si_St) (o : Int32 × si_St) (hf : f_X10_bothOf F x1 x2 S = some o) : si_Mi l E yX10_bothOf cX10_bothOf 3 (some .int) rm_X10_bothOf [.ref (E.2.1 87), .int x1, .int x2] S o := by
  refine si_ofWi (plainFor_of_name (by decide +kernel)) (Nat.le_of_ble_eq_true rfl) ?_
  intro p e s m args below meth c ls Q A X hw hA hl hret
  have hl : lv_has ls 3 [(0, .ref (E.2.1 87)), (1, .int x1), (2, .int x2)] := hl
  have B23 : ∀ (t0 : Int32) (S : si_St) (H : Heap) (locs : List Loc) (ls : Array Slot) , f_X10_bothOf_h23 F t0 S = some o → si_Ws E A s.heap S H locs → lv_has ls 3 [] → W p l e rm_X10_bothOf s m args below meth c H locs 0 0 Q (F0 m 23 ls [.int t0]) := by
    intro t0  S H locs ls  hf hw hl
    unfold f_X10_bothOf_h23 at hf
    exact hret _ _ _ _ _ _ hf hw dX10_bothOf_23
  unfold f_X10_bothOf at hf
  refine lv_iconst (v := 2) X.1 X.2.1 dX10_bothOf_0 (by decide) ?_
  refine lv_iload_n X.1 X.2.1 dX10_bothOf_1 rfl (lv_at hl 1 rfl) ?_
  refine lv_imul X.1 X.2.1 dX10_bothOf_2 ?_
  refine lv_iload_n X.1 X.2.1 dX10_bothOf_3 rfl (lv_at hl 2 rfl) ?_
  refine lv_iadd X.1 X.2.1 dX10_bothOf_4 ?_
  refine lv_iconst (v := 2) X.1 X.2.1 dX10_bothOf_5 (by decide) ?_
  refine lv_icmp_ge (tgt := 13) X.1 X.2.1 dX10_bothOf_6 (by decide) (fun c6 => ?_) (fun c6 => ?_)
  · have hf := si_ip c6 hf
    refine lv_aload_n X.1 X.2.1 dX10_bothOf_13 rfl (lv_at hl 0 rfl) ?_
    refine si_getR (k' := 109) (d := 22) X hw si_cl10 39 (by decide) gf_RX10_82 rfl rfl rfl (by decide) rfl dX10_bothOf_14 ?_
    refine lv_iconst (v := 2) X.1 X.2.1 dX10_bothOf_17 (by decide) ?_
    refine lv_iload_n X.1 X.2.1 dX10_bothOf_18 rfl (lv_at hl 1 rfl) ?_
    refine lv_imul X.1 X.2.1 dX10_bothOf_19 ?_
    refine lv_iload_n X.1 X.2.1 dX10_bothOf_20 rfl (lv_at hl 2 rfl) ?_
    refine lv_iadd X.1 X.2.1 dX10_bothOf_21 ?_
    obtain ⟨v1, ev1, hf⟩ := si_ob hf
    refine si_iald X hw rfl ev1 dX10_bothOf_22 ?_
    exact B23 _ _ _ _ _ hf hw (lv_sub hl [] rfl)
  · have hf := si_in c6 hf
    refine lv_iconst (v := 0) X.1 X.2.1 dX10_bothOf_9 (by decide) ?_
    refine lv_goto (tgt := 23) X.1 X.2.1 dX10_bothOf_10 (by decide) ?_
    exact B23 _ _ _ _ _ hf hw (lv_sub hl [] rfl)
abbrev rm_X10_leastOne : Room := { frames := 1, cells := 0, slots := 0, locals := 22 }
set_option maxHeartbeats 4000000 in
set_option maxRecDepth 100000 in
theorem c_X10_leastOne (l : Launch) (E : si_Ev) (F : Nat) (x1 : Int32) (x2 : Int32) (x3 : Int32) (S : si_St) (o : Int32 × si_St) (hf : f_X10_leastOne F x1 x2 x3 S = some o) : si_Mi l E yX10_leastOne cX10_leastOne 12 (some .int) rm_X10_leastOne [.ref (E.2.1 87), .int x1, .int x2, .int x3] S o := by
  refine si_ofWi (plainFor_of_name (by decide +kernel)) (Nat.le_of_ble_eq_true rfl) ?_
  intro p e s m args below meth c ls Q A X hw hA hl hret
  have hl : lv_has ls 12 [(0, .ref (E.2.1 87)), (1, .int x1), (2, .int x2), (3, .int x3)] := hl
  have B7 : ∀ (n7 : Nat) (x1 : Int32) (x2 : Int32) (x3 : Int32) (x4 : Int32) (x5 : Int32) (S : si_St) (H : Heap) (locs : List Loc) (ls : Array Slot) , f_X10_leastOne_l7 F n7 x1 x2 x3 x4 x5 S = some o → si_Ws E A s.heap S H locs → lv_has ls 12 [(0, .ref (E.2.1 87)), (1, .int x1), (2, .int x2), (3, .int x3), (4, .int x4), (5, .int x5)] → W p l e rm_X10_leastOne s m args below meth c H locs 0 0 Q (F0 m 7 ls []) := by
    intro n7
    induction n7 with
    | zero => intro x1 x2 x3 x4 x5  S H locs ls  hf; cases hf
    | succ n7 ih7 =>
      have B16 : ∀ (n16 : Nat) (x1 : Int32) (x2 : Int32) (x3 : Int32) (x4 : Int32) (x5 : Int32) (x6 : Int32) (S : si_St) (H : Heap) (locs : List Loc) (ls : Array Slot) , f_X10_leastOne_l16 F (f_X10_leastOne_l7 F n7) n16 x1 x2 x3 x4 x5 x6 S = some o → si_Ws E A s.heap S H locs → lv_has ls 12 [(0, .ref (E.2.1 87)), (1, .int x1), (2, .int x2), (3, .int x3), (4, .int x4), (5, .int x5), (6, .int x6)] → W p l e rm_X10_leastOne s m args below meth c H locs 0 0 Q (F0 m 16 ls []) := by
        intro n16
        induction n16 with
        | zero => intro x1 x2 x3 x4 x5 x6  S H locs ls  hf; cases hf
        | succ n16 ih16 =>
          have B28 : ∀ (n28 : Nat) (x1 : Int32) (x2 : Int32) (x3 : Int32) (x4 : Int32) (x5 : Int32) (x6 : Int32) (x7 : Int32) (S : si_St) (H : Heap) (locs : List Loc) (ls : Array Slot) , f_X10_leastOne_l28 F (f_X10_leastOne_l7 F n7) (f_X10_leastOne_l16 F (f_X10_leastOne_l7 F n7) n16) n28 x1 x2 x3 x4 x5 x6 x7 S = some o → si_Ws E A s.heap S H locs → lv_has ls 12 [(0, .ref (E.2.1 87)), (1, .int x1), (2, .int x2), (3, .int x3), (4, .int x4), (5, .int x5), (6, .int x6), (7, .int x7)] → W p l e rm_X10_leastOne s m args below meth c H locs 0 0 Q (F0 m 28 ls []) := by
            intro n28
            induction n28 with
            | zero => intro x1 x2 x3 x4 x5 x6 x7  S H locs ls  hf; cases hf
            | succ n28 ih28 =>
              have B37 : ∀ (n37 : Nat) (x1 : Int32) (x2 : Int32) (x3 : Int32) (x4 : Int32) (x5 : Int32) (x6 : Int32) (x7 : Int32) (x8 : Int32) (S : si_St) (H : Heap) (locs : List Loc) (ls : Array Slot) , f_X10_leastOne_l37 F (f_X10_leastOne_l7 F n7) (f_X10_leastOne_l16 F (f_X10_leastOne_l7 F n7) n16) (f_X10_leastOne_l28 F (f_X10_leastOne_l7 F n7) (f_X10_leastOne_l16 F (f_X10_leastOne_l7 F n7) n16) n28) n37 x1 x2 x3 x4 x5 x6 x7 x8 S = some o → si_Ws E A s.heap S H locs → lv_has ls 12 [(0, .ref (E.2.1 87)), (1, .int x1), (2, .int x2), (3, .int x3), (4, .int x4), (5, .int x5), (6, .int x6), (7, .int x7), (8, .int x8)] → W p l e rm_X10_leastOne s m args below meth c H locs 0 0 Q (F0 m 37 ls []) := by
                intro n37
                induction n37 with
                | zero => intro x1 x2 x3 x4 x5 x6 x7 x8  S H locs ls  hf; cases hf
                | succ n37 ih37 =>
                  have B178 : ∀ (x1 : Int32) (x2 : Int32) (x3 : Int32) (x4 : Int32) (x5 : Int32) (x6 : Int32) (x7 : Int32) (x8 : Int32) (S : si_St) (H : Heap) (locs : List Loc) (ls : Array Slot) , f_X10_leastOne_h178 F (f_X10_leastOne_l7 F n7) (f_X10_leastOne_l16 F (f_X10_leastOne_l7 F n7) n16) (f_X10_leastOne_l28 F (f_X10_leastOne_l7 F n7) (f_X10_leastOne_l16 F (f_X10_leastOne_l7 F n7) n16) n28) (f_X10_leastOne_l37 F (f_X10_leastOne_l7 F n7) (f_X10_leastOne_l16 F (f_X10_leastOne_l7 F n7) n16) (f_X10_leastOne_l28 F (f_X10_leastOne_l7 F n7) (f_X10_leastOne_l16 F (f_X10_leastOne_l7 F n7) n16) n28) n37) x1 x2 x3 x4 x5 x6 x7 x8 S = some o → si_Ws E A s.heap S H locs → lv_has ls 12 [(0, .ref (E.2.1 87)), (1, .int x1), (2, .int x2), (3, .int x3), (4, .int x4), (5, .int x5), (6, .int x6), (7, .int x7), (8, .int x8)] → W p l e rm_X10_leastOne s m args below meth c H locs 0 0 Q (F0 m 178 ls []) := by
                    intro x1 x2 x3 x4 x5 x6 x7 x8  S H locs ls  hf hw hl
                    unfold f_X10_leastOne_h178 at hf
                    obtain ⟨v1, ev1, hf⟩ := si_ob hf
                    refine lv_iinc (v := v1) (lv' := [(8, .int v1), (0, .ref (E.2.1 87)), (1, .int x1), (2, .int x2), (3, .int x3), (4, .int x4), (5, .int x5), (6, .int x6), (7, .int x7)]) X.1 X.2.1 dX10_leastOne_178 hl (k := 8) rfl (Option.some.inj ev1) (by decide) rfl (fun ls hl => ?_)
                    refine lv_goto (tgt := 37) X.1 X.2.1 dX10_leastOne_181 (by decide) ?_
                    exact ih37 _ _ _ _ _ _ _ _ _ _ _ _ hf hw (lv_sub hl [1, 2, 3, 4, 5, 6, 7, 8, 0] rfl)
                  have B176 : ∀ (x1 : Int32) (x2 : Int32) (x3 : Int32) (x5 : Int32) (x6 : Int32) (x7 : Int32) (x8 : Int32) (t0 : Int32) (S : si_St) (H : Heap) (locs : List Loc) (ls : Array Slot) , f_X10_leastOne_h176 F (f_X10_leastOne_l7 F n7) (f_X10_leastOne_l16 F (f_X10_leastOne_l7 F n7) n16) (f_X10_leastOne_l28 F (f_X10_leastOne_l7 F n7) (f_X10_leastOne_l16 F (f_X10_leastOne_l7 F n7) n16) n28) (f_X10_leastOne_l37 F (f_X10_leastOne_l7 F n7) (f_X10_leastOne_l16 F (f_X10_leastOne_l7 F n7) n16) (f_X10_leastOne_l28 F (f_X10_leastOne_l7 F n7) (f_X10_leastOne_l16 F (f_X10_leastOne_l7 F n7) n16) n28) n37) x1 x2 x3 x5 x6 x7 x8 t0 S = some o → si_Ws E A s.heap S H locs → lv_has ls 12 [(0, .ref (E.2.1 87)), (1, .int x1), (2, .int x2), (3, .int x3), (5, .int x5), (6, .int x6), (7, .int x7), (8, .int x8)] → W p l e rm_X10_leastOne s m args below meth c H locs 0 0 Q (F0 m 176 ls [.int t0]) := by
                    intro x1 x2 x3 x5 x6 x7 x8 t0  S H locs ls  hf hw hl
                    unfold f_X10_leastOne_h176 at hf
                    refine lv_istore (lv' := [(4, .int t0), (0, .ref (E.2.1 87)), (1, .int x1), (2, .int x2), (3, .int x3), (5, .int x5), (6, .int x6), (7, .int x7), (8, .int x8)]) X.1 X.2.1 dX10_leastOne_176 hl (by decide) rfl (fun ls hl => ?_)
                    exact B178 _ _ _ _ _ _ _ _ _ _ _ _ hf hw (lv_sub hl [1, 2, 3, 4, 0, 5, 6, 7, 8] rfl)
                  have B100 : ∀ (x1 : Int32) (x2 : Int32) (x3 : Int32) (x4 : Int32) (x5 : Int32) (x6 : Int32) (x7 : Int32) (x8 : Int32) (x9 : Int32) (t0 : Int32) (S : si_St) (H : Heap) (locs : List Loc) (ls : Array Slot) , f_X10_leastOne_h100 F (f_X10_leastOne_l7 F n7) (f_X10_leastOne_l16 F (f_X10_leastOne_l7 F n7) n16) (f_X10_leastOne_l28 F (f_X10_leastOne_l7 F n7) (f_X10_leastOne_l16 F (f_X10_leastOne_l7 F n7) n16) n28) (f_X10_leastOne_l37 F (f_X10_leastOne_l7 F n7) (f_X10_leastOne_l16 F (f_X10_leastOne_l7 F n7) n16) (f_X10_leastOne_l28 F (f_X10_leastOne_l7 F n7) (f_X10_leastOne_l16 F (f_X10_leastOne_l7 F n7) n16) n28) n37) x1 x2 x3 x4 x5 x6 x7 x8 x9 t0 S = some o → si_Ws E A s.heap S H locs → lv_has ls 12 [(0, .ref (E.2.1 87)), (1, .int x1), (2, .int x2), (3, .int x3), (4, .int x4), (5, .int x5), (6, .int x6), (7, .int x7), (8, .int x8), (9, .int x9)] → W p l e rm_X10_leastOne s m args below meth c H locs 0 0 Q (F0 m 100 ls [.int t0]) := by
                    intro x1 x2 x3 x4 x5 x6 x7 x8 x9 t0  S H locs ls  hf hw hl
                    unfold f_X10_leastOne_h100 at hf
                    refine lv_istore (lv' := [(10, .int t0), (0, .ref (E.2.1 87)), (1, .int x1), (2, .int x2), (3, .int x3), (4, .int x4), (5, .int x5), (6, .int x6), (7, .int x7), (8, .int x8), (9, .int x9)]) X.1 X.2.1 dX10_leastOne_100 hl (by decide) rfl (fun ls hl => ?_)
                    refine lv_iload X.1 X.2.1 dX10_leastOne_102 (lv_at hl 0 rfl) ?_
                    refine lv_if_eq (tgt := 178) X.1 X.2.1 dX10_leastOne_104 (by decide) (fun c104 => ?_) (fun c104 => ?_)
                    · have hf := si_ip c104 hf
                      exact B178 _ _ _ _ _ _ _ _ _ _ _ _ hf hw (lv_sub hl [1, 2, 3, 4, 5, 6, 7, 8, 9] rfl)
                    · have hf := si_in c104 hf
                      refine lv_iload X.1 X.2.1 dX10_leastOne_107 (lv_at hl 10 rfl) ?_
                      obtain ⟨q2, eq2, hf⟩ := si_ob hf
                      refine si_cSi [.int x9] cal_X10_size gm_RX10_268 X hw hA hl.1 (c_X10_size l E F x9 S q2 eq2) ⟨⟨rfl, rfl⟩, Nat.le_of_ble_eq_true rfl, Nat.le_of_ble_eq_true rfl⟩ rfl rfl (Nat.le_of_ble_eq_true rfl) ⟨Nat.zero_le _, Nat.zero_le _⟩ dX10_leastOne_109 (fun H locs hw => ?_)
                      refine lv_iload_n X.1 X.2.1 dX10_leastOne_112 rfl (lv_at hl 4 rfl) ?_
                      refine lv_icmp_gt (tgt := 178) X.1 X.2.1 dX10_leastOne_113 (by decide) (fun c113 => ?_) (fun c113 => ?_)
                      · have hf := si_ip c113 hf
                        exact B178 _ _ _ _ _ _ _ _ _ _ _ _ hf hw (lv_sub hl [1, 2, 3, 4, 5, 6, 7, 8, 9] rfl)
                      · have hf := si_in c113 hf
                        refine lv_aload_n X.1 X.2.1 dX10_leastOne_116 rfl (lv_at hl 1 rfl) ?_
                        refine lv_iload_n X.1 X.2.1 dX10_leastOne_117 rfl (lv_at hl 2 rfl) ?_
                        refine lv_iload X.1 X.2.1 dX10_leastOne_118 (lv_at hl 6 rfl) ?_
                        refine lv_isub X.1 X.2.1 dX10_leastOne_120 ?_
                        refine lv_iload X.1 X.2.1 dX10_leastOne_121 (lv_at hl 7 rfl) ?_
                        refine lv_isub X.1 X.2.1 dX10_leastOne_123 ?_
                        refine lv_iload_n X.1 X.2.1 dX10_leastOne_124 rfl (lv_at hl 3 rfl) ?_
                        refine lv_iload X.1 X.2.1 dX10_leastOne_125 (lv_at hl 8 rfl) ?_
                        refine lv_isub X.1 X.2.1 dX10_leastOne_127 ?_
                        refine lv_iload X.1 X.2.1 dX10_leastOne_128 (lv_at hl 9 rfl) ?_
                        refine lv_isub X.1 X.2.1 dX10_leastOne_130 ?_
                        obtain ⟨q3, eq3, hf⟩ := si_ob hf
                        refine si_cVi [.int ((x1 - x5) - x6), .int ((x2 - x7) - x8)] cal_X10_oneOf gm_RX10_314 X hw hA hl.1 (c_X10_oneOf l E F ((x1 - x5) - x6) ((x2 - x7) - x8) q2.2 q3 eq3) si_cl10 rfl ⟨⟨rfl, rfl⟩, Nat.le_of_ble_eq_true rfl, Nat.le_of_ble_eq_true rfl⟩ rfl rfl (Nat.le_of_ble_eq_true rfl) ⟨Nat.zero_le _, Nat.zero_le _⟩ dX10_leastOne_131 (fun H locs hw => ?_)
                        refine lv_aload_n X.1 X.2.1 dX10_leastOne_134 rfl (lv_at hl 1 rfl) ?_
                        refine lv_iload X.1 X.2.1 dX10_leastOne_135 (lv_at hl 6 rfl) ?_
                        refine lv_iload X.1 X.2.1 dX10_leastOne_137 (lv_at hl 9 rfl) ?_
                        obtain ⟨q4, eq4, hf⟩ := si_ob hf
                        refine si_cVi [.int x5, .int x8] cal_X10_oneOf gm_RX10_314 X hw hA hl.1 (c_X10_oneOf l E F x5 x8 q3.2 q4 eq4) si_cl10 rfl ⟨⟨rfl, rfl⟩, Nat.le_of_ble_eq_true rfl, Nat.le_of_ble_eq_true rfl⟩ rfl rfl (Nat.le_of_ble_eq_true rfl) ⟨Nat.zero_le _, Nat.zero_le _⟩ dX10_leastOne_139 (fun H locs hw => ?_)
                        refine lv_aload_n X.1 X.2.1 dX10_leastOne_142 rfl (lv_at hl 1 rfl) ?_
                        refine lv_iload X.1 X.2.1 dX10_leastOne_143 (lv_at hl 7 rfl) ?_
                        refine lv_iload X.1 X.2.1 dX10_leastOne_145 (lv_at hl 8 rfl) ?_
                        obtain ⟨q5, eq5, hf⟩ := si_ob hf
                        refine si_cVi [.int x6, .int x7] cal_X10_oneOf gm_RX10_314 X hw hA hl.1 (c_X10_oneOf l E F x6 x7 q4.2 q5 eq5) si_cl10 rfl ⟨⟨rfl, rfl⟩, Nat.le_of_ble_eq_true rfl, Nat.le_of_ble_eq_true rfl⟩ rfl rfl (Nat.le_of_ble_eq_true rfl) ⟨Nat.zero_le _, Nat.zero_le _⟩ dX10_leastOne_147 (fun H locs hw => ?_)
                        obtain ⟨q6, eq6, hf⟩ := si_ob hf
                        refine si_cSi [.int q4.1, .int q5.1] cal_X10_worse gm_RX10_317 X hw hA hl.1 (c_X10_worse l E F q4.1 q5.1 q5.2 q6 eq6) ⟨⟨rfl, rfl⟩, Nat.le_of_ble_eq_true rfl, Nat.le_of_ble_eq_true rfl⟩ rfl rfl (Nat.le_of_ble_eq_true rfl) ⟨Nat.zero_le _, Nat.zero_le _⟩ dX10_leastOne_150 (fun H locs hw => ?_)
                        obtain ⟨q7, eq7, hf⟩ := si_ob hf
                        refine si_cSi [.int q3.1, .int q6.1] cal_X10_worse gm_RX10_317 X hw hA hl.1 (c_X10_worse l E F q3.1 q6.1 q6.2 q7 eq7) ⟨⟨rfl, rfl⟩, Nat.le_of_ble_eq_true rfl, Nat.le_of_ble_eq_true rfl⟩ rfl rfl (Nat.le_of_ble_eq_true rfl) ⟨Nat.zero_le _, Nat.zero_le _⟩ dX10_leastOne_153 (fun H locs hw => ?_)
                        refine lv_istore (lv' := [(11, .int q7.1), (10, .int t0), (0, .ref (E.2.1 87)), (1, .int x1), (2, .int x2), (3, .int x3), (4, .int x4), (5, .int x5), (6, .int x6), (7, .int x7), (8, .int x8), (9, .int x9)]) X.1 X.2.1 dX10_leastOne_156 hl (by decide) rfl (fun ls hl => ?_)
                        refine lv_iload X.1 X.2.1 dX10_leastOne_158 (lv_at hl 0 rfl) ?_
                        refine lv_iconst (v := 1) X.1 X.2.1 dX10_leastOne_160 (by decide) ?_
                        refine lv_iadd X.1 X.2.1 dX10_leastOne_161 ?_
                        refine lv_iload X.1 X.2.1 dX10_leastOne_162 (lv_at hl 6 rfl) ?_
                        refine lv_icmp_ge (tgt := 174) X.1 X.2.1 dX10_leastOne_164 (by decide) (fun c164 => ?_) (fun c164 => ?_)
                        · have hf := si_ip c164 hf
                          refine lv_iload X.1 X.2.1 dX10_leastOne_174 (lv_at hl 6 rfl) ?_
                          exact B176 _ _ _ _ _ _ _ _ _ _ _ _ hf hw (lv_sub hl [2, 3, 4, 5, 7, 8, 9, 10] rfl)
                        · have hf := si_in c164 hf
                          refine lv_iload X.1 X.2.1 dX10_leastOne_167 (lv_at hl 0 rfl) ?_
                          refine lv_iconst (v := 1) X.1 X.2.1 dX10_leastOne_169 (by decide) ?_
                          refine lv_iadd X.1 X.2.1 dX10_leastOne_170 ?_
                          refine lv_goto (tgt := 176) X.1 X.2.1 dX10_leastOne_171 (by decide) ?_
                          exact B176 _ _ _ _ _ _ _ _ _ _ _ _ hf hw (lv_sub hl [2, 3, 4, 5, 7, 8, 9, 10] rfl)
                  have B99 : ∀ (x1 : Int32) (x2 : Int32) (x3 : Int32) (x4 : Int32) (x5 : Int32) (x6 : Int32) (x7 : Int32) (x8 : Int32) (x9 : Int32) (S : si_St) (H : Heap) (locs : List Loc) (ls : Array Slot) , f_X10_leastOne_h99 F (f_X10_leastOne_l7 F n7) (f_X10_leastOne_l16 F (f_X10_leastOne_l7 F n7) n16) (f_X10_leastOne_l28 F (f_X10_leastOne_l7 F n7) (f_X10_leastOne_l16 F (f_X10_leastOne_l7 F n7) n16) n28) (f_X10_leastOne_l37 F (f_X10_leastOne_l7 F n7) (f_X10_leastOne_l16 F (f_X10_leastOne_l7 F n7) n16) (f_X10_leastOne_l28 F (f_X10_leastOne_l7 F n7) (f_X10_leastOne_l16 F (f_X10_leastOne_l7 F n7) n16) n28) n37) x1 x2 x3 x4 x5 x6 x7 x8 x9 S = some o → si_Ws E A s.heap S H locs → lv_has ls 12 [(0, .ref (E.2.1 87)), (1, .int x1), (2, .int x2), (3, .int x3), (4, .int x4), (5, .int x5), (6, .int x6), (7, .int x7), (8, .int x8), (9, .int x9)] → W p l e rm_X10_leastOne s m args below meth c H locs 0 0 Q (F0 m 99 ls []) := by
                    intro x1 x2 x3 x4 x5 x6 x7 x8 x9  S H locs ls  hf hw hl
                    unfold f_X10_leastOne_h99 at hf
                    refine lv_iconst (v := 0) X.1 X.2.1 dX10_leastOne_99 (by decide) ?_
                    exact B100 _ _ _ _ _ _ _ _ _ _ _ _ _ _ hf hw (lv_sub hl [0, 1, 2, 3, 4, 5, 6, 7, 8, 9] rfl)
                  intro x1 x2 x3 x4 x5 x6 x7 x8  S H locs ls  hf hw hl
                  have hf : f_X10_leastOne_h37 F (f_X10_leastOne_l7 F n7) (f_X10_leastOne_l16 F (f_X10_leastOne_l7 F n7) n16) (f_X10_leastOne_l28 F (f_X10_leastOne_l7 F n7) (f_X10_leastOne_l16 F (f_X10_leastOne_l7 F n7) n16) n28) (f_X10_leastOne_l37 F (f_X10_leastOne_l7 F n7) (f_X10_leastOne_l16 F (f_X10_leastOne_l7 F n7) n16) (f_X10_leastOne_l28 F (f_X10_leastOne_l7 F n7) (f_X10_leastOne_l16 F (f_X10_leastOne_l7 F n7) n16) n28) n37) x1 x2 x3 x4 x5 x6 x7 x8 S = some o := hf
                  unfold f_X10_leastOne_h37 at hf
                  refine lv_iload X.1 X.2.1 dX10_leastOne_37 (lv_at hl 7 rfl) ?_
                  refine lv_iload X.1 X.2.1 dX10_leastOne_39 (lv_at hl 8 rfl) ?_
                  refine lv_iadd X.1 X.2.1 dX10_leastOne_41 ?_
                  refine lv_iload_n X.1 X.2.1 dX10_leastOne_42 rfl (lv_at hl 2 rfl) ?_
                  refine lv_icmp_gt (tgt := 184) X.1 X.2.1 dX10_leastOne_43 (by decide) (fun c43 => ?_) (fun c43 => ?_)
                  · have hf := si_ip c43 hf
                    obtain ⟨v8, ev8, hf⟩ := si_ob hf
                    refine lv_iinc (v := v8) (lv' := [(7, .int v8), (0, .ref (E.2.1 87)), (1, .int x1), (2, .int x2), (3, .int x3), (4, .int x4), (5, .int x5), (6, .int x6), (8, .int x8)]) X.1 X.2.1 dX10_leastOne_184 hl (k := 7) rfl (Option.some.inj ev8) (by decide) rfl (fun ls hl => ?_)
                    refine lv_goto (tgt := 28) X.1 X.2.1 dX10_leastOne_187 (by decide) ?_
                    exact ih28 _ _ _ _ _ _ _ _ _ _ _ hf hw (lv_sub hl [1, 2, 3, 4, 5, 6, 7, 0] rfl)
                  · have hf := si_in c43 hf
                    refine lv_iload X.1 X.2.1 dX10_leastOne_46 (lv_at hl 5 rfl) ?_
                    refine lv_iload X.1 X.2.1 dX10_leastOne_48 (lv_at hl 7 rfl) ?_
                    refine lv_iadd X.1 X.2.1 dX10_leastOne_50 ?_
                    refine lv_iload X.1 X.2.1 dX10_leastOne_51 (lv_at hl 6 rfl) ?_
                    refine lv_isub X.1 X.2.1 dX10_leastOne_53 ?_
                    refine lv_iload X.1 X.2.1 dX10_leastOne_54 (lv_at hl 8 rfl) ?_
                    refine lv_isub X.1 X.2.1 dX10_leastOne_56 ?_
                    obtain ⟨v9, ev9, hf⟩ := si_ob hf
                    refine si_nmI ev9 ?_
                    refine lv_istore (lv' := [(9, .int v9), (0, .ref (E.2.1 87)), (1, .int x1), (2, .int x2), (3, .int x3), (4, .int x4), (5, .int x5), (6, .int x6), (7, .int x7), (8, .int x8)]) X.1 X.2.1 dX10_leastOne_57 hl (by decide) rfl (fun ls hl => ?_)
                    refine lv_iload X.1 X.2.1 dX10_leastOne_59 (lv_at hl 6 rfl) ?_
                    refine lv_iload X.1 X.2.1 dX10_leastOne_61 (lv_at hl 9 rfl) ?_
                    refine lv_iadd X.1 X.2.1 dX10_leastOne_63 ?_
                    refine lv_iload_n X.1 X.2.1 dX10_leastOne_64 rfl (lv_at hl 2 rfl) ?_
                    refine lv_iload_n X.1 X.2.1 dX10_leastOne_65 rfl (lv_at hl 3 rfl) ?_
                    refine lv_iadd X.1 X.2.1 dX10_leastOne_66 ?_
                    refine lv_icmp_ge (tgt := 99) X.1 X.2.1 dX10_leastOne_67 (by decide) (fun c67 => ?_) (fun c67 => ?_)
                    · have hf := si_ip c67 hf
                      exact B99 _ _ _ _ _ _ _ _ _ _ _ _ _ hf hw (lv_sub hl [1, 2, 3, 4, 5, 6, 7, 8, 9, 0] rfl)
                    · have hf := si_in c67 hf
                      refine lv_iload X.1 X.2.1 dX10_leastOne_70 (lv_at hl 7 rfl) ?_
                      refine lv_iload X.1 X.2.1 dX10_leastOne_72 (lv_at hl 8 rfl) ?_
                      refine lv_iadd X.1 X.2.1 dX10_leastOne_74 ?_
                      refine lv_iload_n X.1 X.2.1 dX10_leastOne_75 rfl (lv_at hl 2 rfl) ?_
                      refine lv_iload_n X.1 X.2.1 dX10_leastOne_76 rfl (lv_at hl 3 rfl) ?_
                      refine lv_iadd X.1 X.2.1 dX10_leastOne_77 ?_
                      refine lv_icmp_ge (tgt := 99) X.1 X.2.1 dX10_leastOne_78 (by decide) (fun c78 => ?_) (fun c78 => ?_)
                      · have hf := si_ip c78 hf
                        exact B99 _ _ _ _ _ _ _ _ _ _ _ _ _ hf hw (lv_sub hl [1, 2, 3, 4, 5, 6, 7, 8, 9, 0] rfl)
                      · have hf := si_in c78 hf
                        refine lv_iload X.1 X.2.1 dX10_leastOne_81 (lv_at hl 6 rfl) ?_
                        refine lv_iload X.1 X.2.1 dX10_leastOne_83 (lv_at hl 7 rfl) ?_
                        refine lv_iadd X.1 X.2.1 dX10_leastOne_85 ?_
                        refine lv_iload X.1 X.2.1 dX10_leastOne_86 (lv_at hl 8 rfl) ?_
                        refine lv_iadd X.1 X.2.1 dX10_leastOne_88 ?_
                        refine lv_iload X.1 X.2.1 dX10_leastOne_89 (lv_at hl 9 rfl) ?_
                        refine lv_iadd X.1 X.2.1 dX10_leastOne_91 ?_
                        refine lv_if_le (tgt := 99) X.1 X.2.1 dX10_leastOne_92 (by decide) (fun c92 => ?_) (fun c92 => ?_)
                        · have hf := si_ip c92 hf
                          exact B99 _ _ _ _ _ _ _ _ _ _ _ _ _ hf hw (lv_sub hl [1, 2, 3, 4, 5, 6, 7, 8, 9, 0] rfl)
                        · have hf := si_in c92 hf
                          refine lv_iconst (v := 1) X.1 X.2.1 dX10_leastOne_95 (by decide) ?_
                          refine lv_goto (tgt := 100) X.1 X.2.1 dX10_leastOne_96 (by decide) ?_
                          exact B100 _ _ _ _ _ _ _ _ _ _ _ _ _ _ hf hw (lv_sub hl [1, 2, 3, 4, 5, 6, 7, 8, 9, 0] rfl)
              intro x1 x2 x3 x4 x5 x6 x7  S H locs ls  hf hw hl
              have hf : f_X10_leastOne_h28 F (f_X10_leastOne_l7 F n7) (f_X10_leastOne_l16 F (f_X10_leastOne_l7 F n7) n16) (f_X10_leastOne_l28 F (f_X10_leastOne_l7 F n7) (f_X10_leastOne_l16 F (f_X10_leastOne_l7 F n7) n16) n28) x1 x2 x3 x4 x5 x6 x7 S = some o := hf
              unfold f_X10_leastOne_h28 at hf
              refine lv_iload X.1 X.2.1 dX10_leastOne_28 (lv_at hl 7 rfl) ?_
              refine lv_iload_n X.1 X.2.1 dX10_leastOne_30 rfl (lv_at hl 2 rfl) ?_
              refine lv_icmp_gt (tgt := 190) X.1 X.2.1 dX10_leastOne_31 (by decide) (fun c31 => ?_) (fun c31 => ?_)
              · have hf := si_ip c31 hf
                obtain ⟨v10, ev10, hf⟩ := si_ob hf
                refine lv_iinc (v := v10) (lv' := [(6, .int v10), (0, .ref (E.2.1 87)), (1, .int x1), (2, .int x2), (3, .int x3), (4, .int x4), (5, .int x5), (7, .int x7)]) X.1 X.2.1 dX10_leastOne_190 hl (k := 6) rfl (Option.some.inj ev10) (by decide) rfl (fun ls hl => ?_)
                refine lv_goto (tgt := 16) X.1 X.2.1 dX10_leastOne_193 (by decide) ?_
                exact ih16 _ _ _ _ _ _ _ _ _ _ hf hw (lv_sub hl [1, 2, 3, 4, 5, 6, 0] rfl)
              · have hf := si_in c31 hf
                refine lv_iconst (v := 0) X.1 X.2.1 dX10_leastOne_34 (by decide) ?_
                refine lv_istore (lv' := [(8, .int 0), (0, .ref (E.2.1 87)), (1, .int x1), (2, .int x2), (3, .int x3), (4, .int x4), (5, .int x5), (6, .int x6), (7, .int x7)]) X.1 X.2.1 dX10_leastOne_35 hl (by decide) rfl (fun ls hl => ?_)
                exact B37 F _ _ _ _ _ _ _ _ _ _ _ _ hf hw (lv_sub hl [1, 2, 3, 4, 5, 6, 7, 8, 0] rfl)
          intro x1 x2 x3 x4 x5 x6  S H locs ls  hf hw hl
          have hf : f_X10_leastOne_h16 F (f_X10_leastOne_l7 F n7) (f_X10_leastOne_l16 F (f_X10_leastOne_l7 F n7) n16) x1 x2 x3 x4 x5 x6 S = some o := hf
          unfold f_X10_leastOne_h16 at hf
          refine lv_iload X.1 X.2.1 dX10_leastOne_16 (lv_at hl 5 rfl) ?_
          refine lv_iload X.1 X.2.1 dX10_leastOne_18 (lv_at hl 6 rfl) ?_
          refine lv_iadd X.1 X.2.1 dX10_leastOne_20 ?_
          refine lv_iload_n X.1 X.2.1 dX10_leastOne_21 rfl (lv_at hl 1 rfl) ?_
          refine lv_icmp_gt (tgt := 196) X.1 X.2.1 dX10_leastOne_22 (by decide) (fun c22 => ?_) (fun c22 => ?_)
          · have hf := si_ip c22 hf
            obtain ⟨v11, ev11, hf⟩ := si_ob hf
            refine lv_iinc (v := v11) (lv' := [(5, .int v11), (0, .ref (E.2.1 87)), (1, .int x1), (2, .int x2), (3, .int x3), (4, .int x4), (6, .int x6)]) X.1 X.2.1 dX10_leastOne_196 hl (k := 5) rfl (Option.some.inj ev11) (by decide) rfl (fun ls hl => ?_)
            refine lv_goto (tgt := 7) X.1 X.2.1 dX10_leastOne_199 (by decide) ?_
            exact ih7 _ _ _ _ _ _ _ _ _ hf hw (lv_sub hl [1, 2, 3, 4, 5, 0] rfl)
          · have hf := si_in c22 hf
            refine lv_iconst (v := 0) X.1 X.2.1 dX10_leastOne_25 (by decide) ?_
            refine lv_istore (lv' := [(7, .int 0), (0, .ref (E.2.1 87)), (1, .int x1), (2, .int x2), (3, .int x3), (4, .int x4), (5, .int x5), (6, .int x6)]) X.1 X.2.1 dX10_leastOne_26 hl (by decide) rfl (fun ls hl => ?_)
            exact B28 F _ _ _ _ _ _ _ _ _ _ _ hf hw (lv_sub hl [1, 2, 3, 4, 5, 6, 7, 0] rfl)
      intro x1 x2 x3 x4 x5  S H locs ls  hf hw hl
      have hf : f_X10_leastOne_h7 F (f_X10_leastOne_l7 F n7) x1 x2 x3 x4 x5 S = some o := hf
      unfold f_X10_leastOne_h7 at hf
      refine lv_iload X.1 X.2.1 dX10_leastOne_7 (lv_at hl 5 rfl) ?_
      refine lv_iload_n X.1 X.2.1 dX10_leastOne_9 rfl (lv_at hl 1 rfl) ?_
      refine lv_icmp_gt (tgt := 202) X.1 X.2.1 dX10_leastOne_10 (by decide) (fun c10 => ?_) (fun c10 => ?_)
      · have hf := si_ip c10 hf
        refine lv_iload X.1 X.2.1 dX10_leastOne_202 (lv_at hl 4 rfl) ?_
        exact hret _ _ _ _ _ _ hf hw dX10_leastOne_204
      · have hf := si_in c10 hf
        refine lv_iconst (v := 0) X.1 X.2.1 dX10_leastOne_13 (by decide) ?_
        refine lv_istore (lv' := [(6, .int 0), (0, .ref (E.2.1 87)), (1, .int x1), (2, .int x2), (3, .int x3), (4, .int x4), (5, .int x5)]) X.1 X.2.1 dX10_leastOne_14 hl (by decide) rfl (fun ls hl => ?_)
        exact B16 F _ _ _ _ _ _ _ _ _ _ hf hw (lv_sub hl [1, 2, 3, 4, 5, 6, 0] rfl)
  unfold f_X10_leastOne at hf
  refine lv_bipush (v := 99) X.1 X.2.1 dX10_leastOne_0 (by decide) ?_
  refine lv_istore (lv' := [(4, .int 99), (0, .ref (E.2.1 87)), (1, .int x1), (2, .int x2), (3, .int x3)]) X.1 X.2.1 dX10_leastOne_2 hl (by decide) rfl (fun ls hl => ?_)
  refine lv_iconst (v := 0) X.1 X.2.1 dX10_leastOne_4 (by decide) ?_
  refine lv_istore (lv' := [(5, .int 0), (4, .int 99), (0, .ref (E.2.1 87)), (1, .int x1), (2, .int x2), (3, .int x3)]) X.1 X.2.1 dX10_leastOne_5 hl (by decide) rfl (fun ls hl => ?_)
  exact B7 F _ _ _ _ _ _ _ _ _ hf hw (lv_sub hl [2, 3, 4, 5, 1, 0] rfl)
abbrev rm_X10_leastBoth : Room := { frames := 1, cells := 0, slots := 0, locals := 22 }
set_option maxHeartbeats 4000000 in
set_option maxRecDepth 100000 in
theorem c_X10_leastBoth (l : Launch) (E : si_Ev) (F : Nat) (x1 : Int32) (x2 : Int32) (x3 : Int32) (S : si_St) (o : Int32 × si_St) (hf : f_X10_leastBoth F x1 x2 x3 S = some o) : si_Mi l E yX10_leastBoth cX10_leastBoth 8 (some .int) rm_X10_leastBoth [.ref (E.2.1 87), .int x1, .int x2, .int x3] S o := by
  refine si_ofWi (plainFor_of_name (by decide +kernel)) (Nat.le_of_ble_eq_true rfl) ?_
  intro p e s m args below meth c ls Q A X hw hA hl hret
  have hl : lv_has ls 8 [(0, .ref (E.2.1 87)), (1, .int x1), (2, .int x2), (3, .int x3)] := hl
  have B7 : ∀ (n7 : Nat) (x1 : Int32) (x2 : Int32) (x3 : Int32) (x4 : Int32) (x5 : Int32) (S : si_St) (H : Heap) (locs : List Loc) (ls : Array Slot) , f_X10_leastBoth_l7 F n7 x1 x2 x3 x4 x5 S = some o → si_Ws E A s.heap S H locs → lv_has ls 8 [(0, .ref (E.2.1 87)), (1, .int x1), (2, .int x2), (3, .int x3), (4, .int x4), (5, .int x5)] → W p l e rm_X10_leastBoth s m args below meth c H locs 0 0 Q (F0 m 7 ls []) := by
    intro n7
    induction n7 with
    | zero => intro x1 x2 x3 x4 x5  S H locs ls  hf; cases hf
    | succ n7 ih7 =>
      have B16 : ∀ (n16 : Nat) (x1 : Int32) (x2 : Int32) (x3 : Int32) (x4 : Int32) (x5 : Int32) (x6 : Int32) (S : si_St) (H : Heap) (locs : List Loc) (ls : Array Slot) , f_X10_leastBoth_l16 F (f_X10_leastBoth_l7 F n7) n16 x1 x2 x3 x4 x5 x6 S = some o → si_Ws E A s.heap S H locs → lv_has ls 8 [(0, .ref (E.2.1 87)), (1, .int x1), (2, .int x2), (3, .int x3), (4, .int x4), (5, .int x5), (6, .int x6)] → W p l e rm_X10_leastBoth s m args below meth c H locs 0 0 Q (F0 m 16 ls []) := by
        intro n16
        induction n16 with
        | zero => intro x1 x2 x3 x4 x5 x6  S H locs ls  hf; cases hf
        | succ n16 ih16 =>
          have B101 : ∀ (x1 : Int32) (x2 : Int32) (x3 : Int32) (x4 : Int32) (x5 : Int32) (x6 : Int32) (S : si_St) (H : Heap) (locs : List Loc) (ls : Array Slot) , f_X10_leastBoth_h101 F (f_X10_leastBoth_l7 F n7) (f_X10_leastBoth_l16 F (f_X10_leastBoth_l7 F n7) n16) x1 x2 x3 x4 x5 x6 S = some o → si_Ws E A s.heap S H locs → lv_has ls 8 [(0, .ref (E.2.1 87)), (1, .int x1), (2, .int x2), (3, .int x3), (4, .int x4), (5, .int x5), (6, .int x6)] → W p l e rm_X10_leastBoth s m args below meth c H locs 0 0 Q (F0 m 101 ls []) := by
            intro x1 x2 x3 x4 x5 x6  S H locs ls  hf hw hl
            unfold f_X10_leastBoth_h101 at hf
            obtain ⟨v1, ev1, hf⟩ := si_ob hf
            refine lv_iinc (v := v1) (lv' := [(6, .int v1), (0, .ref (E.2.1 87)), (1, .int x1), (2, .int x2), (3, .int x3), (4, .int x4), (5, .int x5)]) X.1 X.2.1 dX10_leastBoth_101 hl (k := 6) rfl (Option.some.inj ev1) (by decide) rfl (fun ls hl => ?_)
            refine lv_goto (tgt := 16) X.1 X.2.1 dX10_leastBoth_104 (by decide) ?_
            exact ih16 _ _ _ _ _ _ _ _ _ _ hf hw (lv_sub hl [1, 2, 3, 4, 5, 6, 0] rfl)
          have B99 : ∀ (x1 : Int32) (x2 : Int32) (x3 : Int32) (x5 : Int32) (x6 : Int32) (t0 : Int32) (S : si_St) (H : Heap) (locs : List Loc) (ls : Array Slot) , f_X10_leastBoth_h99 F (f_X10_leastBoth_l7 F n7) (f_X10_leastBoth_l16 F (f_X10_leastBoth_l7 F n7) n16) x1 x2 x3 x5 x6 t0 S = some o → si_Ws E A s.heap S H locs → lv_has ls 8 [(0, .ref (E.2.1 87)), (1, .int x1), (2, .int x2), (3, .int x3), (5, .int x5), (6, .int x6)] → W p l e rm_X10_leastBoth s m args below meth c H locs 0 0 Q (F0 m 99 ls [.int t0]) := by
            intro x1 x2 x3 x5 x6 t0  S H locs ls  hf hw hl
            unfold f_X10_leastBoth_h99 at hf
            refine lv_istore (lv' := [(4, .int t0), (0, .ref (E.2.1 87)), (1, .int x1), (2, .int x2), (3, .int x3), (5, .int x5), (6, .int x6)]) X.1 X.2.1 dX10_leastBoth_99 hl (by decide) rfl (fun ls hl => ?_)
            exact B101 _ _ _ _ _ _ _ _ _ _ hf hw (lv_sub hl [1, 2, 3, 4, 0, 5, 6] rfl)
          intro x1 x2 x3 x4 x5 x6  S H locs ls  hf hw hl
          have hf : f_X10_leastBoth_h16 F (f_X10_leastBoth_l7 F n7) (f_X10_leastBoth_l16 F (f_X10_leastBoth_l7 F n7) n16) x1 x2 x3 x4 x5 x6 S = some o := hf
          unfold f_X10_leastBoth_h16 at hf
          refine lv_iload X.1 X.2.1 dX10_leastBoth_16 (lv_at hl 5 rfl) ?_
          refine lv_iload X.1 X.2.1 dX10_leastBoth_18 (lv_at hl 6 rfl) ?_
          refine lv_iadd X.1 X.2.1 dX10_leastBoth_20 ?_
          refine lv_iload_n X.1 X.2.1 dX10_leastBoth_21 rfl (lv_at hl 1 rfl) ?_
          refine lv_icmp_gt (tgt := 107) X.1 X.2.1 dX10_leastBoth_22 (by decide) (fun c22 => ?_) (fun c22 => ?_)
          · have hf := si_ip c22 hf
            obtain ⟨v2, ev2, hf⟩ := si_ob hf
            refine lv_iinc (v := v2) (lv' := [(5, .int v2), (0, .ref (E.2.1 87)), (1, .int x1), (2, .int x2), (3, .int x3), (4, .int x4), (6, .int x6)]) X.1 X.2.1 dX10_leastBoth_107 hl (k := 5) rfl (Option.some.inj ev2) (by decide) rfl (fun ls hl => ?_)
            refine lv_goto (tgt := 7) X.1 X.2.1 dX10_leastBoth_110 (by decide) ?_
            exact ih7 _ _ _ _ _ _ _ _ _ hf hw (lv_sub hl [1, 2, 3, 4, 5, 0] rfl)
          · have hf := si_in c22 hf
            refine lv_iload X.1 X.2.1 dX10_leastBoth_25 (lv_at hl 5 rfl) ?_
            refine lv_iload X.1 X.2.1 dX10_leastBoth_27 (lv_at hl 6 rfl) ?_
            refine lv_iadd X.1 X.2.1 dX10_leastBoth_29 ?_
            refine lv_if_le (tgt := 101) X.1 X.2.1 dX10_leastBoth_30 (by decide) (fun c30 => ?_) (fun c30 => ?_)
            · have hf := si_ip c30 hf
              exact B101 _ _ _ _ _ _ _ _ _ _ hf hw (lv_sub hl [0, 1, 2, 3, 4, 5, 6] rfl)
            · have hf := si_in c30 hf
              refine lv_iload X.1 X.2.1 dX10_leastBoth_33 (lv_at hl 5 rfl) ?_
              refine lv_iload X.1 X.2.1 dX10_leastBoth_35 (lv_at hl 6 rfl) ?_
              refine lv_isub X.1 X.2.1 dX10_leastBoth_37 ?_
              obtain ⟨q3, eq3, hf⟩ := si_ob hf
              refine si_cSi [.int (x5 - x6)] cal_X10_size gm_RX10_268 X hw hA hl.1 (c_X10_size l E F (x5 - x6) S q3 eq3) ⟨⟨rfl, rfl⟩, Nat.le_of_ble_eq_true rfl, Nat.le_of_ble_eq_true rfl⟩ rfl rfl (Nat.le_of_ble_eq_true rfl) ⟨Nat.zero_le _, Nat.zero_le _⟩ dX10_leastBoth_38 (fun H locs hw => ?_)
              refine lv_iload_n X.1 X.2.1 dX10_leastBoth_41 rfl (lv_at hl 3 rfl) ?_
              refine lv_icmp_gt (tgt := 101) X.1 X.2.1 dX10_leastBoth_42 (by decide) (fun c42 => ?_) (fun c42 => ?_)
              · have hf := si_ip c42 hf
                exact B101 _ _ _ _ _ _ _ _ _ _ hf hw (lv_sub hl [0, 1, 2, 3, 4, 5, 6] rfl)
              · have hf := si_in c42 hf
                refine lv_aload_n X.1 X.2.1 dX10_leastBoth_45 rfl (lv_at hl 0 rfl) ?_
                refine lv_iload_n X.1 X.2.1 dX10_leastBoth_46 rfl (lv_at hl 1 rfl) ?_
                refine lv_iload X.1 X.2.1 dX10_leastBoth_47 (lv_at hl 5 rfl) ?_
                refine lv_isub X.1 X.2.1 dX10_leastBoth_49 ?_
                refine lv_iload X.1 X.2.1 dX10_leastBoth_50 (lv_at hl 6 rfl) ?_
                refine lv_isub X.1 X.2.1 dX10_leastBoth_52 ?_
                refine lv_iload_n X.1 X.2.1 dX10_leastBoth_53 rfl (lv_at hl 2 rfl) ?_
                obtain ⟨q4, eq4, hf⟩ := si_ob hf
                refine si_cVi [.int ((x1 - x5) - x6), .int x2] cal_X10_bothOf gm_RX10_320 X hw hA hl.1 (c_X10_bothOf l E F ((x1 - x5) - x6) x2 q3.2 q4 eq4) si_cl10 rfl ⟨⟨rfl, rfl⟩, Nat.le_of_ble_eq_true rfl, Nat.le_of_ble_eq_true rfl⟩ rfl rfl (Nat.le_of_ble_eq_true rfl) ⟨Nat.zero_le _, Nat.zero_le _⟩ dX10_leastBoth_54 (fun H locs hw => ?_)
                refine lv_aload_n X.1 X.2.1 dX10_leastBoth_57 rfl (lv_at hl 0 rfl) ?_
                refine lv_iload X.1 X.2.1 dX10_leastBoth_58 (lv_at hl 5 rfl) ?_
                refine lv_iload X.1 X.2.1 dX10_leastBoth_60 (lv_at hl 6 rfl) ?_
                obtain ⟨q5, eq5, hf⟩ := si_ob hf
                refine si_cVi [.int x5, .int x6] cal_X10_oneOf gm_RX10_314 X hw hA hl.1 (c_X10_oneOf l E F x5 x6 q4.2 q5 eq5) si_cl10 rfl ⟨⟨rfl, rfl⟩, Nat.le_of_ble_eq_true rfl, Nat.le_of_ble_eq_true rfl⟩ rfl rfl (Nat.le_of_ble_eq_true rfl) ⟨Nat.zero_le _, Nat.zero_le _⟩ dX10_leastBoth_62 (fun H locs hw => ?_)
                refine lv_aload_n X.1 X.2.1 dX10_leastBoth_65 rfl (lv_at hl 0 rfl) ?_
                refine lv_iload X.1 X.2.1 dX10_leastBoth_66 (lv_at hl 6 rfl) ?_
                refine lv_iload X.1 X.2.1 dX10_leastBoth_68 (lv_at hl 5 rfl) ?_
                obtain ⟨q6, eq6, hf⟩ := si_ob hf
                refine si_cVi [.int x6, .int x5] cal_X10_oneOf gm_RX10_314 X hw hA hl.1 (c_X10_oneOf l E F x6 x5 q5.2 q6 eq6) si_cl10 rfl ⟨⟨rfl, rfl⟩, Nat.le_of_ble_eq_true rfl, Nat.le_of_ble_eq_true rfl⟩ rfl rfl (Nat.le_of_ble_eq_true rfl) ⟨Nat.zero_le _, Nat.zero_le _⟩ dX10_leastBoth_70 (fun H locs hw => ?_)
                obtain ⟨q7, eq7, hf⟩ := si_ob hf
                refine si_cSi [.int q5.1, .int q6.1] cal_X10_worse gm_RX10_317 X hw hA hl.1 (c_X10_worse l E F q5.1 q6.1 q6.2 q7 eq7) ⟨⟨rfl, rfl⟩, Nat.le_of_ble_eq_true rfl, Nat.le_of_ble_eq_true rfl⟩ rfl rfl (Nat.le_of_ble_eq_true rfl) ⟨Nat.zero_le _, Nat.zero_le _⟩ dX10_leastBoth_73 (fun H locs hw => ?_)
                obtain ⟨q8, eq8, hf⟩ := si_ob hf
                refine si_cSi [.int q4.1, .int q7.1] cal_X10_worse gm_RX10_317 X hw hA hl.1 (c_X10_worse l E F q4.1 q7.1 q7.2 q8 eq8) ⟨⟨rfl, rfl⟩, Nat.le_of_ble_eq_true rfl, Nat.le_of_ble_eq_true rfl⟩ rfl rfl (Nat.le_of_ble_eq_true rfl) ⟨Nat.zero_le _, Nat.zero_le _⟩ dX10_leastBoth_76 (fun H locs hw => ?_)
                refine lv_istore (lv' := [(7, .int q8.1), (0, .ref (E.2.1 87)), (1, .int x1), (2, .int x2), (3, .int x3), (4, .int x4), (5, .int x5), (6, .int x6)]) X.1 X.2.1 dX10_leastBoth_79 hl (by decide) rfl (fun ls hl => ?_)
                refine lv_iload X.1 X.2.1 dX10_leastBoth_81 (lv_at hl 0 rfl) ?_
                refine lv_iconst (v := 1) X.1 X.2.1 dX10_leastBoth_83 (by decide) ?_
                refine lv_iadd X.1 X.2.1 dX10_leastBoth_84 ?_
                refine lv_iload X.1 X.2.1 dX10_leastBoth_85 (lv_at hl 5 rfl) ?_
                refine lv_icmp_ge (tgt := 97) X.1 X.2.1 dX10_leastBoth_87 (by decide) (fun c87 => ?_) (fun c87 => ?_)
                · have hf := si_ip c87 hf
                  refine lv_iload X.1 X.2.1 dX10_leastBoth_97 (lv_at hl 5 rfl) ?_
                  exact B99 _ _ _ _ _ _ _ _ _ _ hf hw (lv_sub hl [1, 2, 3, 4, 6, 7] rfl)
                · have hf := si_in c87 hf
                  refine lv_iload X.1 X.2.1 dX10_leastBoth_90 (lv_at hl 0 rfl) ?_
                  refine lv_iconst (v := 1) X.1 X.2.1 dX10_leastBoth_92 (by decide) ?_
                  refine lv_iadd X.1 X.2.1 dX10_leastBoth_93 ?_
                  refine lv_goto (tgt := 99) X.1 X.2.1 dX10_leastBoth_94 (by decide) ?_
                  exact B99 _ _ _ _ _ _ _ _ _ _ hf hw (lv_sub hl [1, 2, 3, 4, 6, 7] rfl)
      intro x1 x2 x3 x4 x5  S H locs ls  hf hw hl
      have hf : f_X10_leastBoth_h7 F (f_X10_leastBoth_l7 F n7) x1 x2 x3 x4 x5 S = some o := hf
      unfold f_X10_leastBoth_h7 at hf
      refine lv_iload X.1 X.2.1 dX10_leastBoth_7 (lv_at hl 5 rfl) ?_
      refine lv_iload_n X.1 X.2.1 dX10_leastBoth_9 rfl (lv_at hl 1 rfl) ?_
      refine lv_icmp_gt (tgt := 113) X.1 X.2.1 dX10_leastBoth_10 (by decide) (fun c10 => ?_) (fun c10 => ?_)
      · have hf := si_ip c10 hf
        refine lv_iload X.1 X.2.1 dX10_leastBoth_113 (lv_at hl 4 rfl) ?_
        exact hret _ _ _ _ _ _ hf hw dX10_leastBoth_115
      · have hf := si_in c10 hf
        refine lv_iconst (v := 0) X.1 X.2.1 dX10_leastBoth_13 (by decide) ?_
        refine lv_istore (lv' := [(6, .int 0), (0, .ref (E.2.1 87)), (1, .int x1), (2, .int x2), (3, .int x3), (4, .int x4), (5, .int x5)]) X.1 X.2.1 dX10_leastBoth_14 hl (by decide) rfl (fun ls hl => ?_)
        exact B16 F _ _ _ _ _ _ _ _ _ _ hf hw (lv_sub hl [1, 2, 3, 4, 5, 6, 0] rfl)
  unfold f_X10_leastBoth at hf
  refine lv_bipush (v := 99) X.1 X.2.1 dX10_leastBoth_0 (by decide) ?_
  refine lv_istore (lv' := [(4, .int 99), (0, .ref (E.2.1 87)), (1, .int x1), (2, .int x2), (3, .int x3)]) X.1 X.2.1 dX10_leastBoth_2 hl (by decide) rfl (fun ls hl => ?_)
  refine lv_iconst (v := 0) X.1 X.2.1 dX10_leastBoth_4 (by decide) ?_
  refine lv_istore (lv' := [(5, .int 0), (4, .int 99), (0, .ref (E.2.1 87)), (1, .int x1), (2, .int x2), (3, .int x3)]) X.1 X.2.1 dX10_leastBoth_5 hl (by decide) rfl (fun ls hl => ?_)
  exact B7 F _ _ _ _ _ _ _ _ _ hf hw (lv_sub hl [2, 3, 4, 5, 1, 0] rfl)
abbrev rm_X10_lays : Room := { frames := 2, cells := 0, slots := 0, locals := 53 }
set_option maxHeartbeats 4000000 in
set_option maxRecDepth 100000 in
theorem c_X10_lays (l : Launch) (E : si_Ev) (F : Nat) (x1 : Int32) (S : si_St) (o : si_St) (hf : f_X10_lays F x1 S = some o) : si_Mv l E yX10_lays cX10_lays 4 rm_X10_lays [.ref (E.2.1 87), .int x1] S o := by
  refine si_ofWv (plainFor_of_name (by decide +kernel)) (Nat.le_of_ble_eq_true rfl) ?_
  intro p e s m args below meth c ls Q A X hw hA hl hret
  have hl : lv_has ls 4 [(0, .ref (E.2.1 87)), (1, .int x1)] := hl
  have B52 : ∀ (n52 : Nat) (x1 : Int32) (x2 : Int32) (S : si_St) (H : Heap) (locs : List Loc) (ls : Array Slot) , f_X10_lays_l52 F n52 x1 x2 S = some o → si_Ws E A s.heap S H locs → lv_has ls 4 [(0, .ref (E.2.1 87)), (1, .int x1), (2, .int x2)] → W p l e rm_X10_lays s m args below meth c H locs 0 0 Q (F0 m 52 ls []) := by
    intro n52
    induction n52 with
    | zero => intro x1 x2  S H locs ls  hf; cases hf
    | succ n52 ih52 =>
      intro x1 x2  S H locs ls  hf hw hl
      have hf : f_X10_lays_h52 F (f_X10_lays_l52 F n52) x1 x2 S = some o := hf
      unfold f_X10_lays_h52 at hf
      refine lv_iload_n X.1 X.2.1 dX10_lays_52 rfl (lv_at hl 2 rfl) ?_
      refine lv_iload_n X.1 X.2.1 dX10_lays_53 rfl (lv_at hl 1 rfl) ?_
      refine lv_icmp_gt (tgt := 99) X.1 X.2.1 dX10_lays_54 (by decide) (fun c54 => ?_) (fun c54 => ?_)
      · have hf := si_ip c54 hf
        exact hret _ _ _ _ _ hf hw dX10_lays_99
      · have hf := si_in c54 hf
        refine lv_aload_n X.1 X.2.1 dX10_lays_57 rfl (lv_at hl 0 rfl) ?_
        refine si_getR (k' := 109) (d := 22) X hw si_cl10 39 (by decide) gf_RX10_82 rfl rfl rfl (by decide) rfl dX10_lays_58 ?_
        refine lv_iconst (v := 2) X.1 X.2.1 dX10_lays_61 (by decide) ?_
        refine lv_iload_n X.1 X.2.1 dX10_lays_62 rfl (lv_at hl 2 rfl) ?_
        refine lv_imul X.1 X.2.1 dX10_lays_63 ?_
        refine lv_aload_n X.1 X.2.1 dX10_lays_64 rfl (lv_at hl 0 rfl) ?_
        refine lv_iload_n X.1 X.2.1 dX10_lays_65 rfl (lv_at hl 2 rfl) ?_
        refine lv_iconst (v := 0) X.1 X.2.1 dX10_lays_66 (by decide) ?_
        refine lv_iload_n X.1 X.2.1 dX10_lays_67 rfl (lv_at hl 1 rfl) ?_
        refine lv_iload_n X.1 X.2.1 dX10_lays_68 rfl (lv_at hl 2 rfl) ?_
        refine lv_isub X.1 X.2.1 dX10_lays_69 ?_
        obtain ⟨q1, eq1, hf⟩ := si_ob hf
        refine si_cVi [.int x2, .int 0, .int (x1 - x2)] cal_X10_leastBoth gm_RX10_311 X hw hA hl.1 (c_X10_leastBoth l E F x2 0 (x1 - x2) S q1 eq1) si_cl10 rfl ⟨⟨rfl, rfl⟩, Nat.le_of_ble_eq_true rfl, Nat.le_of_ble_eq_true rfl⟩ rfl rfl (Nat.le_of_ble_eq_true rfl) ⟨Nat.zero_le _, Nat.zero_le _⟩ dX10_lays_70 (fun H locs hw => ?_)
        obtain ⟨S2, eS2, hf⟩ := si_ob hf
        refine si_iast X hw rfl eS2 dX10_lays_73 (fun H locs hw => ?_)
        refine lv_aload_n X.1 X.2.1 dX10_lays_74 rfl (lv_at hl 0 rfl) ?_
        refine si_getR (k' := 109) (d := 22) X hw si_cl10 39 (by decide) gf_RX10_82 rfl rfl rfl (by decide) rfl dX10_lays_75 ?_
        refine lv_iconst (v := 2) X.1 X.2.1 dX10_lays_78 (by decide) ?_
        refine lv_iload_n X.1 X.2.1 dX10_lays_79 rfl (lv_at hl 2 rfl) ?_
        refine lv_imul X.1 X.2.1 dX10_lays_80 ?_
        refine lv_iconst (v := 1) X.1 X.2.1 dX10_lays_81 (by decide) ?_
        refine lv_iadd X.1 X.2.1 dX10_lays_82 ?_
        refine lv_aload_n X.1 X.2.1 dX10_lays_83 rfl (lv_at hl 0 rfl) ?_
        refine lv_iload_n X.1 X.2.1 dX10_lays_84 rfl (lv_at hl 2 rfl) ?_
        refine lv_iconst (v := 1) X.1 X.2.1 dX10_lays_85 (by decide) ?_
        refine lv_iload_n X.1 X.2.1 dX10_lays_86 rfl (lv_at hl 1 rfl) ?_
        refine lv_iload_n X.1 X.2.1 dX10_lays_87 rfl (lv_at hl 2 rfl) ?_
        refine lv_isub X.1 X.2.1 dX10_lays_88 ?_
        obtain ⟨q3, eq3, hf⟩ := si_ob hf
        refine si_cVi [.int x2, .int 1, .int (x1 - x2)] cal_X10_leastBoth gm_RX10_311 X hw hA hl.1 (c_X10_leastBoth l E F x2 1 (x1 - x2) S2 q3 eq3) si_cl10 rfl ⟨⟨rfl, rfl⟩, Nat.le_of_ble_eq_true rfl, Nat.le_of_ble_eq_true rfl⟩ rfl rfl (Nat.le_of_ble_eq_true rfl) ⟨Nat.zero_le _, Nat.zero_le _⟩ dX10_lays_89 (fun H locs hw => ?_)
        obtain ⟨S4, eS4, hf⟩ := si_ob hf
        refine si_iast X hw rfl eS4 dX10_lays_92 (fun H locs hw => ?_)
        obtain ⟨v5, ev5, hf⟩ := si_ob hf
        refine lv_iinc (v := v5) (lv' := [(2, .int v5), (0, .ref (E.2.1 87)), (1, .int x1)]) X.1 X.2.1 dX10_lays_93 hl (k := 2) rfl (Option.some.inj ev5) (by decide) rfl (fun ls hl => ?_)
        refine lv_goto (tgt := 52) X.1 X.2.1 dX10_lays_96 (by decide) ?_
        exact ih52 _ _ _ _ _ _ hf hw (lv_sub hl [1, 2, 0] rfl)
  have B2 : ∀ (n2 : Nat) (x1 : Int32) (x2 : Int32) (S : si_St) (H : Heap) (locs : List Loc) (ls : Array Slot) , f_X10_lays_l2 F n2 x1 x2 S = some o → si_Ws E A s.heap S H locs → lv_has ls 4 [(0, .ref (E.2.1 87)), (1, .int x1), (2, .int x2)] → W p l e rm_X10_lays s m args below meth c H locs 0 0 Q (F0 m 2 ls []) := by
    intro n2
    induction n2 with
    | zero => intro x1 x2  S H locs ls  hf; cases hf
    | succ n2 ih2 =>
      have B9 : ∀ (n9 : Nat) (x1 : Int32) (x2 : Int32) (x3 : Int32) (S : si_St) (H : Heap) (locs : List Loc) (ls : Array Slot) , f_X10_lays_l9 F (f_X10_lays_l2 F n2) n9 x1 x2 x3 S = some o → si_Ws E A s.heap S H locs → lv_has ls 4 [(0, .ref (E.2.1 87)), (1, .int x1), (2, .int x2), (3, .int x3)] → W p l e rm_X10_lays s m args below meth c H locs 0 0 Q (F0 m 9 ls []) := by
        intro n9
        induction n9 with
        | zero => intro x1 x2 x3  S H locs ls  hf; cases hf
        | succ n9 ih9 =>
          intro x1 x2 x3  S H locs ls  hf hw hl
          have hf : f_X10_lays_h9 F (f_X10_lays_l2 F n2) (f_X10_lays_l9 F (f_X10_lays_l2 F n2) n9) x1 x2 x3 S = some o := hf
          unfold f_X10_lays_h9 at hf
          refine lv_iload_n X.1 X.2.1 dX10_lays_9 rfl (lv_at hl 3 rfl) ?_
          refine lv_iload_n X.1 X.2.1 dX10_lays_10 rfl (lv_at hl 2 rfl) ?_
          refine lv_icmp_gt (tgt := 44) X.1 X.2.1 dX10_lays_11 (by decide) (fun c11 => ?_) (fun c11 => ?_)
          · have hf := si_ip c11 hf
            obtain ⟨v6, ev6, hf⟩ := si_ob hf
            refine lv_iinc (v := v6) (lv' := [(2, .int v6), (0, .ref (E.2.1 87)), (1, .int x1), (3, .int x3)]) X.1 X.2.1 dX10_lays_44 hl (k := 2) rfl (Option.some.inj ev6) (by decide) rfl (fun ls hl => ?_)
            refine lv_goto (tgt := 2) X.1 X.2.1 dX10_lays_47 (by decide) ?_
            exact ih2 _ _ _ _ _ _ hf hw (lv_sub hl [1, 2, 0] rfl)
          · have hf := si_in c11 hf
            refine lv_aload_n X.1 X.2.1 dX10_lays_14 rfl (lv_at hl 0 rfl) ?_
            refine si_getR (k' := 108) (d := 21) X hw si_cl10 38 (by decide) gf_RX10_79 rfl rfl rfl (by decide) rfl dX10_lays_15 ?_
            refine lv_bipush (v := 13) X.1 X.2.1 dX10_lays_18 (by decide) ?_
            refine lv_iload_n X.1 X.2.1 dX10_lays_20 rfl (lv_at hl 3 rfl) ?_
            refine lv_imul X.1 X.2.1 dX10_lays_21 ?_
            refine lv_iload_n X.1 X.2.1 dX10_lays_22 rfl (lv_at hl 2 rfl) ?_
            refine lv_iadd X.1 X.2.1 dX10_lays_23 ?_
            refine lv_iload_n X.1 X.2.1 dX10_lays_24 rfl (lv_at hl 3 rfl) ?_
            refine lv_isub X.1 X.2.1 dX10_lays_25 ?_
            refine lv_aload_n X.1 X.2.1 dX10_lays_26 rfl (lv_at hl 0 rfl) ?_
            refine lv_iload_n X.1 X.2.1 dX10_lays_27 rfl (lv_at hl 3 rfl) ?_
            refine lv_iload_n X.1 X.2.1 dX10_lays_28 rfl (lv_at hl 2 rfl) ?_
            refine lv_iload_n X.1 X.2.1 dX10_lays_29 rfl (lv_at hl 3 rfl) ?_
            refine lv_isub X.1 X.2.1 dX10_lays_30 ?_
            refine lv_iload_n X.1 X.2.1 dX10_lays_31 rfl (lv_at hl 1 rfl) ?_
            refine lv_iload_n X.1 X.2.1 dX10_lays_32 rfl (lv_at hl 2 rfl) ?_
            refine lv_isub X.1 X.2.1 dX10_lays_33 ?_
            obtain ⟨q7, eq7, hf⟩ := si_ob hf
            refine si_cVi [.int x3, .int (x2 - x3), .int (x1 - x2)] cal_X10_leastOne gm_RX10_307 X hw hA hl.1 (c_X10_leastOne l E F x3 (x2 - x3) (x1 - x2) S q7 eq7) si_cl10 rfl ⟨⟨rfl, rfl⟩, Nat.le_of_ble_eq_true rfl, Nat.le_of_ble_eq_true rfl⟩ rfl rfl (Nat.le_of_ble_eq_true rfl) ⟨Nat.zero_le _, Nat.zero_le _⟩ dX10_lays_34 (fun H locs hw => ?_)
            obtain ⟨S8, eS8, hf⟩ := si_ob hf
            refine si_iast X hw rfl eS8 dX10_lays_37 (fun H locs hw => ?_)
            obtain ⟨v9, ev9, hf⟩ := si_ob hf
            refine lv_iinc (v := v9) (lv' := [(3, .int v9), (0, .ref (E.2.1 87)), (1, .int x1), (2, .int x2)]) X.1 X.2.1 dX10_lays_38 hl (k := 3) rfl (Option.some.inj ev9) (by decide) rfl (fun ls hl => ?_)
            refine lv_goto (tgt := 9) X.1 X.2.1 dX10_lays_41 (by decide) ?_
            exact ih9 _ _ _ _ _ _ _ hf hw (lv_sub hl [1, 2, 3, 0] rfl)
      intro x1 x2  S H locs ls  hf hw hl
      have hf : f_X10_lays_h2 F (f_X10_lays_l2 F n2) x1 x2 S = some o := hf
      unfold f_X10_lays_h2 at hf
      refine lv_iload_n X.1 X.2.1 dX10_lays_2 rfl (lv_at hl 2 rfl) ?_
      refine lv_iload_n X.1 X.2.1 dX10_lays_3 rfl (lv_at hl 1 rfl) ?_
      refine lv_icmp_gt (tgt := 50) X.1 X.2.1 dX10_lays_4 (by decide) (fun c4 => ?_) (fun c4 => ?_)
      · have hf := si_ip c4 hf
        refine lv_iconst (v := 1) X.1 X.2.1 dX10_lays_50 (by decide) ?_
        refine lv_istore_n (lv' := [(2, .int 1), (0, .ref (E.2.1 87)), (1, .int x1)]) X.1 X.2.1 dX10_lays_51 rfl hl (by decide) rfl (fun ls hl => ?_)
        exact B52 F _ _ _ _ _ _ hf hw (lv_sub hl [1, 2, 0] rfl)
      · have hf := si_in c4 hf
        refine lv_iconst (v := 0) X.1 X.2.1 dX10_lays_7 (by decide) ?_
        refine lv_istore_n (lv' := [(3, .int 0), (0, .ref (E.2.1 87)), (1, .int x1), (2, .int x2)]) X.1 X.2.1 dX10_lays_8 rfl hl (by decide) rfl (fun ls hl => ?_)
        exact B9 F _ _ _ _ _ _ _ hf hw (lv_sub hl [1, 2, 3, 0] rfl)
  unfold f_X10_lays at hf
  refine lv_iconst (v := 2) X.1 X.2.1 dX10_lays_0 (by decide) ?_
  refine lv_istore_n (lv' := [(2, .int 2), (0, .ref (E.2.1 87)), (1, .int x1)]) X.1 X.2.1 dX10_lays_1 rfl hl (by decide) rfl (fun ls hl => ?_)
  exact B2 F _ _ _ _ _ _ hf hw (lv_sub hl [1, 2, 0] rfl)
abbrev rm_X10_needs : Room := { frames := 1, cells := 0, slots := 0, locals := 22 }
set_option maxHeartbeats 4000000 in
set_option maxRecDepth 100000 in
theorem c_X10_needs (l : Launch) (E : si_Ev) (F : Nat) (x1 : Int32) (x2 : Int32) (x3 : Int32) (S : si_St) (o : Int32 × si_St) (hf : f_X10_needs F x1 x2 x3 S = some o) : si_Mi l E yX10_needs cX10_needs 4 (some .int) rm_X10_needs [.ref (E.2.1 87), .int x1, .int x2, .int x3] S o := by
  refine si_ofWi (plainFor_of_name (by decide +kernel)) (Nat.le_of_ble_eq_true rfl) ?_
  intro p e s m args below meth c ls Q A X hw hA hl hret
  have hl : lv_has ls 4 [(0, .ref (E.2.1 87)), (1, .int x1), (2, .int x2), (3, .int x3)] := hl
  have B47 : ∀ (t0 : Int32) (S : si_St) (H : Heap) (locs : List Loc) (ls : Array Slot) , f_X10_needs_h47 F t0 S = some o → si_Ws E A s.heap S H locs → lv_has ls 4 [] → W p l e rm_X10_needs s m args below meth c H locs 0 0 Q (F0 m 47 ls [.int t0]) := by
    intro t0  S H locs ls  hf hw hl
    unfold f_X10_needs_h47 at hf
    exact hret _ _ _ _ _ _ hf hw dX10_needs_47
  unfold f_X10_needs at hf
  refine lv_iload_n X.1 X.2.1 dX10_needs_0 rfl (lv_at hl 1 rfl) ?_
  obtain ⟨q1, eq1, hf⟩ := si_ob hf
  refine si_cSi [.int x1] cal_X10_bits gm_RX10_244 X hw hA hl.1 (c_X10_bits l E F x1 S q1 eq1) ⟨⟨rfl, rfl⟩, Nat.le_of_ble_eq_true rfl, Nat.le_of_ble_eq_true rfl⟩ rfl rfl (Nat.le_of_ble_eq_true rfl) ⟨Nat.zero_le _, Nat.zero_le _⟩ dX10_needs_1 (fun H locs hw => ?_)
  refine lv_iload_n X.1 X.2.1 dX10_needs_4 rfl (lv_at hl 2 rfl) ?_
  obtain ⟨q2, eq2, hf⟩ := si_ob hf
  refine si_cSi [.int x2] cal_X10_bits gm_RX10_244 X hw hA hl.1 (c_X10_bits l E F x2 q1.2 q2 eq2) ⟨⟨rfl, rfl⟩, Nat.le_of_ble_eq_true rfl, Nat.le_of_ble_eq_true rfl⟩ rfl rfl (Nat.le_of_ble_eq_true rfl) ⟨Nat.zero_le _, Nat.zero_le _⟩ dX10_needs_5 (fun H locs hw => ?_)
  refine lv_iadd X.1 X.2.1 dX10_needs_8 ?_
  refine lv_iload_n X.1 X.2.1 dX10_needs_9 rfl (lv_at hl 3 rfl) ?_
  refine lv_iadd X.1 X.2.1 dX10_needs_10 ?_
  refine lv_iconst (v := 2) X.1 X.2.1 dX10_needs_11 (by decide) ?_
  refine lv_icmp_ge (tgt := 17) X.1 X.2.1 dX10_needs_12 (by decide) (fun c12 => ?_) (fun c12 => ?_)
  · have hf := si_ip c12 hf
    refine lv_iload_n X.1 X.2.1 dX10_needs_17 rfl (lv_at hl 1 rfl) ?_
    refine lv_iload_n X.1 X.2.1 dX10_needs_18 rfl (lv_at hl 2 rfl) ?_
    refine lv_iand X.1 X.2.1 dX10_needs_19 ?_
    refine lv_if_eq (tgt := 35) X.1 X.2.1 dX10_needs_20 (by decide) (fun c20 => ?_) (fun c20 => ?_)
    · have hf := si_ip c20 hf
      refine lv_aload_n X.1 X.2.1 dX10_needs_35 rfl (lv_at hl 0 rfl) ?_
      refine lv_iload_n X.1 X.2.1 dX10_needs_36 rfl (lv_at hl 1 rfl) ?_
      obtain ⟨q3, eq3, hf⟩ := si_ob hf
      refine si_cSi [.int x1] cal_X10_bits gm_RX10_244 X hw hA hl.1 (c_X10_bits l E F x1 q2.2 q3 eq3) ⟨⟨rfl, rfl⟩, Nat.le_of_ble_eq_true rfl, Nat.le_of_ble_eq_true rfl⟩ rfl rfl (Nat.le_of_ble_eq_true rfl) ⟨Nat.zero_le _, Nat.zero_le _⟩ dX10_needs_37 (fun H locs hw => ?_)
      refine lv_iload_n X.1 X.2.1 dX10_needs_40 rfl (lv_at hl 2 rfl) ?_
      obtain ⟨q4, eq4, hf⟩ := si_ob hf
      refine si_cSi [.int x2] cal_X10_bits gm_RX10_244 X hw hA hl.1 (c_X10_bits l E F x2 q3.2 q4 eq4) ⟨⟨rfl, rfl⟩, Nat.le_of_ble_eq_true rfl, Nat.le_of_ble_eq_true rfl⟩ rfl rfl (Nat.le_of_ble_eq_true rfl) ⟨Nat.zero_le _, Nat.zero_le _⟩ dX10_needs_41 (fun H locs hw => ?_)
      obtain ⟨q5, eq5, hf⟩ := si_ob hf
      refine si_cVi [.int q3.1, .int q4.1] cal_X10_oneOf gm_RX10_314 X hw hA hl.1 (c_X10_oneOf l E F q3.1 q4.1 q4.2 q5 eq5) si_cl10 rfl ⟨⟨rfl, rfl⟩, Nat.le_of_ble_eq_true rfl, Nat.le_of_ble_eq_true rfl⟩ rfl rfl (Nat.le_of_ble_eq_true rfl) ⟨Nat.zero_le _, Nat.zero_le _⟩ dX10_needs_44 (fun H locs hw => ?_)
      exact B47 _ _ _ _ _ hf hw (lv_sub hl [] rfl)
    · have hf := si_in c20 hf
      refine lv_aload_n X.1 X.2.1 dX10_needs_23 rfl (lv_at hl 0 rfl) ?_
      refine lv_iload_n X.1 X.2.1 dX10_needs_24 rfl (lv_at hl 1 rfl) ?_
      obtain ⟨q6, eq6, hf⟩ := si_ob hf
      refine si_cSi [.int x1] cal_X10_bits gm_RX10_244 X hw hA hl.1 (c_X10_bits l E F x1 q2.2 q6 eq6) ⟨⟨rfl, rfl⟩, Nat.le_of_ble_eq_true rfl, Nat.le_of_ble_eq_true rfl⟩ rfl rfl (Nat.le_of_ble_eq_true rfl) ⟨Nat.zero_le _, Nat.zero_le _⟩ dX10_needs_25 (fun H locs hw => ?_)
      refine lv_iload_n X.1 X.2.1 dX10_needs_28 rfl (lv_at hl 3 rfl) ?_
      obtain ⟨q7, eq7, hf⟩ := si_ob hf
      refine si_cVi [.int q6.1, .int x3] cal_X10_bothOf gm_RX10_320 X hw hA hl.1 (c_X10_bothOf l E F q6.1 x3 q6.2 q7 eq7) si_cl10 rfl ⟨⟨rfl, rfl⟩, Nat.le_of_ble_eq_true rfl, Nat.le_of_ble_eq_true rfl⟩ rfl rfl (Nat.le_of_ble_eq_true rfl) ⟨Nat.zero_le _, Nat.zero_le _⟩ dX10_needs_29 (fun H locs hw => ?_)
      refine lv_goto (tgt := 47) X.1 X.2.1 dX10_needs_32 (by decide) ?_
      exact B47 _ _ _ _ _ hf hw (lv_sub hl [] rfl)
  · have hf := si_in c12 hf
    refine lv_iconst (v := 0) X.1 X.2.1 dX10_needs_15 (by decide) ?_
    exact hret _ _ _ _ _ _ hf hw dX10_needs_16
abbrev rm_X10_isSet : Room := { frames := 1, cells := 0, slots := 0, locals := 25 }
set_option maxHeartbeats 4000000 in
set_option maxRecDepth 100000 in
theorem c_X10_isSet (l : Launch) (E : si_Ev) (F : Nat) (x1 : Int32) (S : si_St) (o : Int32 × si_St) (hf : f_X10_isSet F x1 S = some o) : si_Mi l E yX10_isSet cX10_isSet 2 (some .boolean) rm_X10_isSet [.ref (E.2.1 87), .int x1] S o := by
  refine si_ofWz (plainFor_of_name (by decide +kernel)) (Nat.le_of_ble_eq_true rfl) ?_
  intro p e s m args below meth c ls Q A X hw hA hl hret
  have hl : lv_has ls 2 [(0, .ref (E.2.1 87)), (1, .int x1)] := hl
  unfold f_X10_isSet at hf
  refine lv_iload_n X.1 X.2.1 dX10_isSet_0 rfl (lv_at hl 1 rfl) ?_
  refine lv_i2l (v := (Int32.toInt64 x1)) X.1 X.2.1 dX10_isSet_1 rfl ?_
  refine lv_lconst (v := (0 : Int64)) X.1 X.2.1 dX10_isSet_2 (by decide) ?_
  refine lv_aload_n X.1 X.2.1 dX10_isSet_3 rfl (lv_at hl 0 rfl) ?_
  refine si_getI X hw si_cl10 10 (by decide) gf_RX10_228 rfl rfl rfl dX10_isSet_4 ?_
  refine lv_iconst (v := 1) X.1 X.2.1 dX10_isSet_7 (by decide) ?_
  refine lv_isub X.1 X.2.1 dX10_isSet_8 ?_
  refine lv_i2l (v := (Int32.toInt64 ((S.1 87 10) - 1))) X.1 X.2.1 dX10_isSet_9 rfl ?_
  obtain ⟨q1, eq1, hf⟩ := si_ob hf
  refine si_cSi [.long (Int32.toInt64 x1), .long (0 : Int64), .long (Int32.toInt64 ((S.1 87 10) - 1))] cal_X10_within gm_RX10_124 X hw hA hl.1 (c_X10_within l E F (Int32.toInt64 x1) (0 : Int64) (Int32.toInt64 ((S.1 87 10) - 1)) S q1 eq1) ⟨⟨rfl, rfl⟩, Nat.le_of_ble_eq_true rfl, Nat.le_of_ble_eq_true rfl⟩ rfl rfl (Nat.le_of_ble_eq_true rfl) ⟨Nat.zero_le _, Nat.zero_le _⟩ dX10_isSet_10 (fun H locs hw => ?_)
  obtain ⟨v2, ev2, hf⟩ := si_ob hf
  exact hret _ _ _ _ _ _ (si_bzf ev2 hf) (si_nz (si_bz_inv ev2).1) hw dX10_isSet_13
abbrev rm_X10_countOf : Room := { frames := 1, cells := 0, slots := 0, locals := 22 }
set_option maxHeartbeats 4000000 in
set_option maxRecDepth 100000 in
theorem c_X10_countOf (l : Launch) (E : si_Ev) (F : Nat) (x1 : Int32) (S : si_St) (o : Int32 × si_St) (hf : f_X10_countOf F x1 S = some o) : si_Mi l E yX10_countOf cX10_countOf 2 (some .int) rm_X10_countOf [.ref (E.2.1 87), .int x1] S o := by
  refine si_ofWi (plainFor_of_name (by decide +kernel)) (Nat.le_of_ble_eq_true rfl) ?_
  intro p e s m args below meth c ls Q A X hw hA hl hret
  have hl : lv_has ls 2 [(0, .ref (E.2.1 87)), (1, .int x1)] := hl
  unfold f_X10_countOf at hf
  refine lv_aload_n X.1 X.2.1 dX10_countOf_0 rfl (lv_at hl 0 rfl) ?_
  refine si_getR (k' := 88) (d := 1) X hw si_cl10 1 (by decide) gf_RX10_13 rfl rfl rfl (by decide) rfl dX10_countOf_1 ?_
  refine lv_sipush (v := 661) X.1 X.2.1 dX10_countOf_4 (by decide) ?_
  refine lv_iload_n X.1 X.2.1 dX10_countOf_7 rfl (lv_at hl 1 rfl) ?_
  refine lv_iadd X.1 X.2.1 dX10_countOf_8 ?_
  obtain ⟨v1, ev1, hf⟩ := si_ob hf
  refine si_iald X hw rfl ev1 dX10_countOf_9 ?_
  obtain ⟨q2, eq2, hf⟩ := si_ob hf
  refine si_cSi [.int v1] cal_X10_bits gm_RX10_244 X hw hA hl.1 (c_X10_bits l E F v1 S q2 eq2) ⟨⟨rfl, rfl⟩, Nat.le_of_ble_eq_true rfl, Nat.le_of_ble_eq_true rfl⟩ rfl rfl (Nat.le_of_ble_eq_true rfl) ⟨Nat.zero_le _, Nat.zero_le _⟩ dX10_countOf_10 (fun H locs hw => ?_)
  refine lv_aload_n X.1 X.2.1 dX10_countOf_13 rfl (lv_at hl 0 rfl) ?_
  refine si_getR (k' := 88) (d := 1) X hw si_cl10 1 (by decide) gf_RX10_13 rfl rfl rfl (by decide) rfl dX10_countOf_14 ?_
  refine lv_sipush (v := 665) X.1 X.2.1 dX10_countOf_17 (by decide) ?_
  refine lv_iload_n X.1 X.2.1 dX10_countOf_20 rfl (lv_at hl 1 rfl) ?_
  refine lv_iadd X.1 X.2.1 dX10_countOf_21 ?_
  obtain ⟨v3, ev3, hf⟩ := si_ob hf
  refine si_iald X hw rfl ev3 dX10_countOf_22 ?_
  obtain ⟨q4, eq4, hf⟩ := si_ob hf
  refine si_cSi [.int v3] cal_X10_bits gm_RX10_244 X hw hA hl.1 (c_X10_bits l E F v3 q2.2 q4 eq4) ⟨⟨rfl, rfl⟩, Nat.le_of_ble_eq_true rfl, Nat.le_of_ble_eq_true rfl⟩ rfl rfl (Nat.le_of_ble_eq_true rfl) ⟨Nat.zero_le _, Nat.zero_le _⟩ dX10_countOf_23 (fun H locs hw => ?_)
  refine lv_iadd X.1 X.2.1 dX10_countOf_26 ?_
  refine lv_aload_n X.1 X.2.1 dX10_countOf_27 rfl (lv_at hl 0 rfl) ?_
  refine si_getR (k' := 88) (d := 1) X hw si_cl10 1 (by decide) gf_RX10_13 rfl rfl rfl (by decide) rfl dX10_countOf_28 ?_
  refine lv_sipush (v := 669) X.1 X.2.1 dX10_countOf_31 (by decide) ?_
  refine lv_iload_n X.1 X.2.1 dX10_countOf_34 rfl (lv_at hl 1 rfl) ?_
  refine lv_iadd X.1 X.2.1 dX10_countOf_35 ?_
  obtain ⟨v5, ev5, hf⟩ := si_ob hf
  refine si_iald X hw rfl ev5 dX10_countOf_36 ?_
  refine lv_iadd X.1 X.2.1 dX10_countOf_37 ?_
  exact hret _ _ _ _ _ _ hf hw dX10_countOf_38
abbrev rm_X10_weightCount : Room := { frames := 2, cells := 0, slots := 0, locals := 46 }
set_option maxHeartbeats 4000000 in
set_option maxRecDepth 100000 in
theorem c_X10_weightCount (l : Launch) (E : si_Ev) (F : Nat) (x1 : Int32) (S : si_St) (o : Int32 × si_St) (hf : f_X10_weightCount F x1 S = some o) : si_Mi l E yX10_weightCount cX10_weightCount 2 (some .int) rm_X10_weightCount [.ref (E.2.1 87), .int x1] S o := by
  refine si_ofWi (plainFor_of_name (by decide +kernel)) (Nat.le_of_ble_eq_true rfl) ?_
  intro p e s m args below meth c ls Q A X hw hA hl hret
  have hl : lv_has ls 2 [(0, .ref (E.2.1 87)), (1, .int x1)] := hl
  have B23 : ∀ (t0 : Int32) (S : si_St) (H : Heap) (locs : List Loc) (ls : Array Slot) , f_X10_weightCount_h23 F t0 S = some o → si_Ws E A s.heap S H locs → lv_has ls 2 [] → W p l e rm_X10_weightCount s m args below meth c H locs 0 0 Q (F0 m 23 ls [.int t0]) := by
    intro t0  S H locs ls  hf hw hl
    unfold f_X10_weightCount_h23 at hf
    exact hret _ _ _ _ _ _ hf hw dX10_weightCount_23
  unfold f_X10_weightCount at hf
  refine lv_aload_n X.1 X.2.1 dX10_weightCount_0 rfl (lv_at hl 0 rfl) ?_
  refine lv_iconst (v := 0) X.1 X.2.1 dX10_weightCount_1 (by decide) ?_
  obtain ⟨S1, eS1, hf⟩ := si_ob hf
  refine si_ptI X hw si_cl10 0 (by decide) gf_RX10_1 rfl rfl rfl rfl rfl eS1 dX10_weightCount_2 (fun H locs hw => ?_)
  refine lv_aload_n X.1 X.2.1 dX10_weightCount_5 rfl (lv_at hl 0 rfl) ?_
  refine lv_iload_n X.1 X.2.1 dX10_weightCount_6 rfl (lv_at hl 1 rfl) ?_
  obtain ⟨q2, eq2, hf⟩ := si_ob hf
  refine si_cVi [.int x1] cal_X10_isSet gm_RX10_323 X hw hA hl.1 (c_X10_isSet l E F x1 S1 q2 eq2) si_cl10 rfl ⟨⟨rfl, rfl⟩, Nat.le_of_ble_eq_true rfl, Nat.le_of_ble_eq_true rfl⟩ rfl rfl (Nat.le_of_ble_eq_true rfl) ⟨Nat.zero_le _, Nat.zero_le _⟩ dX10_weightCount_7 (fun H locs hw => ?_)
  refine lv_if_eq (tgt := 22) X.1 X.2.1 dX10_weightCount_10 (by decide) (fun c10 => ?_) (fun c10 => ?_)
  · have hf := si_ip c10 hf
    refine lv_iconst (v := (-1)) X.1 X.2.1 dX10_weightCount_22 (by decide) ?_
    exact B23 _ _ _ _ _ hf hw (lv_sub hl [] rfl)
  · have hf := si_in c10 hf
    refine lv_aload_n X.1 X.2.1 dX10_weightCount_13 rfl (lv_at hl 0 rfl) ?_
    refine si_getR (k' := 94) (d := 7) X hw si_cl10 11 (by decide) gf_RX10_32 rfl rfl rfl (by decide) rfl dX10_weightCount_14 ?_
    refine lv_iload_n X.1 X.2.1 dX10_weightCount_17 rfl (lv_at hl 1 rfl) ?_
    obtain ⟨v3, ev3, hf⟩ := si_ob hf
    refine si_iald X hw rfl ev3 dX10_weightCount_18 ?_
    refine lv_goto (tgt := 23) X.1 X.2.1 dX10_weightCount_19 (by decide) ?_
    exact B23 _ _ _ _ _ hf hw (lv_sub hl [] rfl)
abbrev rm_X10_weigh : Room := { frames := 2, cells := 0, slots := 0, locals := 46 }
set_option maxHeartbeats 4000000 in
set_option maxRecDepth 100000 in
theorem c_X10_weigh (l : Launch) (E : si_Ev) (F : Nat) (x1 : Int32) (x2 : Int32) (x3 : Int32) (x4 : Int32) (S : si_St) (o : Int32 × si_St) (hf : f_X10_weigh F x1 x2 x3 x4 S = some o) : si_Mi l E yX10_weigh cX10_weigh 10 (some .int) rm_X10_weigh [.ref (E.2.1 87), .int x1, .int x2, .int x3, .int x4] S o := by
  refine si_ofWi (plainFor_of_name (by decide +kernel)) (Nat.le_of_ble_eq_true rfl) ?_
  intro p e s m args below meth c ls Q A X hw hA hl hret
  have hl : lv_has ls 10 [(0, .ref (E.2.1 87)), (1, .int x1), (2, .int x2), (3, .int x3), (4, .int x4)] := hl
  have B81 : ∀ (S : si_St) (H : Heap) (locs : List Loc) (ls : Array Slot) , f_X10_weigh_h81 F S = some o → si_Ws E A s.heap S H locs → lv_has ls 10 [] → W p l e rm_X10_weigh s m args below meth c H locs 0 0 Q (F0 m 81 ls []) := by
    intro   S H locs ls  hf hw hl
    unfold f_X10_weigh_h81 at hf
    refine lv_iconst (v := (-1)) X.1 X.2.1 dX10_weigh_81 (by decide) ?_
    exact hret _ _ _ _ _ _ hf hw dX10_weigh_82
  have B183 : ∀ (x1 : Int32) (x6 : Int32) (x8 : Int32) (t0 : Int32) (t1 : Int32) (S : si_St) (H : Heap) (locs : List Loc) (ls : Array Slot) , f_X10_weigh_h183 F x1 x6 x8 t0 t1 S = some o → si_Ws E A s.heap S H locs → lv_has ls 10 [(0, .ref (E.2.1 87)), (1, .int x1), (6, .int x6), (8, .int x8)] → W p l e rm_X10_weigh s m args below meth c H locs 0 0 Q (F0 m 183 ls [.int t0, .int t1]) := by
    intro x1 x6 x8 t0 t1  S H locs ls  hf hw hl
    unfold f_X10_weigh_h183 at hf
    refine lv_iand X.1 X.2.1 dX10_weigh_183 ?_
    obtain ⟨v1, ev1, hf⟩ := si_ob hf
    refine si_nmI ev1 ?_
    refine lv_istore (lv' := [(7, .int v1), (0, .ref (E.2.1 87)), (1, .int x1), (6, .int x6), (8, .int x8)]) X.1 X.2.1 dX10_weigh_184 hl (by decide) rfl (fun ls hl => ?_)
    refine lv_iload X.1 X.2.1 dX10_weigh_186 (lv_at hl 3 rfl) ?_
    obtain ⟨q2, eq2, hf⟩ := si_ob hf
    refine si_cSi [.int x6] cal_X10_bits gm_RX10_244 X hw hA hl.1 (c_X10_bits l E F x6 S q2 eq2) ⟨⟨rfl, rfl⟩, Nat.le_of_ble_eq_true rfl, Nat.le_of_ble_eq_true rfl⟩ rfl rfl (Nat.le_of_ble_eq_true rfl) ⟨Nat.zero_le _, Nat.zero_le _⟩ dX10_weigh_188 (fun H locs hw => ?_)
    refine lv_iload X.1 X.2.1 dX10_weigh_191 (lv_at hl 0 rfl) ?_
    obtain ⟨q3, eq3, hf⟩ := si_ob hf
    refine si_cSi [.int v1] cal_X10_bits gm_RX10_244 X hw hA hl.1 (c_X10_bits l E F v1 q2.2 q3 eq3) ⟨⟨rfl, rfl⟩, Nat.le_of_ble_eq_true rfl, Nat.le_of_ble_eq_true rfl⟩ rfl rfl (Nat.le_of_ble_eq_true rfl) ⟨Nat.zero_le _, Nat.zero_le _⟩ dX10_weigh_193 (fun H locs hw => ?_)
    refine lv_iadd X.1 X.2.1 dX10_weigh_196 ?_
    refine lv_iload X.1 X.2.1 dX10_weigh_197 (lv_at hl 4 rfl) ?_
    refine lv_iadd X.1 X.2.1 dX10_weigh_199 ?_
    obtain ⟨v4, ev4, hf⟩ := si_ob hf
    refine si_nmI ev4 ?_
    refine lv_istore (lv' := [(9, .int v4), (7, .int v1), (0, .ref (E.2.1 87)), (1, .int x1), (6, .int x6), (8, .int x8)]) X.1 X.2.1 dX10_weigh_200 hl (by decide) rfl (fun ls hl => ?_)
    refine lv_iload X.1 X.2.1 dX10_weigh_202 (lv_at hl 0 rfl) ?_
    refine lv_if_ne (tgt := 210) X.1 X.2.1 dX10_weigh_204 (by decide) (fun c204 => ?_) (fun c204 => ?_)
    · have hf := si_in c204 hf
      refine lv_aload_n X.1 X.2.1 dX10_weigh_210 rfl (lv_at hl 2 rfl) ?_
      refine si_getR (k' := 88) (d := 1) X hw si_cl10 1 (by decide) gf_RX10_13 rfl rfl rfl (by decide) rfl dX10_weigh_211 ?_
      refine lv_sipush (v := 673) X.1 X.2.1 dX10_weigh_214 (by decide) ?_
      refine lv_iload_n X.1 X.2.1 dX10_weigh_217 rfl (lv_at hl 3 rfl) ?_
      refine lv_iadd X.1 X.2.1 dX10_weigh_218 ?_
      obtain ⟨v5, ev5, hf⟩ := si_ob hf
      refine si_iald X hw rfl ev5 dX10_weigh_219 ?_
      refine lv_bipush (v := 20) X.1 X.2.1 dX10_weigh_220 (by decide) ?_
      refine lv_icmp_ne (tgt := 228) X.1 X.2.1 dX10_weigh_222 (by decide) (fun c222 => ?_) (fun c222 => ?_)
      · have hf := si_in c222 hf
        refine lv_aload_n X.1 X.2.1 dX10_weigh_228 rfl (lv_at hl 2 rfl) ?_
        obtain ⟨S6, eS6, hf⟩ := si_ob hf
        refine si_cVv [] cal_X10_keeps gm_RX10_249 X hw hA hl.1 (c_X10_keeps l E F q3.2 S6 eS6) si_cl10 rfl ⟨⟨rfl, rfl⟩, Nat.le_of_ble_eq_true rfl, Nat.le_of_ble_eq_true rfl⟩ rfl rfl (Nat.le_of_ble_eq_true rfl) ⟨Nat.zero_le _, Nat.zero_le _⟩ dX10_weigh_229 (fun H locs hw => ?_)
        refine lv_aload_n X.1 X.2.1 dX10_weigh_232 rfl (lv_at hl 2 rfl) ?_
        refine si_getR (k' := 88) (d := 1) X hw si_cl10 1 (by decide) gf_RX10_13 rfl rfl rfl (by decide) rfl dX10_weigh_233 ?_
        refine lv_sipush (v := 661) X.1 X.2.1 dX10_weigh_236 (by decide) ?_
        refine lv_iload_n X.1 X.2.1 dX10_weigh_239 rfl (lv_at hl 3 rfl) ?_
        refine lv_iadd X.1 X.2.1 dX10_weigh_240 ?_
        refine lv_iload X.1 X.2.1 dX10_weigh_241 (lv_at hl 4 rfl) ?_
        obtain ⟨S7, eS7, hf⟩ := si_ob hf
        refine si_iast X hw rfl eS7 dX10_weigh_243 (fun H locs hw => ?_)
        refine lv_aload_n X.1 X.2.1 dX10_weigh_244 rfl (lv_at hl 2 rfl) ?_
        refine si_getR (k' := 88) (d := 1) X hw si_cl10 1 (by decide) gf_RX10_13 rfl rfl rfl (by decide) rfl dX10_weigh_245 ?_
        refine lv_sipush (v := 665) X.1 X.2.1 dX10_weigh_248 (by decide) ?_
        refine lv_iload_n X.1 X.2.1 dX10_weigh_251 rfl (lv_at hl 3 rfl) ?_
        refine lv_iadd X.1 X.2.1 dX10_weigh_252 ?_
        refine lv_iload X.1 X.2.1 dX10_weigh_253 (lv_at hl 1 rfl) ?_
        obtain ⟨S8, eS8, hf⟩ := si_ob hf
        refine si_iast X hw rfl eS8 dX10_weigh_255 (fun H locs hw => ?_)
        refine lv_aload_n X.1 X.2.1 dX10_weigh_256 rfl (lv_at hl 2 rfl) ?_
        refine si_getR (k' := 88) (d := 1) X hw si_cl10 1 (by decide) gf_RX10_13 rfl rfl rfl (by decide) rfl dX10_weigh_257 ?_
        refine lv_sipush (v := 669) X.1 X.2.1 dX10_weigh_260 (by decide) ?_
        refine lv_iload_n X.1 X.2.1 dX10_weigh_263 rfl (lv_at hl 3 rfl) ?_
        refine lv_iadd X.1 X.2.1 dX10_weigh_264 ?_
        refine lv_iload X.1 X.2.1 dX10_weigh_265 (lv_at hl 5 rfl) ?_
        obtain ⟨S9, eS9, hf⟩ := si_ob hf
        refine si_iast X hw rfl eS9 dX10_weigh_267 (fun H locs hw => ?_)
        refine lv_aload_n X.1 X.2.1 dX10_weigh_268 rfl (lv_at hl 2 rfl) ?_
        refine si_getR (k' := 88) (d := 1) X hw si_cl10 1 (by decide) gf_RX10_13 rfl rfl rfl (by decide) rfl dX10_weigh_269 ?_
        refine lv_sipush (v := 673) X.1 X.2.1 dX10_weigh_272 (by decide) ?_
        refine lv_iload_n X.1 X.2.1 dX10_weigh_275 rfl (lv_at hl 3 rfl) ?_
        refine lv_iadd X.1 X.2.1 dX10_weigh_276 ?_
        refine lv_dup2_11 X.1 X.2.1 dX10_weigh_277 rfl rfl ?_
        obtain ⟨v10, ev10, hf⟩ := si_ob hf
        refine si_iald X hw rfl ev10 dX10_weigh_278 ?_
        refine lv_iconst (v := 1) X.1 X.2.1 dX10_weigh_279 (by decide) ?_
        refine lv_iadd X.1 X.2.1 dX10_weigh_280 ?_
        obtain ⟨S11, eS11, hf⟩ := si_ob hf
        refine si_iast X hw rfl eS11 dX10_weigh_281 (fun H locs hw => ?_)
        refine lv_iload X.1 X.2.1 dX10_weigh_282 (lv_at hl 0 rfl) ?_
        exact hret _ _ _ _ _ _ hf hw dX10_weigh_284
      · have hf := si_ip c222 hf
        refine lv_bipush (v := (-3)) X.1 X.2.1 dX10_weigh_225 (by decide) ?_
        exact hret _ _ _ _ _ _ hf hw dX10_weigh_227
    · have hf := si_ip c204 hf
      refine lv_bipush (v := (-2)) X.1 X.2.1 dX10_weigh_207 (by decide) ?_
      exact hret _ _ _ _ _ _ hf hw dX10_weigh_209
  have B154 : ∀ (x1 : Int32) (x2 : Int32) (x3 : Int32) (x4 : Int32) (x7 : Int32) (x8 : Int32) (t0 : Int32) (t1 : Int32) (S : si_St) (H : Heap) (locs : List Loc) (ls : Array Slot) , f_X10_weigh_h154 F x1 x2 x3 x4 x7 x8 t0 t1 S = some o → si_Ws E A s.heap S H locs → lv_has ls 10 [(0, .ref (E.2.1 87)), (1, .int x1), (2, .int x2), (3, .int x3), (4, .int x4), (7, .int x7), (8, .int x8)] → W p l e rm_X10_weigh s m args below meth c H locs 0 0 Q (F0 m 154 ls [.int t0, .int t1]) := by
    intro x1 x2 x3 x4 x7 x8 t0 t1  S H locs ls  hf hw hl
    unfold f_X10_weigh_h154 at hf
    refine lv_iand X.1 X.2.1 dX10_weigh_154 ?_
    obtain ⟨v12, ev12, hf⟩ := si_ob hf
    refine si_nmI ev12 ?_
    refine lv_istore (lv' := [(6, .int v12), (0, .ref (E.2.1 87)), (1, .int x1), (2, .int x2), (3, .int x3), (4, .int x4), (7, .int x7), (8, .int x8)]) X.1 X.2.1 dX10_weigh_155 hl (by decide) rfl (fun ls hl => ?_)
    refine lv_iload X.1 X.2.1 dX10_weigh_157 (lv_at hl 6 rfl) ?_
    refine lv_iload X.1 X.2.1 dX10_weigh_159 (lv_at hl 5 rfl) ?_
    refine lv_if_ne (tgt := 172) X.1 X.2.1 dX10_weigh_161 (by decide) (fun c161 => ?_) (fun c161 => ?_)
    · have hf := si_in c161 hf
      refine lv_iload X.1 X.2.1 dX10_weigh_172 (lv_at hl 5 rfl) ?_
      refine lv_iconst (v := 1) X.1 X.2.1 dX10_weigh_174 (by decide) ?_
      refine lv_icmp_ne (tgt := 182) X.1 X.2.1 dX10_weigh_175 (by decide) (fun c175 => ?_) (fun c175 => ?_)
      · have hf := si_in c175 hf
        refine lv_iload_n X.1 X.2.1 dX10_weigh_182 rfl (lv_at hl 3 rfl) ?_
        exact B183 _ _ _ _ _ _ _ _ _ hf hw (lv_sub hl [1, 2, 0, 7] rfl)
      · have hf := si_ip c175 hf
        refine lv_iload_n X.1 X.2.1 dX10_weigh_178 rfl (lv_at hl 4 rfl) ?_
        refine lv_goto (tgt := 183) X.1 X.2.1 dX10_weigh_179 (by decide) ?_
        exact B183 _ _ _ _ _ _ _ _ _ hf hw (lv_sub hl [1, 2, 0, 7] rfl)
    · have hf := si_ip c161 hf
      refine lv_iload_n X.1 X.2.1 dX10_weigh_164 rfl (lv_at hl 3 rfl) ?_
      refine lv_iload_n X.1 X.2.1 dX10_weigh_165 rfl (lv_at hl 4 rfl) ?_
      refine lv_ior X.1 X.2.1 dX10_weigh_166 ?_
      refine lv_iconst (v := (-1)) X.1 X.2.1 dX10_weigh_167 (by decide) ?_
      refine lv_ixor X.1 X.2.1 dX10_weigh_168 ?_
      refine lv_goto (tgt := 183) X.1 X.2.1 dX10_weigh_169 (by decide) ?_
      exact B183 _ _ _ _ _ _ _ _ _ hf hw (lv_sub hl [1, 2, 0, 7] rfl)
  have B126 : ∀ (x1 : Int32) (x2 : Int32) (x3 : Int32) (x4 : Int32) (x6 : Int32) (x7 : Int32) (t0 : Int32) (S : si_St) (H : Heap) (locs : List Loc) (ls : Array Slot) , f_X10_weigh_h126 F x1 x2 x3 x4 x6 x7 t0 S = some o → si_Ws E A s.heap S H locs → lv_has ls 10 [(0, .ref (E.2.1 87)), (1, .int x1), (2, .int x2), (3, .int x3), (4, .int x4), (6, .int x6), (7, .int x7)] → W p l e rm_X10_weigh s m args below meth c H locs 0 0 Q (F0 m 126 ls [.int t0]) := by
    intro x1 x2 x3 x4 x6 x7 t0  S H locs ls  hf hw hl
    unfold f_X10_weigh_h126 at hf
    refine lv_istore (lv' := [(8, .int t0), (0, .ref (E.2.1 87)), (1, .int x1), (2, .int x2), (3, .int x3), (4, .int x4), (6, .int x6), (7, .int x7)]) X.1 X.2.1 dX10_weigh_126 hl (by decide) rfl (fun ls hl => ?_)
    refine lv_iload X.1 X.2.1 dX10_weigh_128 (lv_at hl 6 rfl) ?_
    refine lv_iload X.1 X.2.1 dX10_weigh_130 (lv_at hl 5 rfl) ?_
    refine lv_if_ne (tgt := 143) X.1 X.2.1 dX10_weigh_132 (by decide) (fun c132 => ?_) (fun c132 => ?_)
    · have hf := si_in c132 hf
      refine lv_iload X.1 X.2.1 dX10_weigh_143 (lv_at hl 5 rfl) ?_
      refine lv_iconst (v := 1) X.1 X.2.1 dX10_weigh_145 (by decide) ?_
      refine lv_icmp_ne (tgt := 153) X.1 X.2.1 dX10_weigh_146 (by decide) (fun c146 => ?_) (fun c146 => ?_)
      · have hf := si_in c146 hf
        refine lv_iload_n X.1 X.2.1 dX10_weigh_153 rfl (lv_at hl 4 rfl) ?_
        exact B154 _ _ _ _ _ _ _ _ _ _ _ _ hf hw (lv_sub hl [1, 2, 3, 4, 5, 7, 0] rfl)
      · have hf := si_ip c146 hf
        refine lv_iload_n X.1 X.2.1 dX10_weigh_149 rfl (lv_at hl 3 rfl) ?_
        refine lv_goto (tgt := 154) X.1 X.2.1 dX10_weigh_150 (by decide) ?_
        exact B154 _ _ _ _ _ _ _ _ _ _ _ _ hf hw (lv_sub hl [1, 2, 3, 4, 5, 7, 0] rfl)
    · have hf := si_ip c132 hf
      refine lv_iload_n X.1 X.2.1 dX10_weigh_135 rfl (lv_at hl 3 rfl) ?_
      refine lv_iload_n X.1 X.2.1 dX10_weigh_136 rfl (lv_at hl 4 rfl) ?_
      refine lv_ior X.1 X.2.1 dX10_weigh_137 ?_
      refine lv_iconst (v := (-1)) X.1 X.2.1 dX10_weigh_138 (by decide) ?_
      refine lv_ixor X.1 X.2.1 dX10_weigh_139 ?_
      refine lv_goto (tgt := 154) X.1 X.2.1 dX10_weigh_140 (by decide) ?_
      exact B154 _ _ _ _ _ _ _ _ _ _ _ _ hf hw (lv_sub hl [1, 2, 3, 4, 5, 7, 0] rfl)
  unfold f_X10_weigh at hf
  refine lv_aload_n X.1 X.2.1 dX10_weigh_0 rfl (lv_at hl 0 rfl) ?_
  refine lv_iconst (v := 0) X.1 X.2.1 dX10_weigh_1 (by decide) ?_
  obtain ⟨S13, eS13, hf⟩ := si_ob hf
  refine si_ptI X hw si_cl10 0 (by decide) gf_RX10_1 rfl rfl rfl rfl rfl eS13 dX10_weigh_2 (fun H locs hw => ?_)
  refine lv_aload_n X.1 X.2.1 dX10_weigh_5 rfl (lv_at hl 0 rfl) ?_
  refine lv_iload_n X.1 X.2.1 dX10_weigh_6 rfl (lv_at hl 1 rfl) ?_
  obtain ⟨q14, eq14, hf⟩ := si_ob hf
  refine si_cVi [.int x1] cal_X10_isSet gm_RX10_323 X hw hA hl.1 (c_X10_isSet l E F x1 S13 q14 eq14) si_cl10 rfl ⟨⟨rfl, rfl⟩, Nat.le_of_ble_eq_true rfl, Nat.le_of_ble_eq_true rfl⟩ rfl rfl (Nat.le_of_ble_eq_true rfl) ⟨Nat.zero_le _, Nat.zero_le _⟩ dX10_weigh_7 (fun H locs hw => ?_)
  refine lv_if_ne (tgt := 15) X.1 X.2.1 dX10_weigh_10 (by decide) (fun c10 => ?_) (fun c10 => ?_)
  · have hf := si_in c10 hf
    refine lv_iconst (v := 1) X.1 X.2.1 dX10_weigh_15 (by decide) ?_
    refine lv_aload_n X.1 X.2.1 dX10_weigh_16 rfl (lv_at hl 0 rfl) ?_
    refine si_getR (k' := 94) (d := 7) X hw si_cl10 11 (by decide) gf_RX10_32 rfl rfl rfl (by decide) rfl dX10_weigh_17 ?_
    refine lv_iload_n X.1 X.2.1 dX10_weigh_20 rfl (lv_at hl 1 rfl) ?_
    obtain ⟨v15, ev15, hf⟩ := si_ob hf
    refine si_iald X hw rfl ev15 dX10_weigh_21 ?_
    refine lv_ishl X.1 X.2.1 dX10_weigh_22 ?_
    refine lv_iconst (v := 1) X.1 X.2.1 dX10_weigh_23 (by decide) ?_
    refine lv_isub X.1 X.2.1 dX10_weigh_24 ?_
    obtain ⟨v16, ev16, hf⟩ := si_ob hf
    refine si_nmI ev16 ?_
    refine lv_istore (lv' := [(5, .int v16), (0, .ref (E.2.1 87)), (1, .int x1), (2, .int x2), (3, .int x3), (4, .int x4)]) X.1 X.2.1 dX10_weigh_25 hl (by decide) rfl (fun ls hl => ?_)
    refine lv_iload_n X.1 X.2.1 dX10_weigh_27 rfl (lv_at hl 3 rfl) ?_
    refine lv_i2l (v := (Int32.toInt64 x2)) X.1 X.2.1 dX10_weigh_28 rfl ?_
    refine lv_lconst (v := (1 : Int64)) X.1 X.2.1 dX10_weigh_29 (by decide) ?_
    refine lv_iload X.1 X.2.1 dX10_weigh_30 (lv_at hl 0 rfl) ?_
    refine lv_i2l (v := (Int32.toInt64 v16)) X.1 X.2.1 dX10_weigh_32 rfl ?_
    obtain ⟨q17, eq17, hf⟩ := si_ob hf
    refine si_cSi [.long (Int32.toInt64 x2), .long (1 : Int64), .long (Int32.toInt64 v16)] cal_X10_within gm_RX10_124 X hw hA hl.1 (c_X10_within l E F (Int32.toInt64 x2) (1 : Int64) (Int32.toInt64 v16) q14.2 q17 eq17) ⟨⟨rfl, rfl⟩, Nat.le_of_ble_eq_true rfl, Nat.le_of_ble_eq_true rfl⟩ rfl rfl (Nat.le_of_ble_eq_true rfl) ⟨Nat.zero_le _, Nat.zero_le _⟩ dX10_weigh_33 (fun H locs hw => ?_)
    refine lv_if_eq (tgt := 81) X.1 X.2.1 dX10_weigh_36 (by decide) (fun c36 => ?_) (fun c36 => ?_)
    · have hf := si_ip c36 hf
      exact B81 _ _ _ _ hf hw (lv_sub hl [] rfl)
    · have hf := si_in c36 hf
      refine lv_iload_n X.1 X.2.1 dX10_weigh_39 rfl (lv_at hl 4 rfl) ?_
      refine lv_i2l (v := (Int32.toInt64 x3)) X.1 X.2.1 dX10_weigh_40 rfl ?_
      refine lv_lconst (v := (1 : Int64)) X.1 X.2.1 dX10_weigh_41 (by decide) ?_
      refine lv_iload X.1 X.2.1 dX10_weigh_42 (lv_at hl 0 rfl) ?_
      refine lv_i2l (v := (Int32.toInt64 v16)) X.1 X.2.1 dX10_weigh_44 rfl ?_
      obtain ⟨q18, eq18, hf⟩ := si_ob hf
      refine si_cSi [.long (Int32.toInt64 x3), .long (1 : Int64), .long (Int32.toInt64 v16)] cal_X10_within gm_RX10_124 X hw hA hl.1 (c_X10_within l E F (Int32.toInt64 x3) (1 : Int64) (Int32.toInt64 v16) q17.2 q18 eq18) ⟨⟨rfl, rfl⟩, Nat.le_of_ble_eq_true rfl, Nat.le_of_ble_eq_true rfl⟩ rfl rfl (Nat.le_of_ble_eq_true rfl) ⟨Nat.zero_le _, Nat.zero_le _⟩ dX10_weigh_45 (fun H locs hw => ?_)
      refine lv_if_eq (tgt := 81) X.1 X.2.1 dX10_weigh_48 (by decide) (fun c48 => ?_) (fun c48 => ?_)
      · have hf := si_ip c48 hf
        exact B81 _ _ _ _ hf hw (lv_sub hl [] rfl)
      · have hf := si_in c48 hf
        refine lv_iload_n X.1 X.2.1 dX10_weigh_51 rfl (lv_at hl 3 rfl) ?_
        refine lv_iload_n X.1 X.2.1 dX10_weigh_52 rfl (lv_at hl 4 rfl) ?_
        refine lv_iand X.1 X.2.1 dX10_weigh_53 ?_
        refine lv_if_ne (tgt := 81) X.1 X.2.1 dX10_weigh_54 (by decide) (fun c54 => ?_) (fun c54 => ?_)
        · have hf := si_in c54 hf
          exact B81 _ _ _ _ hf hw (lv_sub hl [] rfl)
        · have hf := si_ip c54 hf
          refine lv_iload_n X.1 X.2.1 dX10_weigh_57 rfl (lv_at hl 3 rfl) ?_
          obtain ⟨q19, eq19, hf⟩ := si_ob hf
          refine si_cSi [.int x2] cal_X10_bits gm_RX10_244 X hw hA hl.1 (c_X10_bits l E F x2 q18.2 q19 eq19) ⟨⟨rfl, rfl⟩, Nat.le_of_ble_eq_true rfl, Nat.le_of_ble_eq_true rfl⟩ rfl rfl (Nat.le_of_ble_eq_true rfl) ⟨Nat.zero_le _, Nat.zero_le _⟩ dX10_weigh_58 (fun H locs hw => ?_)
          refine lv_iload_n X.1 X.2.1 dX10_weigh_61 rfl (lv_at hl 4 rfl) ?_
          obtain ⟨q20, eq20, hf⟩ := si_ob hf
          refine si_cSi [.int x3] cal_X10_bits gm_RX10_244 X hw hA hl.1 (c_X10_bits l E F x3 q19.2 q20 eq20) ⟨⟨rfl, rfl⟩, Nat.le_of_ble_eq_true rfl, Nat.le_of_ble_eq_true rfl⟩ rfl rfl (Nat.le_of_ble_eq_true rfl) ⟨Nat.zero_le _, Nat.zero_le _⟩ dX10_weigh_62 (fun H locs hw => ?_)
          refine lv_icmp_ne (tgt := 81) X.1 X.2.1 dX10_weigh_65 (by decide) (fun c65 => ?_) (fun c65 => ?_)
          · have hf := si_in c65 hf
            exact B81 _ _ _ _ hf hw (lv_sub hl [] rfl)
          · have hf := si_ip c65 hf
            refine lv_iload X.1 X.2.1 dX10_weigh_68 (lv_at hl 5 rfl) ?_
            refine lv_i2l (v := (Int32.toInt64 x4)) X.1 X.2.1 dX10_weigh_70 rfl ?_
            refine lv_lconst (v := (0 : Int64)) X.1 X.2.1 dX10_weigh_71 (by decide) ?_
            refine lv_ldc2 (v := (2 : Int64)) X.1 X.2.1 X.2.2.2.1 (si_wd X gk_RX10_326) dX10_weigh_72 ?_
            obtain ⟨q21, eq21, hf⟩ := si_ob hf
            refine si_cSi [.long (Int32.toInt64 x4), .long (0 : Int64), .long (2 : Int64)] cal_X10_within gm_RX10_124 X hw hA hl.1 (c_X10_within l E F (Int32.toInt64 x4) (0 : Int64) (2 : Int64) q20.2 q21 eq21) ⟨⟨rfl, rfl⟩, Nat.le_of_ble_eq_true rfl, Nat.le_of_ble_eq_true rfl⟩ rfl rfl (Nat.le_of_ble_eq_true rfl) ⟨Nat.zero_le _, Nat.zero_le _⟩ dX10_weigh_75 (fun H locs hw => ?_)
            refine lv_if_ne (tgt := 83) X.1 X.2.1 dX10_weigh_78 (by decide) (fun c78 => ?_) (fun c78 => ?_)
            · have hf := si_in c78 hf
              refine lv_aload_n X.1 X.2.1 dX10_weigh_83 rfl (lv_at hl 1 rfl) ?_
              refine si_getR (k' := 88) (d := 1) X hw si_cl10 1 (by decide) gf_RX10_13 rfl rfl rfl (by decide) rfl dX10_weigh_84 ?_
              refine lv_sipush (v := 661) X.1 X.2.1 dX10_weigh_87 (by decide) ?_
              refine lv_iload_n X.1 X.2.1 dX10_weigh_90 rfl (lv_at hl 2 rfl) ?_
              refine lv_iadd X.1 X.2.1 dX10_weigh_91 ?_
              obtain ⟨v22, ev22, hf⟩ := si_ob hf
              refine si_iald X hw rfl ev22 dX10_weigh_92 ?_
              refine lv_istore (lv' := [(6, .int v22), (5, .int v16), (0, .ref (E.2.1 87)), (1, .int x1), (2, .int x2), (3, .int x3), (4, .int x4)]) X.1 X.2.1 dX10_weigh_93 hl (by decide) rfl (fun ls hl => ?_)
              refine lv_aload_n X.1 X.2.1 dX10_weigh_95 rfl (lv_at hl 2 rfl) ?_
              refine si_getR (k' := 88) (d := 1) X hw si_cl10 1 (by decide) gf_RX10_13 rfl rfl rfl (by decide) rfl dX10_weigh_96 ?_
              refine lv_sipush (v := 665) X.1 X.2.1 dX10_weigh_99 (by decide) ?_
              refine lv_iload_n X.1 X.2.1 dX10_weigh_102 rfl (lv_at hl 3 rfl) ?_
              refine lv_iadd X.1 X.2.1 dX10_weigh_103 ?_
              obtain ⟨v23, ev23, hf⟩ := si_ob hf
              refine si_iald X hw rfl ev23 dX10_weigh_104 ?_
              refine lv_istore (lv' := [(7, .int v23), (6, .int v22), (5, .int v16), (0, .ref (E.2.1 87)), (1, .int x1), (2, .int x2), (3, .int x3), (4, .int x4)]) X.1 X.2.1 dX10_weigh_105 hl (by decide) rfl (fun ls hl => ?_)
              refine lv_iload X.1 X.2.1 dX10_weigh_107 (lv_at hl 7 rfl) ?_
              refine lv_if_ne (tgt := 125) X.1 X.2.1 dX10_weigh_109 (by decide) (fun c109 => ?_) (fun c109 => ?_)
              · have hf := si_in c109 hf
                refine lv_iconst (v := 0) X.1 X.2.1 dX10_weigh_125 (by decide) ?_
                exact B126 _ _ _ _ _ _ _ _ _ _ _ hf hw (lv_sub hl [3, 4, 5, 6, 7, 1, 0] rfl)
              · have hf := si_ip c109 hf
                refine lv_aload_n X.1 X.2.1 dX10_weigh_112 rfl (lv_at hl 3 rfl) ?_
                refine si_getR (k' := 88) (d := 1) X hw si_cl10 1 (by decide) gf_RX10_13 rfl rfl rfl (by decide) rfl dX10_weigh_113 ?_
                refine lv_sipush (v := 669) X.1 X.2.1 dX10_weigh_116 (by decide) ?_
                refine lv_iload_n X.1 X.2.1 dX10_weigh_119 rfl (lv_at hl 4 rfl) ?_
                refine lv_iadd X.1 X.2.1 dX10_weigh_120 ?_
                obtain ⟨v24, ev24, hf⟩ := si_ob hf
                refine si_iald X hw rfl ev24 dX10_weigh_121 ?_
                refine lv_goto (tgt := 126) X.1 X.2.1 dX10_weigh_122 (by decide) ?_
                exact B126 _ _ _ _ _ _ _ _ _ _ _ hf hw (lv_sub hl [3, 4, 5, 6, 7, 1, 0] rfl)
            · have hf := si_ip c78 hf
              exact B81 _ _ _ _ hf hw (lv_sub hl [] rfl)
  · have hf := si_ip c10 hf
    refine lv_iconst (v := (-1)) X.1 X.2.1 dX10_weigh_13 (by decide) ?_
    exact hret _ _ _ _ _ _ hf hw dX10_weigh_14
abbrev rm_X10_weighingCount : Room := { frames := 2, cells := 0, slots := 0, locals := 46 }
set_option maxHeartbeats 4000000 in
set_option maxRecDepth 100000 in
theorem c_X10_weighingCount (l : Launch) (E : si_Ev) (F : Nat) (x1 : Int32) (S : si_St) (o : Int32 × si_St) (hf : f_X10_weighingCount F x1 S = some o) : si_Mi l E yX10_weighingCount cX10_weighingCount 2 (some .int) rm_X10_weighingCount [.ref (E.2.1 87), .int x1] S o := by
  refine si_ofWi (plainFor_of_name (by decide +kernel)) (Nat.le_of_ble_eq_true rfl) ?_
  intro p e s m args below meth c ls Q A X hw hA hl hret
  have hl : lv_has ls 2 [(0, .ref (E.2.1 87)), (1, .int x1)] := hl
  have B27 : ∀ (t0 : Int32) (S : si_St) (H : Heap) (locs : List Loc) (ls : Array Slot) , f_X10_weighingCount_h27 F t0 S = some o → si_Ws E A s.heap S H locs → lv_has ls 2 [] → W p l e rm_X10_weighingCount s m args below meth c H locs 0 0 Q (F0 m 27 ls [.int t0]) := by
    intro t0  S H locs ls  hf hw hl
    unfold f_X10_weighingCount_h27 at hf
    exact hret _ _ _ _ _ _ hf hw dX10_weighingCount_27
  unfold f_X10_weighingCount at hf
  refine lv_aload_n X.1 X.2.1 dX10_weighingCount_0 rfl (lv_at hl 0 rfl) ?_
  refine lv_iconst (v := 0) X.1 X.2.1 dX10_weighingCount_1 (by decide) ?_
  obtain ⟨S1, eS1, hf⟩ := si_ob hf
  refine si_ptI X hw si_cl10 0 (by decide) gf_RX10_1 rfl rfl rfl rfl rfl eS1 dX10_weighingCount_2 (fun H locs hw => ?_)
  refine lv_aload_n X.1 X.2.1 dX10_weighingCount_5 rfl (lv_at hl 0 rfl) ?_
  refine lv_iload_n X.1 X.2.1 dX10_weighingCount_6 rfl (lv_at hl 1 rfl) ?_
  obtain ⟨q2, eq2, hf⟩ := si_ob hf
  refine si_cVi [.int x1] cal_X10_isSet gm_RX10_323 X hw hA hl.1 (c_X10_isSet l E F x1 S1 q2 eq2) si_cl10 rfl ⟨⟨rfl, rfl⟩, Nat.le_of_ble_eq_true rfl, Nat.le_of_ble_eq_true rfl⟩ rfl rfl (Nat.le_of_ble_eq_true rfl) ⟨Nat.zero_le _, Nat.zero_le _⟩ dX10_weighingCount_7 (fun H locs hw => ?_)
  refine lv_if_eq (tgt := 26) X.1 X.2.1 dX10_weighingCount_10 (by decide) (fun c10 => ?_) (fun c10 => ?_)
  · have hf := si_ip c10 hf
    refine lv_iconst (v := (-1)) X.1 X.2.1 dX10_weighingCount_26 (by decide) ?_
    exact B27 _ _ _ _ _ hf hw (lv_sub hl [] rfl)
  · have hf := si_in c10 hf
    refine lv_aload_n X.1 X.2.1 dX10_weighingCount_13 rfl (lv_at hl 0 rfl) ?_
    refine si_getR (k' := 88) (d := 1) X hw si_cl10 1 (by decide) gf_RX10_13 rfl rfl rfl (by decide) rfl dX10_weighingCount_14 ?_
    refine lv_sipush (v := 673) X.1 X.2.1 dX10_weighingCount_17 (by decide) ?_
    refine lv_iload_n X.1 X.2.1 dX10_weighingCount_20 rfl (lv_at hl 1 rfl) ?_
    refine lv_iadd X.1 X.2.1 dX10_weighingCount_21 ?_
    obtain ⟨v3, ev3, hf⟩ := si_ob hf
    refine si_iald X hw rfl ev3 dX10_weighingCount_22 ?_
    refine lv_goto (tgt := 27) X.1 X.2.1 dX10_weighingCount_23 (by decide) ?_
    exact B27 _ _ _ _ _ hf hw (lv_sub hl [] rfl)
abbrev rm_X10_hypothesisCount : Room := { frames := 2, cells := 0, slots := 0, locals := 46 }
set_option maxHeartbeats 4000000 in
set_option maxRecDepth 100000 in
theorem c_X10_hypothesisCount (l : Launch) (E : si_Ev) (F : Nat) (x1 : Int32) (S : si_St) (o : Int32 × si_St) (hf : f_X10_hypothesisCount F x1 S = some o) : si_Mi l E yX10_hypothesisCount cX10_hypothesisCount 2 (some .int) rm_X10_hypothesisCount [.ref (E.2.1 87), .int x1] S o := by
  refine si_ofWi (plainFor_of_name (by decide +kernel)) (Nat.le_of_ble_eq_true rfl) ?_
  intro p e s m args below meth c ls Q A X hw hA hl hret
  have hl : lv_has ls 2 [(0, .ref (E.2.1 87)), (1, .int x1)] := hl
  have B22 : ∀ (t0 : Int32) (S : si_St) (H : Heap) (locs : List Loc) (ls : Array Slot) , f_X10_hypothesisCount_h22 F t0 S = some o → si_Ws E A s.heap S H locs → lv_has ls 2 [] → W p l e rm_X10_hypothesisCount s m args below meth c H locs 0 0 Q (F0 m 22 ls [.int t0]) := by
    intro t0  S H locs ls  hf hw hl
    unfold f_X10_hypothesisCount_h22 at hf
    exact hret _ _ _ _ _ _ hf hw dX10_hypothesisCount_22
  unfold f_X10_hypothesisCount at hf
  refine lv_aload_n X.1 X.2.1 dX10_hypothesisCount_0 rfl (lv_at hl 0 rfl) ?_
  refine lv_iconst (v := 0) X.1 X.2.1 dX10_hypothesisCount_1 (by decide) ?_
  obtain ⟨S1, eS1, hf⟩ := si_ob hf
  refine si_ptI X hw si_cl10 0 (by decide) gf_RX10_1 rfl rfl rfl rfl rfl eS1 dX10_hypothesisCount_2 (fun H locs hw => ?_)
  refine lv_aload_n X.1 X.2.1 dX10_hypothesisCount_5 rfl (lv_at hl 0 rfl) ?_
  refine lv_iload_n X.1 X.2.1 dX10_hypothesisCount_6 rfl (lv_at hl 1 rfl) ?_
  obtain ⟨q2, eq2, hf⟩ := si_ob hf
  refine si_cVi [.int x1] cal_X10_isSet gm_RX10_323 X hw hA hl.1 (c_X10_isSet l E F x1 S1 q2 eq2) si_cl10 rfl ⟨⟨rfl, rfl⟩, Nat.le_of_ble_eq_true rfl, Nat.le_of_ble_eq_true rfl⟩ rfl rfl (Nat.le_of_ble_eq_true rfl) ⟨Nat.zero_le _, Nat.zero_le _⟩ dX10_hypothesisCount_7 (fun H locs hw => ?_)
  refine lv_if_eq (tgt := 21) X.1 X.2.1 dX10_hypothesisCount_10 (by decide) (fun c10 => ?_) (fun c10 => ?_)
  · have hf := si_ip c10 hf
    refine lv_iconst (v := (-1)) X.1 X.2.1 dX10_hypothesisCount_21 (by decide) ?_
    exact B22 _ _ _ _ _ hf hw (lv_sub hl [] rfl)
  · have hf := si_in c10 hf
    refine lv_aload_n X.1 X.2.1 dX10_hypothesisCount_13 rfl (lv_at hl 0 rfl) ?_
    refine lv_iload_n X.1 X.2.1 dX10_hypothesisCount_14 rfl (lv_at hl 1 rfl) ?_
    obtain ⟨q3, eq3, hf⟩ := si_ob hf
    refine si_cVi [.int x1] cal_X10_countOf gm_RX10_328 X hw hA hl.1 (c_X10_countOf l E F x1 q2.2 q3 eq3) si_cl10 rfl ⟨⟨rfl, rfl⟩, Nat.le_of_ble_eq_true rfl, Nat.le_of_ble_eq_true rfl⟩ rfl rfl (Nat.le_of_ble_eq_true rfl) ⟨Nat.zero_le _, Nat.zero_le _⟩ dX10_hypothesisCount_15 (fun H locs hw => ?_)
    refine lv_goto (tgt := 22) X.1 X.2.1 dX10_hypothesisCount_18 (by decide) ?_
    exact B22 _ _ _ _ _ hf hw (lv_sub hl [] rfl)
abbrev rm_X10_heavySuspects : Room := { frames := 2, cells := 0, slots := 0, locals := 46 }
set_option maxHeartbeats 4000000 in
set_option maxRecDepth 100000 in
theorem c_X10_heavySuspects (l : Launch) (E : si_Ev) (F : Nat) (x1 : Int32) (S : si_St) (o : Int32 × si_St) (hf : f_X10_heavySuspects F x1 S = some o) : si_Mi l E yX10_heavySuspects cX10_heavySuspects 2 (some .int) rm_X10_heavySuspects [.ref (E.2.1 87), .int x1] S o := by
  refine si_ofWi (plainFor_of_name (by decide +kernel)) (Nat.le_of_ble_eq_true rfl) ?_
  intro p e s m args below meth c ls Q A X hw hA hl hret
  have hl : lv_has ls 2 [(0, .ref (E.2.1 87)), (1, .int x1)] := hl
  have B27 : ∀ (t0 : Int32) (S : si_St) (H : Heap) (locs : List Loc) (ls : Array Slot) , f_X10_heavySuspects_h27 F t0 S = some o → si_Ws E A s.heap S H locs → lv_has ls 2 [] → W p l e rm_X10_heavySuspects s m args below meth c H locs 0 0 Q (F0 m 27 ls [.int t0]) := by
    intro t0  S H locs ls  hf hw hl
    unfold f_X10_heavySuspects_h27 at hf
    exact hret _ _ _ _ _ _ hf hw dX10_heavySuspects_27
  unfold f_X10_heavySuspects at hf
  refine lv_aload_n X.1 X.2.1 dX10_heavySuspects_0 rfl (lv_at hl 0 rfl) ?_
  refine lv_iconst (v := 0) X.1 X.2.1 dX10_heavySuspects_1 (by decide) ?_
  obtain ⟨S1, eS1, hf⟩ := si_ob hf
  refine si_ptI X hw si_cl10 0 (by decide) gf_RX10_1 rfl rfl rfl rfl rfl eS1 dX10_heavySuspects_2 (fun H locs hw => ?_)
  refine lv_aload_n X.1 X.2.1 dX10_heavySuspects_5 rfl (lv_at hl 0 rfl) ?_
  refine lv_iload_n X.1 X.2.1 dX10_heavySuspects_6 rfl (lv_at hl 1 rfl) ?_
  obtain ⟨q2, eq2, hf⟩ := si_ob hf
  refine si_cVi [.int x1] cal_X10_isSet gm_RX10_323 X hw hA hl.1 (c_X10_isSet l E F x1 S1 q2 eq2) si_cl10 rfl ⟨⟨rfl, rfl⟩, Nat.le_of_ble_eq_true rfl, Nat.le_of_ble_eq_true rfl⟩ rfl rfl (Nat.le_of_ble_eq_true rfl) ⟨Nat.zero_le _, Nat.zero_le _⟩ dX10_heavySuspects_7 (fun H locs hw => ?_)
  refine lv_if_eq (tgt := 26) X.1 X.2.1 dX10_heavySuspects_10 (by decide) (fun c10 => ?_) (fun c10 => ?_)
  · have hf := si_ip c10 hf
    refine lv_iconst (v := (-1)) X.1 X.2.1 dX10_heavySuspects_26 (by decide) ?_
    exact B27 _ _ _ _ _ hf hw (lv_sub hl [] rfl)
  · have hf := si_in c10 hf
    refine lv_aload_n X.1 X.2.1 dX10_heavySuspects_13 rfl (lv_at hl 0 rfl) ?_
    refine si_getR (k' := 88) (d := 1) X hw si_cl10 1 (by decide) gf_RX10_13 rfl rfl rfl (by decide) rfl dX10_heavySuspects_14 ?_
    refine lv_sipush (v := 661) X.1 X.2.1 dX10_heavySuspects_17 (by decide) ?_
    refine lv_iload_n X.1 X.2.1 dX10_heavySuspects_20 rfl (lv_at hl 1 rfl) ?_
    refine lv_iadd X.1 X.2.1 dX10_heavySuspects_21 ?_
    obtain ⟨v3, ev3, hf⟩ := si_ob hf
    refine si_iald X hw rfl ev3 dX10_heavySuspects_22 ?_
    refine lv_goto (tgt := 27) X.1 X.2.1 dX10_heavySuspects_23 (by decide) ?_
    exact B27 _ _ _ _ _ hf hw (lv_sub hl [] rfl)
abbrev rm_X10_lightSuspects : Room := { frames := 2, cells := 0, slots := 0, locals := 46 }
set_option maxHeartbeats 4000000 in
set_option maxRecDepth 100000 in
theorem c_X10_lightSuspects (l : Launch) (E : si_Ev) (F : Nat) (x1 : Int32) (S : si_St) (o : Int32 × si_St) (hf : f_X10_lightSuspects F x1 S = some o) : si_Mi l E yX10_lightSuspects cX10_lightSuspects 2 (some .int) rm_X10_lightSuspects [.ref (E.2.1 87), .int x1] S o := by
  refine si_ofWi (plainFor_of_name (by decide +kernel)) (Nat.le_of_ble_eq_true rfl) ?_
  intro p e s m args below meth c ls Q A X hw hA hl hret
  have hl : lv_has ls 2 [(0, .ref (E.2.1 87)), (1, .int x1)] := hl
  have B27 : ∀ (t0 : Int32) (S : si_St) (H : Heap) (locs : List Loc) (ls : Array Slot) , f_X10_lightSuspects_h27 F t0 S = some o → si_Ws E A s.heap S H locs → lv_has ls 2 [] → W p l e rm_X10_lightSuspects s m args below meth c H locs 0 0 Q (F0 m 27 ls [.int t0]) := by
    intro t0  S H locs ls  hf hw hl
    unfold f_X10_lightSuspects_h27 at hf
    exact hret _ _ _ _ _ _ hf hw dX10_lightSuspects_27
  unfold f_X10_lightSuspects at hf
  refine lv_aload_n X.1 X.2.1 dX10_lightSuspects_0 rfl (lv_at hl 0 rfl) ?_
  refine lv_iconst (v := 0) X.1 X.2.1 dX10_lightSuspects_1 (by decide) ?_
  obtain ⟨S1, eS1, hf⟩ := si_ob hf
  refine si_ptI X hw si_cl10 0 (by decide) gf_RX10_1 rfl rfl rfl rfl rfl eS1 dX10_lightSuspects_2 (fun H locs hw => ?_)
  refine lv_aload_n X.1 X.2.1 dX10_lightSuspects_5 rfl (lv_at hl 0 rfl) ?_
  refine lv_iload_n X.1 X.2.1 dX10_lightSuspects_6 rfl (lv_at hl 1 rfl) ?_
  obtain ⟨q2, eq2, hf⟩ := si_ob hf
  refine si_cVi [.int x1] cal_X10_isSet gm_RX10_323 X hw hA hl.1 (c_X10_isSet l E F x1 S1 q2 eq2) si_cl10 rfl ⟨⟨rfl, rfl⟩, Nat.le_of_ble_eq_true rfl, Nat.le_of_ble_eq_true rfl⟩ rfl rfl (Nat.le_of_ble_eq_true rfl) ⟨Nat.zero_le _, Nat.zero_le _⟩ dX10_lightSuspects_7 (fun H locs hw => ?_)
  refine lv_if_eq (tgt := 26) X.1 X.2.1 dX10_lightSuspects_10 (by decide) (fun c10 => ?_) (fun c10 => ?_)
  · have hf := si_ip c10 hf
    refine lv_iconst (v := (-1)) X.1 X.2.1 dX10_lightSuspects_26 (by decide) ?_
    exact B27 _ _ _ _ _ hf hw (lv_sub hl [] rfl)
  · have hf := si_in c10 hf
    refine lv_aload_n X.1 X.2.1 dX10_lightSuspects_13 rfl (lv_at hl 0 rfl) ?_
    refine si_getR (k' := 88) (d := 1) X hw si_cl10 1 (by decide) gf_RX10_13 rfl rfl rfl (by decide) rfl dX10_lightSuspects_14 ?_
    refine lv_sipush (v := 665) X.1 X.2.1 dX10_lightSuspects_17 (by decide) ?_
    refine lv_iload_n X.1 X.2.1 dX10_lightSuspects_20 rfl (lv_at hl 1 rfl) ?_
    refine lv_iadd X.1 X.2.1 dX10_lightSuspects_21 ?_
    obtain ⟨v3, ev3, hf⟩ := si_ob hf
    refine si_iald X hw rfl ev3 dX10_lightSuspects_22 ?_
    refine lv_goto (tgt := 27) X.1 X.2.1 dX10_lightSuspects_23 (by decide) ?_
    exact B27 _ _ _ _ _ hf hw (lv_sub hl [] rfl)
abbrev rm_X10_canBeGenuine : Room := { frames := 2, cells := 0, slots := 0, locals := 46 }
set_option maxHeartbeats 4000000 in
set_option maxRecDepth 100000 in
theorem c_X10_canBeGenuine (l : Launch) (E : si_Ev) (F : Nat) (x1 : Int32) (S : si_St) (o : Int32 × si_St) (hf : f_X10_canBeGenuine F x1 S = some o) : si_Mi l E yX10_canBeGenuine cX10_canBeGenuine 2 (some .int) rm_X10_canBeGenuine [.ref (E.2.1 87), .int x1] S o := by
  refine si_ofWi (plainFor_of_name (by decide +kernel)) (Nat.le_of_ble_eq_true rfl) ?_
  intro p e s m args below meth c ls Q A X hw hA hl hret
  have hl : lv_has ls 2 [(0, .ref (E.2.1 87)), (1, .int x1)] := hl
  have B27 : ∀ (t0 : Int32) (S : si_St) (H : Heap) (locs : List Loc) (ls : Array Slot) , f_X10_canBeGenuine_h27 F t0 S = some o → si_Ws E A s.heap S H locs → lv_has ls 2 [] → W p l e rm_X10_canBeGenuine s m args below meth c H locs 0 0 Q (F0 m 27 ls [.int t0]) := by
    intro t0  S H locs ls  hf hw hl
    unfold f_X10_canBeGenuine_h27 at hf
    exact hret _ _ _ _ _ _ hf hw dX10_canBeGenuine_27
  unfold f_X10_canBeGenuine at hf
  refine lv_aload_n X.1 X.2.1 dX10_canBeGenuine_0 rfl (lv_at hl 0 rfl) ?_
  refine lv_iconst (v := 0) X.1 X.2.1 dX10_canBeGenuine_1 (by decide) ?_
  obtain ⟨S1, eS1, hf⟩ := si_ob hf
  refine si_ptI X hw si_cl10 0 (by decide) gf_RX10_1 rfl rfl rfl rfl rfl eS1 dX10_canBeGenuine_2 (fun H locs hw => ?_)
  refine lv_aload_n X.1 X.2.1 dX10_canBeGenuine_5 rfl (lv_at hl 0 rfl) ?_
  refine lv_iload_n X.1 X.2.1 dX10_canBeGenuine_6 rfl (lv_at hl 1 rfl) ?_
  obtain ⟨q2, eq2, hf⟩ := si_ob hf
  refine si_cVi [.int x1] cal_X10_isSet gm_RX10_323 X hw hA hl.1 (c_X10_isSet l E F x1 S1 q2 eq2) si_cl10 rfl ⟨⟨rfl, rfl⟩, Nat.le_of_ble_eq_true rfl, Nat.le_of_ble_eq_true rfl⟩ rfl rfl (Nat.le_of_ble_eq_true rfl) ⟨Nat.zero_le _, Nat.zero_le _⟩ dX10_canBeGenuine_7 (fun H locs hw => ?_)
  refine lv_if_eq (tgt := 26) X.1 X.2.1 dX10_canBeGenuine_10 (by decide) (fun c10 => ?_) (fun c10 => ?_)
  · have hf := si_ip c10 hf
    refine lv_iconst (v := (-1)) X.1 X.2.1 dX10_canBeGenuine_26 (by decide) ?_
    exact B27 _ _ _ _ _ hf hw (lv_sub hl [] rfl)
  · have hf := si_in c10 hf
    refine lv_aload_n X.1 X.2.1 dX10_canBeGenuine_13 rfl (lv_at hl 0 rfl) ?_
    refine si_getR (k' := 88) (d := 1) X hw si_cl10 1 (by decide) gf_RX10_13 rfl rfl rfl (by decide) rfl dX10_canBeGenuine_14 ?_
    refine lv_sipush (v := 669) X.1 X.2.1 dX10_canBeGenuine_17 (by decide) ?_
    refine lv_iload_n X.1 X.2.1 dX10_canBeGenuine_20 rfl (lv_at hl 1 rfl) ?_
    refine lv_iadd X.1 X.2.1 dX10_canBeGenuine_21 ?_
    obtain ⟨v3, ev3, hf⟩ := si_ob hf
    refine si_iald X hw rfl ev3 dX10_canBeGenuine_22 ?_
    refine lv_goto (tgt := 27) X.1 X.2.1 dX10_canBeGenuine_23 (by decide) ?_
    exact B27 _ _ _ _ _ hf hw (lv_sub hl [] rfl)
abbrev rm_X10_finding : Room := { frames := 2, cells := 0, slots := 0, locals := 46 }
set_option maxHeartbeats 4000000 in
set_option maxRecDepth 100000 in
theorem c_X10_finding (l : Launch) (E : si_Ev) (F : Nat) (x1 : Int32) (S : si_St) (o : Int32 × si_St) (hf : f_X10_finding F x1 S = some o) : si_Mi l E yX10_finding cX10_finding 3 (some .int) rm_X10_finding [.ref (E.2.1 87), .int x1] S o := by
  refine si_ofWi (plainFor_of_name (by decide +kernel)) (Nat.le_of_ble_eq_true rfl) ?_
  intro p e s m args below meth c ls Q A X hw hA hl hret
  have hl : lv_has ls 3 [(0, .ref (E.2.1 87)), (1, .int x1)] := hl
  have B29 : ∀ (n29 : Nat) (x1 : Int32) (x2 : Int32) (S : si_St) (H : Heap) (locs : List Loc) (ls : Array Slot) , f_X10_finding_l29 F n29 x1 x2 S = some o → si_Ws E A s.heap S H locs → lv_has ls 3 [(0, .ref (E.2.1 87)), (1, .int x1), (2, .int x2)] → W p l e rm_X10_finding s m args below meth c H locs 0 0 Q (F0 m 29 ls []) := by
    intro n29
    induction n29 with
    | zero => intro x1 x2  S H locs ls  hf; cases hf
    | succ n29 ih29 =>
      intro x1 x2  S H locs ls  hf hw hl
      have hf : f_X10_finding_h29 F (f_X10_finding_l29 F n29) x1 x2 S = some o := hf
      unfold f_X10_finding_h29 at hf
      refine lv_iload_n X.1 X.2.1 dX10_finding_29 rfl (lv_at hl 2 rfl) ?_
      refine lv_aload_n X.1 X.2.1 dX10_finding_30 rfl (lv_at hl 0 rfl) ?_
      refine si_getR (k' := 94) (d := 7) X hw si_cl10 11 (by decide) gf_RX10_32 rfl rfl rfl (by decide) rfl dX10_finding_31 ?_
      refine lv_iload_n X.1 X.2.1 dX10_finding_34 rfl (lv_at hl 1 rfl) ?_
      obtain ⟨v1, ev1, hf⟩ := si_ob hf
      refine si_iald X hw rfl ev1 dX10_finding_35 ?_
      refine lv_icmp_ge (tgt := 89) X.1 X.2.1 dX10_finding_36 (by decide) (fun c36 => ?_) (fun c36 => ?_)
      · have hf := si_ip c36 hf
        refine lv_iconst (v := 0) X.1 X.2.1 dX10_finding_89 (by decide) ?_
        exact hret _ _ _ _ _ _ hf hw dX10_finding_90
      · have hf := si_in c36 hf
        refine lv_aload_n X.1 X.2.1 dX10_finding_39 rfl (lv_at hl 0 rfl) ?_
        refine si_getR (k' := 88) (d := 1) X hw si_cl10 1 (by decide) gf_RX10_13 rfl rfl rfl (by decide) rfl dX10_finding_40 ?_
        refine lv_sipush (v := 661) X.1 X.2.1 dX10_finding_43 (by decide) ?_
        refine lv_iload_n X.1 X.2.1 dX10_finding_46 rfl (lv_at hl 1 rfl) ?_
        refine lv_iadd X.1 X.2.1 dX10_finding_47 ?_
        obtain ⟨v2, ev2, hf⟩ := si_ob hf
        refine si_iald X hw rfl ev2 dX10_finding_48 ?_
        refine lv_iconst (v := 1) X.1 X.2.1 dX10_finding_49 (by decide) ?_
        refine lv_iload_n X.1 X.2.1 dX10_finding_50 rfl (lv_at hl 2 rfl) ?_
        refine lv_ishl X.1 X.2.1 dX10_finding_51 ?_
        refine lv_icmp_ne (tgt := 61) X.1 X.2.1 dX10_finding_52 (by decide) (fun c52 => ?_) (fun c52 => ?_)
        · have hf := si_in c52 hf
          refine lv_aload_n X.1 X.2.1 dX10_finding_61 rfl (lv_at hl 0 rfl) ?_
          refine si_getR (k' := 88) (d := 1) X hw si_cl10 1 (by decide) gf_RX10_13 rfl rfl rfl (by decide) rfl dX10_finding_62 ?_
          refine lv_sipush (v := 665) X.1 X.2.1 dX10_finding_65 (by decide) ?_
          refine lv_iload_n X.1 X.2.1 dX10_finding_68 rfl (lv_at hl 1 rfl) ?_
          refine lv_iadd X.1 X.2.1 dX10_finding_69 ?_
          obtain ⟨v3, ev3, hf⟩ := si_ob hf
          refine si_iald X hw rfl ev3 dX10_finding_70 ?_
          refine lv_iconst (v := 1) X.1 X.2.1 dX10_finding_71 (by decide) ?_
          refine lv_iload_n X.1 X.2.1 dX10_finding_72 rfl (lv_at hl 2 rfl) ?_
          refine lv_ishl X.1 X.2.1 dX10_finding_73 ?_
          refine lv_icmp_ne (tgt := 83) X.1 X.2.1 dX10_finding_74 (by decide) (fun c74 => ?_) (fun c74 => ?_)
          · have hf := si_in c74 hf
            obtain ⟨v4, ev4, hf⟩ := si_ob hf
            refine lv_iinc (v := v4) (lv' := [(2, .int v4), (0, .ref (E.2.1 87)), (1, .int x1)]) X.1 X.2.1 dX10_finding_83 hl (k := 2) rfl (Option.some.inj ev4) (by decide) rfl (fun ls hl => ?_)
            refine lv_goto (tgt := 29) X.1 X.2.1 dX10_finding_86 (by decide) ?_
            exact ih29 _ _ _ _ _ _ hf hw (lv_sub hl [1, 2, 0] rfl)
          · have hf := si_ip c74 hf
            refine lv_iconst (v := 2) X.1 X.2.1 dX10_finding_77 (by decide) ?_
            refine lv_iconst (v := 2) X.1 X.2.1 dX10_finding_78 (by decide) ?_
            refine lv_iload_n X.1 X.2.1 dX10_finding_79 rfl (lv_at hl 2 rfl) ?_
            refine lv_imul X.1 X.2.1 dX10_finding_80 ?_
            refine lv_iadd X.1 X.2.1 dX10_finding_81 ?_
            exact hret _ _ _ _ _ _ hf hw dX10_finding_82
        · have hf := si_ip c52 hf
          refine lv_iconst (v := 1) X.1 X.2.1 dX10_finding_55 (by decide) ?_
          refine lv_iconst (v := 2) X.1 X.2.1 dX10_finding_56 (by decide) ?_
          refine lv_iload_n X.1 X.2.1 dX10_finding_57 rfl (lv_at hl 2 rfl) ?_
          refine lv_imul X.1 X.2.1 dX10_finding_58 ?_
          refine lv_iadd X.1 X.2.1 dX10_finding_59 ?_
          exact hret _ _ _ _ _ _ hf hw dX10_finding_60
  unfold f_X10_finding at hf
  refine lv_aload_n X.1 X.2.1 dX10_finding_0 rfl (lv_at hl 0 rfl) ?_
  refine lv_iconst (v := 0) X.1 X.2.1 dX10_finding_1 (by decide) ?_
  obtain ⟨S5, eS5, hf⟩ := si_ob hf
  refine si_ptI X hw si_cl10 0 (by decide) gf_RX10_1 rfl rfl rfl rfl rfl eS5 dX10_finding_2 (fun H locs hw => ?_)
  refine lv_aload_n X.1 X.2.1 dX10_finding_5 rfl (lv_at hl 0 rfl) ?_
  refine lv_iload_n X.1 X.2.1 dX10_finding_6 rfl (lv_at hl 1 rfl) ?_
  obtain ⟨q6, eq6, hf⟩ := si_ob hf
  refine si_cVi [.int x1] cal_X10_isSet gm_RX10_323 X hw hA hl.1 (c_X10_isSet l E F x1 S5 q6 eq6) si_cl10 rfl ⟨⟨rfl, rfl⟩, Nat.le_of_ble_eq_true rfl, Nat.le_of_ble_eq_true rfl⟩ rfl rfl (Nat.le_of_ble_eq_true rfl) ⟨Nat.zero_le _, Nat.zero_le _⟩ dX10_finding_7 (fun H locs hw => ?_)
  refine lv_if_ne (tgt := 15) X.1 X.2.1 dX10_finding_10 (by decide) (fun c10 => ?_) (fun c10 => ?_)
  · have hf := si_in c10 hf
    refine lv_aload_n X.1 X.2.1 dX10_finding_15 rfl (lv_at hl 0 rfl) ?_
    refine lv_iload_n X.1 X.2.1 dX10_finding_16 rfl (lv_at hl 1 rfl) ?_
    obtain ⟨q7, eq7, hf⟩ := si_ob hf
    refine si_cVi [.int x1] cal_X10_countOf gm_RX10_328 X hw hA hl.1 (c_X10_countOf l E F x1 q6.2 q7 eq7) si_cl10 rfl ⟨⟨rfl, rfl⟩, Nat.le_of_ble_eq_true rfl, Nat.le_of_ble_eq_true rfl⟩ rfl rfl (Nat.le_of_ble_eq_true rfl) ⟨Nat.zero_le _, Nat.zero_le _⟩ dX10_finding_17 (fun H locs hw => ?_)
    refine lv_iconst (v := 1) X.1 X.2.1 dX10_finding_20 (by decide) ?_
    refine lv_icmp_le (tgt := 27) X.1 X.2.1 dX10_finding_21 (by decide) (fun c21 => ?_) (fun c21 => ?_)
    · have hf := si_ip c21 hf
      refine lv_iconst (v := 0) X.1 X.2.1 dX10_finding_27 (by decide) ?_
      refine lv_istore_n (lv' := [(2, .int 0), (0, .ref (E.2.1 87)), (1, .int x1)]) X.1 X.2.1 dX10_finding_28 rfl hl (by decide) rfl (fun ls hl => ?_)
      exact B29 F _ _ _ _ _ _ hf hw (lv_sub hl [1, 2, 0] rfl)
    · have hf := si_in c21 hf
      refine lv_bipush (v := (-2)) X.1 X.2.1 dX10_finding_24 (by decide) ?_
      exact hret _ _ _ _ _ _ hf hw dX10_finding_26
  · have hf := si_ip c10 hf
    refine lv_iconst (v := (-1)) X.1 X.2.1 dX10_finding_13 (by decide) ?_
    exact hret _ _ _ _ _ _ hf hw dX10_finding_14
abbrev rm_X10_needed : Room := { frames := 3, cells := 0, slots := 0, locals := 76 }
set_option maxHeartbeats 4000000 in
set_option maxRecDepth 100000 in
theorem c_X10_needed (l : Launch) (E : si_Ev) (F : Nat) (x1 : Int32) (S : si_St) (o : Int32 × si_St) (hf : f_X10_needed F x1 S = some o) : si_Mi l E yX10_needed cX10_needed 2 (some .int) rm_X10_needed [.ref (E.2.1 87), .int x1] S o := by
  refine si_ofWi (plainFor_of_name (by decide +kernel)) (Nat.le_of_ble_eq_true rfl) ?_
  intro p e s m args below meth c ls Q A X hw hA hl hret
  have hl : lv_has ls 2 [(0, .ref (E.2.1 87)), (1, .int x1)] := hl
  unfold f_X10_needed at hf
  refine lv_aload_n X.1 X.2.1 dX10_needed_0 rfl (lv_at hl 0 rfl) ?_
  refine lv_aload_n X.1 X.2.1 dX10_needed_1 rfl (lv_at hl 0 rfl) ?_
  refine si_getR (k' := 94) (d := 7) X hw si_cl10 11 (by decide) gf_RX10_32 rfl rfl rfl (by decide) rfl dX10_needed_2 ?_
  refine lv_iload_n X.1 X.2.1 dX10_needed_5 rfl (lv_at hl 1 rfl) ?_
  obtain ⟨v1, ev1, hf⟩ := si_ob hf
  refine si_iald X hw rfl ev1 dX10_needed_6 ?_
  obtain ⟨S2, eS2, hf⟩ := si_ob hf
  refine si_cVv [.int v1] cal_X10_lays gm_RX10_331 X hw hA hl.1 (c_X10_lays l E F v1 S S2 eS2) si_cl10 rfl ⟨⟨rfl, rfl⟩, Nat.le_of_ble_eq_true rfl, Nat.le_of_ble_eq_true rfl⟩ rfl rfl (Nat.le_of_ble_eq_true rfl) ⟨Nat.zero_le _, Nat.zero_le _⟩ dX10_needed_7 (fun H locs hw => ?_)
  refine lv_aload_n X.1 X.2.1 dX10_needed_10 rfl (lv_at hl 0 rfl) ?_
  refine lv_aload_n X.1 X.2.1 dX10_needed_11 rfl (lv_at hl 0 rfl) ?_
  refine si_getR (k' := 88) (d := 1) X hw si_cl10 1 (by decide) gf_RX10_13 rfl rfl rfl (by decide) rfl dX10_needed_12 ?_
  refine lv_sipush (v := 661) X.1 X.2.1 dX10_needed_15 (by decide) ?_
  refine lv_iload_n X.1 X.2.1 dX10_needed_18 rfl (lv_at hl 1 rfl) ?_
  refine lv_iadd X.1 X.2.1 dX10_needed_19 ?_
  obtain ⟨v3, ev3, hf⟩ := si_ob hf
  refine si_iald X hw rfl ev3 dX10_needed_20 ?_
  refine lv_aload_n X.1 X.2.1 dX10_needed_21 rfl (lv_at hl 0 rfl) ?_
  refine si_getR (k' := 88) (d := 1) X hw si_cl10 1 (by decide) gf_RX10_13 rfl rfl rfl (by decide) rfl dX10_needed_22 ?_
  refine lv_sipush (v := 665) X.1 X.2.1 dX10_needed_25 (by decide) ?_
  refine lv_iload_n X.1 X.2.1 dX10_needed_28 rfl (lv_at hl 1 rfl) ?_
  refine lv_iadd X.1 X.2.1 dX10_needed_29 ?_
  obtain ⟨v4, ev4, hf⟩ := si_ob hf
  refine si_iald X hw rfl ev4 dX10_needed_30 ?_
  refine lv_aload_n X.1 X.2.1 dX10_needed_31 rfl (lv_at hl 0 rfl) ?_
  refine si_getR (k' := 88) (d := 1) X hw si_cl10 1 (by decide) gf_RX10_13 rfl rfl rfl (by decide) rfl dX10_needed_32 ?_
  refine lv_sipush (v := 669) X.1 X.2.1 dX10_needed_35 (by decide) ?_
  refine lv_iload_n X.1 X.2.1 dX10_needed_38 rfl (lv_at hl 1 rfl) ?_
  refine lv_iadd X.1 X.2.1 dX10_needed_39 ?_
  obtain ⟨v5, ev5, hf⟩ := si_ob hf
  refine si_iald X hw rfl ev5 dX10_needed_40 ?_
  obtain ⟨q6, eq6, hf⟩ := si_ob hf
  refine si_cVi [.int v3, .int v4, .int v5] cal_X10_needs gm_RX10_334 X hw hA hl.1 (c_X10_needs l E F v3 v4 v5 S2 q6 eq6) si_cl10 rfl ⟨⟨rfl, rfl⟩, Nat.le_of_ble_eq_true rfl, Nat.le_of_ble_eq_true rfl⟩ rfl rfl (Nat.le_of_ble_eq_true rfl) ⟨Nat.zero_le _, Nat.zero_le _⟩ dX10_needed_41 (fun H locs hw => ?_)
  exact hret _ _ _ _ _ _ hf hw dX10_needed_44
abbrev rm_X10_weighingsNeeded : Room := { frames := 4, cells := 0, slots := 0, locals := 97 }
set_option maxHeartbeats 4000000 in
set_option maxRecDepth 100000 in
theorem c_X10_weighingsNeeded (l : Launch) (E : si_Ev) (F : Nat) (x1 : Int32) (S : si_St) (o : Int32 × si_St) (hf : f_X10_weighingsNeeded F x1 S = some o) : si_Mi l E yX10_weighingsNeeded cX10_weighingsNeeded 3 (some .int) rm_X10_weighingsNeeded [.ref (E.2.1 87), .int x1] S o := by
  refine si_ofWi (plainFor_of_name (by decide +kernel)) (Nat.le_of_ble_eq_true rfl) ?_
  intro p e s m args below meth c ls Q A X hw hA hl hret
  have hl : lv_has ls 3 [(0, .ref (E.2.1 87)), (1, .int x1)] := hl
  have B33 : ∀ (t0 : Int32) (S : si_St) (H : Heap) (locs : List Loc) (ls : Array Slot) , f_X10_weighingsNeeded_h33 F t0 S = some o → si_Ws E A s.heap S H locs → lv_has ls 3 [] → W p l e rm_X10_weighingsNeeded s m args below meth c H locs 0 0 Q (F0 m 33 ls [.int t0]) := by
    intro t0  S H locs ls  hf hw hl
    unfold f_X10_weighingsNeeded_h33 at hf
    exact hret _ _ _ _ _ _ hf hw dX10_weighingsNeeded_33
  unfold f_X10_weighingsNeeded at hf
  refine lv_aload_n X.1 X.2.1 dX10_weighingsNeeded_0 rfl (lv_at hl 0 rfl) ?_
  refine lv_iconst (v := 0) X.1 X.2.1 dX10_weighingsNeeded_1 (by decide) ?_
  obtain ⟨S1, eS1, hf⟩ := si_ob hf
  refine si_ptI X hw si_cl10 0 (by decide) gf_RX10_1 rfl rfl rfl rfl rfl eS1 dX10_weighingsNeeded_2 (fun H locs hw => ?_)
  refine lv_aload_n X.1 X.2.1 dX10_weighingsNeeded_5 rfl (lv_at hl 0 rfl) ?_
  refine lv_iload_n X.1 X.2.1 dX10_weighingsNeeded_6 rfl (lv_at hl 1 rfl) ?_
  obtain ⟨q2, eq2, hf⟩ := si_ob hf
  refine si_cVi [.int x1] cal_X10_isSet gm_RX10_323 X hw hA hl.1 (c_X10_isSet l E F x1 S1 q2 eq2) si_cl10 rfl ⟨⟨rfl, rfl⟩, Nat.le_of_ble_eq_true rfl, Nat.le_of_ble_eq_true rfl⟩ rfl rfl (Nat.le_of_ble_eq_true rfl) ⟨Nat.zero_le _, Nat.zero_le _⟩ dX10_weighingsNeeded_7 (fun H locs hw => ?_)
  refine lv_if_ne (tgt := 15) X.1 X.2.1 dX10_weighingsNeeded_10 (by decide) (fun c10 => ?_) (fun c10 => ?_)
  · have hf := si_in c10 hf
    refine lv_aload_n X.1 X.2.1 dX10_weighingsNeeded_15 rfl (lv_at hl 0 rfl) ?_
    refine lv_iload_n X.1 X.2.1 dX10_weighingsNeeded_16 rfl (lv_at hl 1 rfl) ?_
    obtain ⟨q3, eq3, hf⟩ := si_ob hf
    refine si_cVi [.int x1] cal_X10_needed gm_RX10_337 X hw hA hl.1 (c_X10_needed l E F x1 q2.2 q3 eq3) si_cl10 rfl ⟨⟨rfl, rfl⟩, Nat.le_of_ble_eq_true rfl, Nat.le_of_ble_eq_true rfl⟩ rfl rfl (Nat.le_of_ble_eq_true rfl) ⟨Nat.zero_le _, Nat.zero_le _⟩ dX10_weighingsNeeded_17 (fun H locs hw => ?_)
    refine lv_istore_n (lv' := [(2, .int q3.1), (0, .ref (E.2.1 87)), (1, .int x1)]) X.1 X.2.1 dX10_weighingsNeeded_20 rfl hl (by decide) rfl (fun ls hl => ?_)
    refine lv_iload_n X.1 X.2.1 dX10_weighingsNeeded_21 rfl (lv_at hl 0 rfl) ?_
    refine lv_bipush (v := 99) X.1 X.2.1 dX10_weighingsNeeded_22 (by decide) ?_
    refine lv_icmp_lt (tgt := 32) X.1 X.2.1 dX10_weighingsNeeded_24 (by decide) (fun c24 => ?_) (fun c24 => ?_)
    · have hf := si_ip c24 hf
      refine lv_iload_n X.1 X.2.1 dX10_weighingsNeeded_32 rfl (lv_at hl 0 rfl) ?_
      exact B33 _ _ _ _ _ hf hw (lv_sub hl [] rfl)
    · have hf := si_in c24 hf
      refine lv_bipush (v := (-2)) X.1 X.2.1 dX10_weighingsNeeded_27 (by decide) ?_
      refine lv_goto (tgt := 33) X.1 X.2.1 dX10_weighingsNeeded_29 (by decide) ?_
      exact B33 _ _ _ _ _ hf hw (lv_sub hl [] rfl)
  · have hf := si_ip c10 hf
    refine lv_iconst (v := (-1)) X.1 X.2.1 dX10_weighingsNeeded_13 (by decide) ?_
    exact hret _ _ _ _ _ _ hf hw dX10_weighingsNeeded_14
abbrev rm_X10_behind : Room := { frames := 2, cells := 0, slots := 0, locals := 45 }
set_option maxHeartbeats 4000000 in
set_option maxRecDepth 100000 in
theorem c_X10_behind (l : Launch) (E : si_Ev) (F : Nat) (x1 : Int32) (x2 : Int32) (x3 : Int32) (S : si_St) (o : Int32 × si_St) (hf : f_X10_behind F x1 x2 x3 S = some o) : si_Mi l E yX10_behind cX10_behind 9 (some .int) rm_X10_behind [.ref (E.2.1 87), .int x1, .int x2, .int x3] S o := by
  refine si_ofWi (plainFor_of_name (by decide +kernel)) (Nat.le_of_ble_eq_true rfl) ?_
  intro p e s m args below meth c ls Q A X hw hA hl hret
  have hl : lv_has ls 9 [(0, .ref (E.2.1 87)), (1, .int x1), (2, .int x2), (3, .int x3)] := hl
  have B115 : ∀ (S : si_St) (H : Heap) (locs : List Loc) (ls : Array Slot) , f_X10_behind_h115 F S = some o → si_Ws E A s.heap S H locs → lv_has ls 9 [] → W p l e rm_X10_behind s m args below meth c H locs 0 0 Q (F0 m 115 ls []) := by
    intro   S H locs ls  hf hw hl
    unfold f_X10_behind_h115 at hf
    refine lv_bipush (v := 99) X.1 X.2.1 dX10_behind_115 (by decide) ?_
    exact hret _ _ _ _ _ _ hf hw dX10_behind_117
  unfold f_X10_behind at hf
  refine lv_aload_n X.1 X.2.1 dX10_behind_0 rfl (lv_at hl 0 rfl) ?_
  refine si_getR (k' := 88) (d := 1) X hw si_cl10 1 (by decide) gf_RX10_13 rfl rfl rfl (by decide) rfl dX10_behind_1 ?_
  refine lv_sipush (v := 661) X.1 X.2.1 dX10_behind_4 (by decide) ?_
  refine lv_iload_n X.1 X.2.1 dX10_behind_7 rfl (lv_at hl 1 rfl) ?_
  refine lv_iadd X.1 X.2.1 dX10_behind_8 ?_
  obtain ⟨v1, ev1, hf⟩ := si_ob hf
  refine si_iald X hw rfl ev1 dX10_behind_9 ?_
  refine lv_istore (lv' := [(4, .int v1), (0, .ref (E.2.1 87)), (1, .int x1), (2, .int x2), (3, .int x3)]) X.1 X.2.1 dX10_behind_10 hl (by decide) rfl (fun ls hl => ?_)
  refine lv_aload_n X.1 X.2.1 dX10_behind_12 rfl (lv_at hl 1 rfl) ?_
  refine si_getR (k' := 88) (d := 1) X hw si_cl10 1 (by decide) gf_RX10_13 rfl rfl rfl (by decide) rfl dX10_behind_13 ?_
  refine lv_sipush (v := 665) X.1 X.2.1 dX10_behind_16 (by decide) ?_
  refine lv_iload_n X.1 X.2.1 dX10_behind_19 rfl (lv_at hl 2 rfl) ?_
  refine lv_iadd X.1 X.2.1 dX10_behind_20 ?_
  obtain ⟨v2, ev2, hf⟩ := si_ob hf
  refine si_iald X hw rfl ev2 dX10_behind_21 ?_
  refine lv_istore (lv' := [(5, .int v2), (4, .int v1), (0, .ref (E.2.1 87)), (1, .int x1), (2, .int x2), (3, .int x3)]) X.1 X.2.1 dX10_behind_22 hl (by decide) rfl (fun ls hl => ?_)
  refine lv_iload_n X.1 X.2.1 dX10_behind_24 rfl (lv_at hl 4 rfl) ?_
  refine lv_iload_n X.1 X.2.1 dX10_behind_25 rfl (lv_at hl 5 rfl) ?_
  refine lv_ior X.1 X.2.1 dX10_behind_26 ?_
  refine lv_iconst (v := (-1)) X.1 X.2.1 dX10_behind_27 (by decide) ?_
  refine lv_ixor X.1 X.2.1 dX10_behind_28 ?_
  obtain ⟨v3, ev3, hf⟩ := si_ob hf
  refine si_nmI ev3 ?_
  refine lv_istore (lv' := [(6, .int v3), (5, .int v2), (4, .int v1), (0, .ref (E.2.1 87)), (1, .int x1), (2, .int x2), (3, .int x3)]) X.1 X.2.1 dX10_behind_29 hl (by decide) rfl (fun ls hl => ?_)
  refine lv_aload_n X.1 X.2.1 dX10_behind_31 rfl (lv_at hl 3 rfl) ?_
  refine lv_iload_n X.1 X.2.1 dX10_behind_32 rfl (lv_at hl 4 rfl) ?_
  obtain ⟨q4, eq4, hf⟩ := si_ob hf
  refine si_cVi [.int x1] cal_X10_countOf gm_RX10_328 X hw hA hl.1 (c_X10_countOf l E F x1 S q4 eq4) si_cl10 rfl ⟨⟨rfl, rfl⟩, Nat.le_of_ble_eq_true rfl, Nat.le_of_ble_eq_true rfl⟩ rfl rfl (Nat.le_of_ble_eq_true rfl) ⟨Nat.zero_le _, Nat.zero_le _⟩ dX10_behind_33 (fun H locs hw => ?_)
  refine lv_istore (lv' := [(7, .int q4.1), (6, .int v3), (5, .int v2), (4, .int v1), (0, .ref (E.2.1 87)), (1, .int x1), (2, .int x2), (3, .int x3)]) X.1 X.2.1 dX10_behind_36 hl (by decide) rfl (fun ls hl => ?_)
  refine lv_iload X.1 X.2.1 dX10_behind_38 (lv_at hl 3 rfl) ?_
  refine lv_iload X.1 X.2.1 dX10_behind_40 (lv_at hl 1 rfl) ?_
  refine lv_iand X.1 X.2.1 dX10_behind_42 ?_
  obtain ⟨q5, eq5, hf⟩ := si_ob hf
  refine si_cSi [.int (v1 &&& v3)] cal_X10_bits gm_RX10_244 X hw hA hl.1 (c_X10_bits l E F (v1 &&& v3) q4.2 q5 eq5) ⟨⟨rfl, rfl⟩, Nat.le_of_ble_eq_true rfl, Nat.le_of_ble_eq_true rfl⟩ rfl rfl (Nat.le_of_ble_eq_true rfl) ⟨Nat.zero_le _, Nat.zero_le _⟩ dX10_behind_43 (fun H locs hw => ?_)
  refine lv_iload X.1 X.2.1 dX10_behind_46 (lv_at hl 2 rfl) ?_
  refine lv_iload X.1 X.2.1 dX10_behind_48 (lv_at hl 1 rfl) ?_
  refine lv_iand X.1 X.2.1 dX10_behind_50 ?_
  obtain ⟨q6, eq6, hf⟩ := si_ob hf
  refine si_cSi [.int (v2 &&& v3)] cal_X10_bits gm_RX10_244 X hw hA hl.1 (c_X10_bits l E F (v2 &&& v3) q5.2 q6 eq6) ⟨⟨rfl, rfl⟩, Nat.le_of_ble_eq_true rfl, Nat.le_of_ble_eq_true rfl⟩ rfl rfl (Nat.le_of_ble_eq_true rfl) ⟨Nat.zero_le _, Nat.zero_le _⟩ dX10_behind_51 (fun H locs hw => ?_)
  refine lv_iadd X.1 X.2.1 dX10_behind_54 ?_
  refine lv_aload_n X.1 X.2.1 dX10_behind_55 rfl (lv_at hl 4 rfl) ?_
  refine si_getR (k' := 88) (d := 1) X hw si_cl10 1 (by decide) gf_RX10_13 rfl rfl rfl (by decide) rfl dX10_behind_56 ?_
  refine lv_sipush (v := 669) X.1 X.2.1 dX10_behind_59 (by decide) ?_
  refine lv_iload_n X.1 X.2.1 dX10_behind_62 rfl (lv_at hl 5 rfl) ?_
  refine lv_iadd X.1 X.2.1 dX10_behind_63 ?_
  obtain ⟨v7, ev7, hf⟩ := si_ob hf
  refine si_iald X hw rfl ev7 dX10_behind_64 ?_
  refine lv_iadd X.1 X.2.1 dX10_behind_65 ?_
  obtain ⟨v8, ev8, hf⟩ := si_ob hf
  refine si_nmI ev8 ?_
  refine lv_istore (lv' := [(8, .int v8), (7, .int q4.1), (6, .int v3), (5, .int v2), (4, .int v1), (0, .ref (E.2.1 87)), (1, .int x1), (2, .int x2), (3, .int x3)]) X.1 X.2.1 dX10_behind_66 hl (by decide) rfl (fun ls hl => ?_)
  refine lv_iload X.1 X.2.1 dX10_behind_68 (lv_at hl 0 rfl) ?_
  refine lv_iload X.1 X.2.1 dX10_behind_70 (lv_at hl 1 rfl) ?_
  refine lv_icmp_eq (tgt := 115) X.1 X.2.1 dX10_behind_72 (by decide) (fun c72 => ?_) (fun c72 => ?_)
  · have hf := si_ip c72 hf
    exact B115 _ _ _ _ hf hw (lv_sub hl [] rfl)
  · have hf := si_in c72 hf
    refine lv_iload X.1 X.2.1 dX10_behind_75 (lv_at hl 4 rfl) ?_
    refine lv_iload_n X.1 X.2.1 dX10_behind_77 rfl (lv_at hl 7 rfl) ?_
    refine lv_iand X.1 X.2.1 dX10_behind_78 ?_
    obtain ⟨q9, eq9, hf⟩ := si_ob hf
    refine si_cSi [.int (v1 &&& x2)] cal_X10_bits gm_RX10_244 X hw hA hl.1 (c_X10_bits l E F (v1 &&& x2) q6.2 q9 eq9) ⟨⟨rfl, rfl⟩, Nat.le_of_ble_eq_true rfl, Nat.le_of_ble_eq_true rfl⟩ rfl rfl (Nat.le_of_ble_eq_true rfl) ⟨Nat.zero_le _, Nat.zero_le _⟩ dX10_behind_79 (fun H locs hw => ?_)
    refine lv_iload X.1 X.2.1 dX10_behind_82 (lv_at hl 3 rfl) ?_
    refine lv_iload_n X.1 X.2.1 dX10_behind_84 rfl (lv_at hl 8 rfl) ?_
    refine lv_iand X.1 X.2.1 dX10_behind_85 ?_
    obtain ⟨q10, eq10, hf⟩ := si_ob hf
    refine si_cSi [.int (v2 &&& x3)] cal_X10_bits gm_RX10_244 X hw hA hl.1 (c_X10_bits l E F (v2 &&& x3) q9.2 q10 eq10) ⟨⟨rfl, rfl⟩, Nat.le_of_ble_eq_true rfl, Nat.le_of_ble_eq_true rfl⟩ rfl rfl (Nat.le_of_ble_eq_true rfl) ⟨Nat.zero_le _, Nat.zero_le _⟩ dX10_behind_86 (fun H locs hw => ?_)
    refine lv_iadd X.1 X.2.1 dX10_behind_89 ?_
    refine lv_iload X.1 X.2.1 dX10_behind_90 (lv_at hl 1 rfl) ?_
    refine lv_icmp_eq (tgt := 115) X.1 X.2.1 dX10_behind_92 (by decide) (fun c92 => ?_) (fun c92 => ?_)
    · have hf := si_ip c92 hf
      exact B115 _ _ _ _ hf hw (lv_sub hl [] rfl)
    · have hf := si_in c92 hf
      refine lv_iload X.1 X.2.1 dX10_behind_95 (lv_at hl 4 rfl) ?_
      refine lv_iload_n X.1 X.2.1 dX10_behind_97 rfl (lv_at hl 8 rfl) ?_
      refine lv_iand X.1 X.2.1 dX10_behind_98 ?_
      obtain ⟨q11, eq11, hf⟩ := si_ob hf
      refine si_cSi [.int (v1 &&& x3)] cal_X10_bits gm_RX10_244 X hw hA hl.1 (c_X10_bits l E F (v1 &&& x3) q10.2 q11 eq11) ⟨⟨rfl, rfl⟩, Nat.le_of_ble_eq_true rfl, Nat.le_of_ble_eq_true rfl⟩ rfl rfl (Nat.le_of_ble_eq_true rfl) ⟨Nat.zero_le _, Nat.zero_le _⟩ dX10_behind_99 (fun H locs hw => ?_)
      refine lv_iload X.1 X.2.1 dX10_behind_102 (lv_at hl 3 rfl) ?_
      refine lv_iload_n X.1 X.2.1 dX10_behind_104 rfl (lv_at hl 7 rfl) ?_
      refine lv_iand X.1 X.2.1 dX10_behind_105 ?_
      obtain ⟨q12, eq12, hf⟩ := si_ob hf
      refine si_cSi [.int (v2 &&& x2)] cal_X10_bits gm_RX10_244 X hw hA hl.1 (c_X10_bits l E F (v2 &&& x2) q11.2 q12 eq12) ⟨⟨rfl, rfl⟩, Nat.le_of_ble_eq_true rfl, Nat.le_of_ble_eq_true rfl⟩ rfl rfl (Nat.le_of_ble_eq_true rfl) ⟨Nat.zero_le _, Nat.zero_le _⟩ dX10_behind_106 (fun H locs hw => ?_)
      refine lv_iadd X.1 X.2.1 dX10_behind_109 ?_
      refine lv_iload X.1 X.2.1 dX10_behind_110 (lv_at hl 1 rfl) ?_
      refine lv_icmp_ne (tgt := 118) X.1 X.2.1 dX10_behind_112 (by decide) (fun c112 => ?_) (fun c112 => ?_)
      · have hf := si_in c112 hf
        refine lv_aload_n X.1 X.2.1 dX10_behind_118 rfl (lv_at hl 5 rfl) ?_
        refine lv_iload X.1 X.2.1 dX10_behind_119 (lv_at hl 4 rfl) ?_
        refine lv_iload X.1 X.2.1 dX10_behind_121 (lv_at hl 2 rfl) ?_
        refine lv_iand X.1 X.2.1 dX10_behind_123 ?_
        refine lv_iload X.1 X.2.1 dX10_behind_124 (lv_at hl 3 rfl) ?_
        refine lv_iload X.1 X.2.1 dX10_behind_126 (lv_at hl 2 rfl) ?_
        refine lv_iand X.1 X.2.1 dX10_behind_128 ?_
        refine lv_aload_n X.1 X.2.1 dX10_behind_129 rfl (lv_at hl 5 rfl) ?_
        refine si_getR (k' := 88) (d := 1) X hw si_cl10 1 (by decide) gf_RX10_13 rfl rfl rfl (by decide) rfl dX10_behind_130 ?_
        refine lv_sipush (v := 669) X.1 X.2.1 dX10_behind_133 (by decide) ?_
        refine lv_iload_n X.1 X.2.1 dX10_behind_136 rfl (lv_at hl 6 rfl) ?_
        refine lv_iadd X.1 X.2.1 dX10_behind_137 ?_
        obtain ⟨v13, ev13, hf⟩ := si_ob hf
        refine si_iald X hw rfl ev13 dX10_behind_138 ?_
        obtain ⟨q14, eq14, hf⟩ := si_ob hf
        refine si_cVi [.int (v1 &&& v3), .int (v2 &&& v3), .int v13] cal_X10_needs gm_RX10_334 X hw hA hl.1 (c_X10_needs l E F (v1 &&& v3) (v2 &&& v3) v13 q12.2 q14 eq14) si_cl10 rfl ⟨⟨rfl, rfl⟩, Nat.le_of_ble_eq_true rfl, Nat.le_of_ble_eq_true rfl⟩ rfl rfl (Nat.le_of_ble_eq_true rfl) ⟨Nat.zero_le _, Nat.zero_le _⟩ dX10_behind_139 (fun H locs hw => ?_)
        refine lv_aload_n X.1 X.2.1 dX10_behind_142 rfl (lv_at hl 5 rfl) ?_
        refine lv_iload X.1 X.2.1 dX10_behind_143 (lv_at hl 4 rfl) ?_
        refine lv_iload_n X.1 X.2.1 dX10_behind_145 rfl (lv_at hl 7 rfl) ?_
        refine lv_iand X.1 X.2.1 dX10_behind_146 ?_
        refine lv_iload X.1 X.2.1 dX10_behind_147 (lv_at hl 3 rfl) ?_
        refine lv_iload_n X.1 X.2.1 dX10_behind_149 rfl (lv_at hl 8 rfl) ?_
        refine lv_iand X.1 X.2.1 dX10_behind_150 ?_
        refine lv_iconst (v := 0) X.1 X.2.1 dX10_behind_151 (by decide) ?_
        obtain ⟨q15, eq15, hf⟩ := si_ob hf
        refine si_cVi [.int (v1 &&& x2), .int (v2 &&& x3), .int 0] cal_X10_needs gm_RX10_334 X hw hA hl.1 (c_X10_needs l E F (v1 &&& x2) (v2 &&& x3) 0 q14.2 q15 eq15) si_cl10 rfl ⟨⟨rfl, rfl⟩, Nat.le_of_ble_eq_true rfl, Nat.le_of_ble_eq_true rfl⟩ rfl rfl (Nat.le_of_ble_eq_true rfl) ⟨Nat.zero_le _, Nat.zero_le _⟩ dX10_behind_152 (fun H locs hw => ?_)
        refine lv_aload_n X.1 X.2.1 dX10_behind_155 rfl (lv_at hl 5 rfl) ?_
        refine lv_iload X.1 X.2.1 dX10_behind_156 (lv_at hl 4 rfl) ?_
        refine lv_iload_n X.1 X.2.1 dX10_behind_158 rfl (lv_at hl 8 rfl) ?_
        refine lv_iand X.1 X.2.1 dX10_behind_159 ?_
        refine lv_iload X.1 X.2.1 dX10_behind_160 (lv_at hl 3 rfl) ?_
        refine lv_iload_n X.1 X.2.1 dX10_behind_162 rfl (lv_at hl 7 rfl) ?_
        refine lv_iand X.1 X.2.1 dX10_behind_163 ?_
        refine lv_iconst (v := 0) X.1 X.2.1 dX10_behind_164 (by decide) ?_
        obtain ⟨q16, eq16, hf⟩ := si_ob hf
        refine si_cVi [.int (v1 &&& x3), .int (v2 &&& x2), .int 0] cal_X10_needs gm_RX10_334 X hw hA hl.1 (c_X10_needs l E F (v1 &&& x3) (v2 &&& x2) 0 q15.2 q16 eq16) si_cl10 rfl ⟨⟨rfl, rfl⟩, Nat.le_of_ble_eq_true rfl, Nat.le_of_ble_eq_true rfl⟩ rfl rfl (Nat.le_of_ble_eq_true rfl) ⟨Nat.zero_le _, Nat.zero_le _⟩ dX10_behind_165 (fun H locs hw => ?_)
        obtain ⟨q17, eq17, hf⟩ := si_ob hf
        refine si_cSi [.int q15.1, .int q16.1] cal_X10_worse gm_RX10_317 X hw hA hl.1 (c_X10_worse l E F q15.1 q16.1 q16.2 q17 eq17) ⟨⟨rfl, rfl⟩, Nat.le_of_ble_eq_true rfl, Nat.le_of_ble_eq_true rfl⟩ rfl rfl (Nat.le_of_ble_eq_true rfl) ⟨Nat.zero_le _, Nat.zero_le _⟩ dX10_behind_168 (fun H locs hw => ?_)
        obtain ⟨q18, eq18, hf⟩ := si_ob hf
        refine si_cSi [.int q14.1, .int q17.1] cal_X10_worse gm_RX10_317 X hw hA hl.1 (c_X10_worse l E F q14.1 q17.1 q17.2 q18 eq18) ⟨⟨rfl, rfl⟩, Nat.le_of_ble_eq_true rfl, Nat.le_of_ble_eq_true rfl⟩ rfl rfl (Nat.le_of_ble_eq_true rfl) ⟨Nat.zero_le _, Nat.zero_le _⟩ dX10_behind_171 (fun H locs hw => ?_)
        exact hret _ _ _ _ _ _ hf hw dX10_behind_174
      · have hf := si_ip c112 hf
        exact B115 _ _ _ _ hf hw (lv_sub hl [] rfl)
abbrev rm_X10_best : Room := { frames := 4, cells := 0, slots := 0, locals := 97 }
set_option maxHeartbeats 4000000 in
set_option maxRecDepth 100000 in
theorem c_X10_best (l : Launch) (E : si_Ev) (F : Nat) (x1 : Int32) (S : si_St) (o : Int32 × si_St) (hf : f_X10_best F x1 S = some o) : si_Mi l E yX10_best cX10_best 8 (some .int) rm_X10_best [.ref (E.2.1 87), .int x1] S o := by
  refine si_ofWi (plainFor_of_name (by decide +kernel)) (Nat.le_of_ble_eq_true rfl) ?_
  intro p e s m args below meth c ls Q A X hw hA hl hret
  have hl : lv_has ls 8 [(0, .ref (E.2.1 87)), (1, .int x1)] := hl
  have B22 : ∀ (S : si_St) (H : Heap) (locs : List Loc) (ls : Array Slot) , f_X10_best_h22 F S = some o → si_Ws E A s.heap S H locs → lv_has ls 8 [] → W p l e rm_X10_best s m args below meth c H locs 0 0 Q (F0 m 22 ls []) := by
    intro   S H locs ls  hf hw hl
    unfold f_X10_best_h22 at hf
    refine lv_bipush (v := (-2)) X.1 X.2.1 dX10_best_22 (by decide) ?_
    exact hret _ _ _ _ _ _ hf hw dX10_best_24
  have B37 : ∀ (n37 : Nat) (x1 : Int32) (x2 : Int32) (x3 : Int32) (x4 : Int32) (S : si_St) (H : Heap) (locs : List Loc) (ls : Array Slot) , f_X10_best_l37 F n37 x1 x2 x3 x4 S = some o → si_Ws E A s.heap S H locs → lv_has ls 8 [(0, .ref (E.2.1 87)), (1, .int x1), (2, .int x2), (3, .int x3), (4, .int x4)] → W p l e rm_X10_best s m args below meth c H locs 0 0 Q (F0 m 37 ls []) := by
    intro n37
    induction n37 with
    | zero => intro x1 x2 x3 x4  S H locs ls  hf; cases hf
    | succ n37 ih37 =>
      have B53 : ∀ (n53 : Nat) (x1 : Int32) (x2 : Int32) (x3 : Int32) (x4 : Int32) (x5 : Int32) (S : si_St) (H : Heap) (locs : List Loc) (ls : Array Slot) , f_X10_best_l53 F (f_X10_best_l37 F n37) n53 x1 x2 x3 x4 x5 S = some o → si_Ws E A s.heap S H locs → lv_has ls 8 [(0, .ref (E.2.1 87)), (1, .int x1), (2, .int x2), (3, .int x3), (4, .int x4), (5, .int x5)] → W p l e rm_X10_best s m args below meth c H locs 0 0 Q (F0 m 53 ls []) := by
        intro n53
        induction n53 with
        | zero => intro x1 x2 x3 x4 x5  S H locs ls  hf; cases hf
        | succ n53 ih53 =>
          have B139 : ∀ (x1 : Int32) (x2 : Int32) (x3 : Int32) (x4 : Int32) (x5 : Int32) (S : si_St) (H : Heap) (locs : List Loc) (ls : Array Slot) , f_X10_best_h139 F (f_X10_best_l37 F n37) (f_X10_best_l53 F (f_X10_best_l37 F n37) n53) x1 x2 x3 x4 x5 S = some o → si_Ws E A s.heap S H locs → lv_has ls 8 [(0, .ref (E.2.1 87)), (1, .int x1), (2, .int x2), (3, .int x3), (4, .int x4), (5, .int x5)] → W p l e rm_X10_best s m args below meth c H locs 0 0 Q (F0 m 139 ls []) := by
            intro x1 x2 x3 x4 x5  S H locs ls  hf hw hl
            unfold f_X10_best_h139 at hf
            obtain ⟨v1, ev1, hf⟩ := si_ob hf
            refine lv_iinc (v := v1) (lv' := [(5, .int v1), (0, .ref (E.2.1 87)), (1, .int x1), (2, .int x2), (3, .int x3), (4, .int x4)]) X.1 X.2.1 dX10_best_139 hl (k := 5) rfl (Option.some.inj ev1) (by decide) rfl (fun ls hl => ?_)
            refine lv_goto (tgt := 53) X.1 X.2.1 dX10_best_142 (by decide) ?_
            exact ih53 _ _ _ _ _ _ _ _ _ hf hw (lv_sub hl [1, 2, 3, 4, 5, 0] rfl)
          have B77 : ∀ (n77 : Nat) (x1 : Int32) (x2 : Int32) (x3 : Int32) (x4 : Int32) (x5 : Int32) (x6 : Int32) (x7 : Int32) (S : si_St) (H : Heap) (locs : List Loc) (ls : Array Slot) , f_X10_best_l77 F (f_X10_best_l37 F n37) (f_X10_best_l53 F (f_X10_best_l37 F n37) n53) n77 x1 x2 x3 x4 x5 x6 x7 S = some o → si_Ws E A s.heap S H locs → lv_has ls 8 [(0, .ref (E.2.1 87)), (1, .int x1), (2, .int x2), (3, .int x3), (4, .int x4), (5, .int x5), (6, .int x6), (7, .int x7)] → W p l e rm_X10_best s m args below meth c H locs 0 0 Q (F0 m 77 ls []) := by
            intro n77
            induction n77 with
            | zero => intro x1 x2 x3 x4 x5 x6 x7  S H locs ls  hf; cases hf
            | succ n77 ih77 =>
              have B126 : ∀ (x1 : Int32) (x2 : Int32) (x3 : Int32) (x4 : Int32) (x5 : Int32) (x6 : Int32) (x7 : Int32) (S : si_St) (H : Heap) (locs : List Loc) (ls : Array Slot) , f_X10_best_h126 F (f_X10_best_l37 F n37) (f_X10_best_l53 F (f_X10_best_l37 F n37) n53) (f_X10_best_l77 F (f_X10_best_l37 F n37) (f_X10_best_l53 F (f_X10_best_l37 F n37) n53) n77) x1 x2 x3 x4 x5 x6 x7 S = some o → si_Ws E A s.heap S H locs → lv_has ls 8 [(0, .ref (E.2.1 87)), (1, .int x1), (2, .int x2), (3, .int x3), (4, .int x4), (5, .int x5), (6, .int x6), (7, .int x7)] → W p l e rm_X10_best s m args below meth c H locs 0 0 Q (F0 m 126 ls []) := by
                intro x1 x2 x3 x4 x5 x6 x7  S H locs ls  hf hw hl
                unfold f_X10_best_h126 at hf
                refine lv_iload X.1 X.2.1 dX10_best_126 (lv_at hl 7 rfl) ?_
                refine lv_iload X.1 X.2.1 dX10_best_128 (lv_at hl 6 rfl) ?_
                refine lv_isub X.1 X.2.1 dX10_best_130 ?_
                refine lv_iload X.1 X.2.1 dX10_best_131 (lv_at hl 6 rfl) ?_
                refine lv_iand X.1 X.2.1 dX10_best_133 ?_
                obtain ⟨v2, ev2, hf⟩ := si_ob hf
                refine si_nmI ev2 ?_
                refine lv_istore (lv' := [(7, .int v2), (0, .ref (E.2.1 87)), (1, .int x1), (2, .int x2), (3, .int x3), (4, .int x4), (5, .int x5), (6, .int x6)]) X.1 X.2.1 dX10_best_134 hl (by decide) rfl (fun ls hl => ?_)
                refine lv_goto (tgt := 77) X.1 X.2.1 dX10_best_136 (by decide) ?_
                exact ih77 _ _ _ _ _ _ _ _ _ _ _ hf hw (lv_sub hl [1, 2, 3, 4, 5, 6, 7, 0] rfl)
              intro x1 x2 x3 x4 x5 x6 x7  S H locs ls  hf hw hl
              have hf : f_X10_best_h77 F (f_X10_best_l37 F n37) (f_X10_best_l53 F (f_X10_best_l37 F n37) n53) (f_X10_best_l77 F (f_X10_best_l37 F n37) (f_X10_best_l53 F (f_X10_best_l37 F n37) n53) n77) x1 x2 x3 x4 x5 x6 x7 S = some o := hf
              unfold f_X10_best_h77 at hf
              refine lv_iload X.1 X.2.1 dX10_best_77 (lv_at hl 7 rfl) ?_
              refine lv_if_eq (tgt := 139) X.1 X.2.1 dX10_best_79 (by decide) (fun c79 => ?_) (fun c79 => ?_)
              · have hf := si_ip c79 hf
                exact B139 _ _ _ _ _ _ _ _ _ hf hw (lv_sub hl [0, 1, 2, 3, 4, 5] rfl)
              · have hf := si_in c79 hf
                refine lv_iload X.1 X.2.1 dX10_best_82 (lv_at hl 5 rfl) ?_
                obtain ⟨q3, eq3, hf⟩ := si_ob hf
                refine si_cSi [.int x5] cal_X10_bits gm_RX10_244 X hw hA hl.1 (c_X10_bits l E F x5 S q3 eq3) ⟨⟨rfl, rfl⟩, Nat.le_of_ble_eq_true rfl, Nat.le_of_ble_eq_true rfl⟩ rfl rfl (Nat.le_of_ble_eq_true rfl) ⟨Nat.zero_le _, Nat.zero_le _⟩ dX10_best_84 (fun H locs hw => ?_)
                refine lv_iload X.1 X.2.1 dX10_best_87 (lv_at hl 4 rfl) ?_
                refine lv_icmp_ne (tgt := 139) X.1 X.2.1 dX10_best_89 (by decide) (fun c89 => ?_) (fun c89 => ?_)
                · have hf := si_in c89 hf
                  exact B139 _ _ _ _ _ _ _ _ _ hf hw (lv_sub hl [0, 1, 2, 3, 4, 5] rfl)
                · have hf := si_ip c89 hf
                  refine lv_iload X.1 X.2.1 dX10_best_92 (lv_at hl 7 rfl) ?_
                  obtain ⟨q4, eq4, hf⟩ := si_ob hf
                  refine si_cSi [.int x7] cal_X10_bits gm_RX10_244 X hw hA hl.1 (c_X10_bits l E F x7 q3.2 q4 eq4) ⟨⟨rfl, rfl⟩, Nat.le_of_ble_eq_true rfl, Nat.le_of_ble_eq_true rfl⟩ rfl rfl (Nat.le_of_ble_eq_true rfl) ⟨Nat.zero_le _, Nat.zero_le _⟩ dX10_best_94 (fun H locs hw => ?_)
                  refine lv_iload X.1 X.2.1 dX10_best_97 (lv_at hl 4 rfl) ?_
                  refine lv_icmp_ne (tgt := 126) X.1 X.2.1 dX10_best_99 (by decide) (fun c99 => ?_) (fun c99 => ?_)
                  · have hf := si_in c99 hf
                    exact B126 _ _ _ _ _ _ _ _ _ _ _ hf hw (lv_sub hl [0, 1, 2, 3, 4, 5, 6, 7] rfl)
                  · have hf := si_ip c99 hf
                    refine lv_aload_n X.1 X.2.1 dX10_best_102 rfl (lv_at hl 0 rfl) ?_
                    refine lv_iload_n X.1 X.2.1 dX10_best_103 rfl (lv_at hl 1 rfl) ?_
                    refine lv_iload X.1 X.2.1 dX10_best_104 (lv_at hl 5 rfl) ?_
                    refine lv_iload X.1 X.2.1 dX10_best_106 (lv_at hl 7 rfl) ?_
                    obtain ⟨q5, eq5, hf⟩ := si_ob hf
                    refine si_cVi [.int x1, .int x5, .int x7] cal_X10_behind gm_RX10_343 X hw hA hl.1 (c_X10_behind l E F x1 x5 x7 q4.2 q5 eq5) si_cl10 rfl ⟨⟨rfl, rfl⟩, Nat.le_of_ble_eq_true rfl, Nat.le_of_ble_eq_true rfl⟩ rfl rfl (Nat.le_of_ble_eq_true rfl) ⟨Nat.zero_le _, Nat.zero_le _⟩ dX10_best_108 (fun H locs hw => ?_)
                    refine lv_iload_n X.1 X.2.1 dX10_best_111 rfl (lv_at hl 2 rfl) ?_
                    refine lv_iconst (v := 1) X.1 X.2.1 dX10_best_112 (by decide) ?_
                    refine lv_isub X.1 X.2.1 dX10_best_113 ?_
                    refine lv_icmp_ne (tgt := 126) X.1 X.2.1 dX10_best_114 (by decide) (fun c114 => ?_) (fun c114 => ?_)
                    · have hf := si_in c114 hf
                      exact B126 _ _ _ _ _ _ _ _ _ _ _ hf hw (lv_sub hl [0, 1, 2, 3, 4, 5, 6, 7] rfl)
                    · have hf := si_ip c114 hf
                      refine lv_aload_n X.1 X.2.1 dX10_best_117 rfl (lv_at hl 0 rfl) ?_
                      refine lv_iload X.1 X.2.1 dX10_best_118 (lv_at hl 7 rfl) ?_
                      obtain ⟨S6, eS6, hf⟩ := si_ob hf
                      refine si_ptI X hw si_cl10 40 (by decide) gf_RX10_340 rfl rfl rfl rfl rfl eS6 dX10_best_120 (fun H locs hw => ?_)
                      refine lv_iload X.1 X.2.1 dX10_best_123 (lv_at hl 5 rfl) ?_
                      exact hret _ _ _ _ _ _ hf hw dX10_best_125
          intro x1 x2 x3 x4 x5  S H locs ls  hf hw hl
          have hf : f_X10_best_h53 F (f_X10_best_l37 F n37) (f_X10_best_l53 F (f_X10_best_l37 F n37) n53) x1 x2 x3 x4 x5 S = some o := hf
          unfold f_X10_best_h53 at hf
          refine lv_iload X.1 X.2.1 dX10_best_53 (lv_at hl 5 rfl) ?_
          refine lv_iload_n X.1 X.2.1 dX10_best_55 rfl (lv_at hl 3 rfl) ?_
          refine lv_icmp_ge (tgt := 145) X.1 X.2.1 dX10_best_56 (by decide) (fun c56 => ?_) (fun c56 => ?_)
          · have hf := si_ip c56 hf
            obtain ⟨v7, ev7, hf⟩ := si_ob hf
            refine lv_iinc (v := v7) (lv' := [(4, .int v7), (0, .ref (E.2.1 87)), (1, .int x1), (2, .int x2), (3, .int x3), (5, .int x5)]) X.1 X.2.1 dX10_best_145 hl (k := 4) rfl (Option.some.inj ev7) (by decide) rfl (fun ls hl => ?_)
            refine lv_goto (tgt := 37) X.1 X.2.1 dX10_best_148 (by decide) ?_
            exact ih37 _ _ _ _ _ _ _ _ hf hw (lv_sub hl [1, 2, 3, 4, 0] rfl)
          · have hf := si_in c56 hf
            refine lv_iload_n X.1 X.2.1 dX10_best_59 rfl (lv_at hl 3 rfl) ?_
            refine lv_iconst (v := 1) X.1 X.2.1 dX10_best_60 (by decide) ?_
            refine lv_isub X.1 X.2.1 dX10_best_61 ?_
            refine lv_iload X.1 X.2.1 dX10_best_62 (lv_at hl 5 rfl) ?_
            refine lv_iconst (v := (-1)) X.1 X.2.1 dX10_best_64 (by decide) ?_
            refine lv_ixor X.1 X.2.1 dX10_best_65 ?_
            refine lv_iand X.1 X.2.1 dX10_best_66 ?_
            obtain ⟨v8, ev8, hf⟩ := si_ob hf
            refine si_nmI ev8 ?_
            refine lv_istore (lv' := [(6, .int v8), (0, .ref (E.2.1 87)), (1, .int x1), (2, .int x2), (3, .int x3), (4, .int x4), (5, .int x5)]) X.1 X.2.1 dX10_best_67 hl (by decide) rfl (fun ls hl => ?_)
            refine lv_iload X.1 X.2.1 dX10_best_69 (lv_at hl 0 rfl) ?_
            refine lv_iload X.1 X.2.1 dX10_best_71 (lv_at hl 0 rfl) ?_
            refine lv_ineg X.1 X.2.1 dX10_best_73 ?_
            refine lv_iand X.1 X.2.1 dX10_best_74 ?_
            obtain ⟨v9, ev9, hf⟩ := si_ob hf
            refine si_nmI ev9 ?_
            refine lv_istore (lv' := [(7, .int v9), (6, .int v8), (0, .ref (E.2.1 87)), (1, .int x1), (2, .int x2), (3, .int x3), (4, .int x4), (5, .int x5)]) X.1 X.2.1 dX10_best_75 hl (by decide) rfl (fun ls hl => ?_)
            exact B77 F _ _ _ _ _ _ _ _ _ _ _ hf hw (lv_sub hl [2, 3, 4, 5, 6, 7, 1, 0] rfl)
      intro x1 x2 x3 x4  S H locs ls  hf hw hl
      have hf : f_X10_best_h37 F (f_X10_best_l37 F n37) x1 x2 x3 x4 S = some o := hf
      unfold f_X10_best_h37 at hf
      refine lv_iconst (v := 2) X.1 X.2.1 dX10_best_37 (by decide) ?_
      refine lv_iload X.1 X.2.1 dX10_best_38 (lv_at hl 4 rfl) ?_
      refine lv_imul X.1 X.2.1 dX10_best_40 ?_
      refine lv_aload_n X.1 X.2.1 dX10_best_41 rfl (lv_at hl 0 rfl) ?_
      refine si_getR (k' := 94) (d := 7) X hw si_cl10 11 (by decide) gf_RX10_32 rfl rfl rfl (by decide) rfl dX10_best_42 ?_
      refine lv_iload_n X.1 X.2.1 dX10_best_45 rfl (lv_at hl 1 rfl) ?_
      obtain ⟨v10, ev10, hf⟩ := si_ob hf
      refine si_iald X hw rfl ev10 dX10_best_46 ?_
      refine lv_icmp_gt (tgt := 151) X.1 X.2.1 dX10_best_47 (by decide) (fun c47 => ?_) (fun c47 => ?_)
      · have hf := si_ip c47 hf
        refine lv_bipush (v := (-2)) X.1 X.2.1 dX10_best_151 (by decide) ?_
        exact hret _ _ _ _ _ _ hf hw dX10_best_153
      · have hf := si_in c47 hf
        refine lv_iconst (v := 1) X.1 X.2.1 dX10_best_50 (by decide) ?_
        refine lv_istore (lv' := [(5, .int 1), (0, .ref (E.2.1 87)), (1, .int x1), (2, .int x2), (3, .int x3), (4, .int x4)]) X.1 X.2.1 dX10_best_51 hl (by decide) rfl (fun ls hl => ?_)
        exact B53 F _ _ _ _ _ _ _ _ _ hf hw (lv_sub hl [1, 2, 3, 4, 5, 0] rfl)
  unfold f_X10_best at hf
  refine lv_aload_n X.1 X.2.1 dX10_best_0 rfl (lv_at hl 0 rfl) ?_
  refine lv_iload_n X.1 X.2.1 dX10_best_1 rfl (lv_at hl 1 rfl) ?_
  obtain ⟨q11, eq11, hf⟩ := si_ob hf
  refine si_cVi [.int x1] cal_X10_needed gm_RX10_337 X hw hA hl.1 (c_X10_needed l E F x1 S q11 eq11) si_cl10 rfl ⟨⟨rfl, rfl⟩, Nat.le_of_ble_eq_true rfl, Nat.le_of_ble_eq_true rfl⟩ rfl rfl (Nat.le_of_ble_eq_true rfl) ⟨Nat.zero_le _, Nat.zero_le _⟩ dX10_best_2 (fun H locs hw => ?_)
  refine lv_istore_n (lv' := [(2, .int q11.1), (0, .ref (E.2.1 87)), (1, .int x1)]) X.1 X.2.1 dX10_best_5 rfl hl (by decide) rfl (fun ls hl => ?_)
  refine lv_aload_n X.1 X.2.1 dX10_best_6 rfl (lv_at hl 1 rfl) ?_
  refine lv_bipush (v := (-2)) X.1 X.2.1 dX10_best_7 (by decide) ?_
  obtain ⟨S12, eS12, hf⟩ := si_ob hf
  refine si_ptI X hw si_cl10 40 (by decide) gf_RX10_340 rfl rfl rfl rfl rfl eS12 dX10_best_9 (fun H locs hw => ?_)
  refine lv_iload_n X.1 X.2.1 dX10_best_12 rfl (lv_at hl 0 rfl) ?_
  refine lv_if_eq (tgt := 22) X.1 X.2.1 dX10_best_13 (by decide) (fun c13 => ?_) (fun c13 => ?_)
  · have hf := si_ip c13 hf
    exact B22 _ _ _ _ hf hw (lv_sub hl [] rfl)
  · have hf := si_in c13 hf
    refine lv_iload_n X.1 X.2.1 dX10_best_16 rfl (lv_at hl 0 rfl) ?_
    refine lv_bipush (v := 99) X.1 X.2.1 dX10_best_17 (by decide) ?_
    refine lv_icmp_lt (tgt := 25) X.1 X.2.1 dX10_best_19 (by decide) (fun c19 => ?_) (fun c19 => ?_)
    · have hf := si_ip c19 hf
      refine lv_iconst (v := 1) X.1 X.2.1 dX10_best_25 (by decide) ?_
      refine lv_aload_n X.1 X.2.1 dX10_best_26 rfl (lv_at hl 1 rfl) ?_
      refine si_getR (k' := 94) (d := 7) X hw si_cl10 11 (by decide) gf_RX10_32 rfl rfl rfl (by decide) rfl dX10_best_27 ?_
      refine lv_iload_n X.1 X.2.1 dX10_best_30 rfl (lv_at hl 2 rfl) ?_
      obtain ⟨v13, ev13, hf⟩ := si_ob hf
      refine si_iald X hw rfl ev13 dX10_best_31 ?_
      refine lv_ishl X.1 X.2.1 dX10_best_32 ?_
      obtain ⟨v14, ev14, hf⟩ := si_ob hf
      refine si_nmI ev14 ?_
      refine lv_istore_n (lv' := [(3, .int v14), (2, .int q11.1), (0, .ref (E.2.1 87)), (1, .int x1)]) X.1 X.2.1 dX10_best_33 rfl hl (by decide) rfl (fun ls hl => ?_)
      refine lv_iconst (v := 1) X.1 X.2.1 dX10_best_34 (by decide) ?_
      refine lv_istore (lv' := [(4, .int 1), (3, .int v14), (2, .int q11.1), (0, .ref (E.2.1 87)), (1, .int x1)]) X.1 X.2.1 dX10_best_35 hl (by decide) rfl (fun ls hl => ?_)
      exact B37 F _ _ _ _ _ _ _ _ hf hw (lv_sub hl [3, 4, 2, 1, 0] rfl)
    · have hf := si_in c19 hf
      exact B22 _ _ _ _ hf hw (lv_sub hl [] rfl)
abbrev rm_X10_bestLeft : Room := { frames := 5, cells := 0, slots := 0, locals := 124 }
set_option maxHeartbeats 4000000 in
set_option maxRecDepth 100000 in
theorem c_X10_bestLeft (l : Launch) (E : si_Ev) (F : Nat) (x1 : Int32) (S : si_St) (o : Int32 × si_St) (hf : f_X10_bestLeft F x1 S = some o) : si_Mi l E yX10_bestLeft cX10_bestLeft 2 (some .int) rm_X10_bestLeft [.ref (E.2.1 87), .int x1] S o := by
  refine si_ofWi (plainFor_of_name (by decide +kernel)) (Nat.le_of_ble_eq_true rfl) ?_
  intro p e s m args below meth c ls Q A X hw hA hl hret
  have hl : lv_has ls 2 [(0, .ref (E.2.1 87)), (1, .int x1)] := hl
  have B22 : ∀ (t0 : Int32) (S : si_St) (H : Heap) (locs : List Loc) (ls : Array Slot) , f_X10_bestLeft_h22 F t0 S = some o → si_Ws E A s.heap S H locs → lv_has ls 2 [] → W p l e rm_X10_bestLeft s m args below meth c H locs 0 0 Q (F0 m 22 ls [.int t0]) := by
    intro t0  S H locs ls  hf hw hl
    unfold f_X10_bestLeft_h22 at hf
    exact hret _ _ _ _ _ _ hf hw dX10_bestLeft_22
  unfold f_X10_bestLeft at hf
  refine lv_aload_n X.1 X.2.1 dX10_bestLeft_0 rfl (lv_at hl 0 rfl) ?_
  refine lv_iconst (v := 0) X.1 X.2.1 dX10_bestLeft_1 (by decide) ?_
  obtain ⟨S1, eS1, hf⟩ := si_ob hf
  refine si_ptI X hw si_cl10 0 (by decide) gf_RX10_1 rfl rfl rfl rfl rfl eS1 dX10_bestLeft_2 (fun H locs hw => ?_)
  refine lv_aload_n X.1 X.2.1 dX10_bestLeft_5 rfl (lv_at hl 0 rfl) ?_
  refine lv_iload_n X.1 X.2.1 dX10_bestLeft_6 rfl (lv_at hl 1 rfl) ?_
  obtain ⟨q2, eq2, hf⟩ := si_ob hf
  refine si_cVi [.int x1] cal_X10_isSet gm_RX10_323 X hw hA hl.1 (c_X10_isSet l E F x1 S1 q2 eq2) si_cl10 rfl ⟨⟨rfl, rfl⟩, Nat.le_of_ble_eq_true rfl, Nat.le_of_ble_eq_true rfl⟩ rfl rfl (Nat.le_of_ble_eq_true rfl) ⟨Nat.zero_le _, Nat.zero_le _⟩ dX10_bestLeft_7 (fun H locs hw => ?_)
  refine lv_if_eq (tgt := 21) X.1 X.2.1 dX10_bestLeft_10 (by decide) (fun c10 => ?_) (fun c10 => ?_)
  · have hf := si_ip c10 hf
    refine lv_iconst (v := (-1)) X.1 X.2.1 dX10_bestLeft_21 (by decide) ?_
    exact B22 _ _ _ _ _ hf hw (lv_sub hl [] rfl)
  · have hf := si_in c10 hf
    refine lv_aload_n X.1 X.2.1 dX10_bestLeft_13 rfl (lv_at hl 0 rfl) ?_
    refine lv_iload_n X.1 X.2.1 dX10_bestLeft_14 rfl (lv_at hl 1 rfl) ?_
    obtain ⟨q3, eq3, hf⟩ := si_ob hf
    refine si_cVi [.int x1] cal_X10_best gm_RX10_346 X hw hA hl.1 (c_X10_best l E F x1 q2.2 q3 eq3) si_cl10 rfl ⟨⟨rfl, rfl⟩, Nat.le_of_ble_eq_true rfl, Nat.le_of_ble_eq_true rfl⟩ rfl rfl (Nat.le_of_ble_eq_true rfl) ⟨Nat.zero_le _, Nat.zero_le _⟩ dX10_bestLeft_15 (fun H locs hw => ?_)
    refine lv_goto (tgt := 22) X.1 X.2.1 dX10_bestLeft_18 (by decide) ?_
    exact B22 _ _ _ _ _ hf hw (lv_sub hl [] rfl)
abbrev rm_X10_bestRight : Room := { frames := 5, cells := 0, slots := 0, locals := 124 }
set_option maxHeartbeats 4000000 in
set_option maxRecDepth 100000 in
theorem c_X10_bestRight (l : Launch) (E : si_Ev) (F : Nat) (x1 : Int32) (S : si_St) (o : Int32 × si_St) (hf : f_X10_bestRight F x1 S = some o) : si_Mi l E yX10_bestRight cX10_bestRight 3 (some .int) rm_X10_bestRight [.ref (E.2.1 87), .int x1] S o := by
  refine si_ofWi (plainFor_of_name (by decide +kernel)) (Nat.le_of_ble_eq_true rfl) ?_
  intro p e s m args below meth c ls Q A X hw hA hl hret
  have hl : lv_has ls 3 [(0, .ref (E.2.1 87)), (1, .int x1)] := hl
  unfold f_X10_bestRight at hf
  refine lv_aload_n X.1 X.2.1 dX10_bestRight_0 rfl (lv_at hl 0 rfl) ?_
  refine lv_iconst (v := 0) X.1 X.2.1 dX10_bestRight_1 (by decide) ?_
  obtain ⟨S1, eS1, hf⟩ := si_ob hf
  refine si_ptI X hw si_cl10 0 (by decide) gf_RX10_1 rfl rfl rfl rfl rfl eS1 dX10_bestRight_2 (fun H locs hw => ?_)
  refine lv_aload_n X.1 X.2.1 dX10_bestRight_5 rfl (lv_at hl 0 rfl) ?_
  refine lv_iload_n X.1 X.2.1 dX10_bestRight_6 rfl (lv_at hl 1 rfl) ?_
  obtain ⟨q2, eq2, hf⟩ := si_ob hf
  refine si_cVi [.int x1] cal_X10_isSet gm_RX10_323 X hw hA hl.1 (c_X10_isSet l E F x1 S1 q2 eq2) si_cl10 rfl ⟨⟨rfl, rfl⟩, Nat.le_of_ble_eq_true rfl, Nat.le_of_ble_eq_true rfl⟩ rfl rfl (Nat.le_of_ble_eq_true rfl) ⟨Nat.zero_le _, Nat.zero_le _⟩ dX10_bestRight_7 (fun H locs hw => ?_)
  refine lv_if_ne (tgt := 15) X.1 X.2.1 dX10_bestRight_10 (by decide) (fun c10 => ?_) (fun c10 => ?_)
  · have hf := si_in c10 hf
    refine lv_aload_n X.1 X.2.1 dX10_bestRight_15 rfl (lv_at hl 0 rfl) ?_
    refine lv_iload_n X.1 X.2.1 dX10_bestRight_16 rfl (lv_at hl 1 rfl) ?_
    obtain ⟨q3, eq3, hf⟩ := si_ob hf
    refine si_cVi [.int x1] cal_X10_best gm_RX10_346 X hw hA hl.1 (c_X10_best l E F x1 q2.2 q3 eq3) si_cl10 rfl ⟨⟨rfl, rfl⟩, Nat.le_of_ble_eq_true rfl, Nat.le_of_ble_eq_true rfl⟩ rfl rfl (Nat.le_of_ble_eq_true rfl) ⟨Nat.zero_le _, Nat.zero_le _⟩ dX10_bestRight_17 (fun H locs hw => ?_)
    refine lv_istore_n (lv' := [(2, .int q3.1), (0, .ref (E.2.1 87)), (1, .int x1)]) X.1 X.2.1 dX10_bestRight_20 rfl hl (by decide) rfl (fun ls hl => ?_)
    refine lv_aload_n X.1 X.2.1 dX10_bestRight_21 rfl (lv_at hl 1 rfl) ?_
    refine si_getI X hw si_cl10 40 (by decide) gf_RX10_340 rfl rfl rfl dX10_bestRight_22 ?_
    exact hret _ _ _ _ _ _ hf hw dX10_bestRight_25
  · have hf := si_ip c10 hf
    refine lv_iconst (v := (-1)) X.1 X.2.1 dX10_bestRight_13 (by decide) ?_
    exact hret _ _ _ _ _ _ hf hw dX10_bestRight_14
abbrev rm_X10_fewestWeighings : Room := { frames := 3, cells := 0, slots := 0, locals := 76 }
set_option maxHeartbeats 4000000 in
set_option maxRecDepth 100000 in
theorem c_X10_fewestWeighings (l : Launch) (E : si_Ev) (F : Nat) (x1 : Int32) (x2 : Int32) (S : si_St) (o : Int32 × si_St) (hf : f_X10_fewestWeighings F x1 x2 S = some o) : si_Mi l E yX10_fewestWeighings cX10_fewestWeighings 4 (some .int) rm_X10_fewestWeighings [.ref (E.2.1 87), .int x1, .int x2] S o := by
  refine si_ofWi (plainFor_of_name (by decide +kernel)) (Nat.le_of_ble_eq_true rfl) ?_
  intro p e s m args below meth c ls Q A X hw hA hl hret
  have hl : lv_has ls 4 [(0, .ref (E.2.1 87)), (1, .int x1), (2, .int x2)] := hl
  have B53 : ∀ (t0 : Int32) (S : si_St) (H : Heap) (locs : List Loc) (ls : Array Slot) , f_X10_fewestWeighings_h53 F t0 S = some o → si_Ws E A s.heap S H locs → lv_has ls 4 [] → W p l e rm_X10_fewestWeighings s m args below meth c H locs 0 0 Q (F0 m 53 ls [.int t0]) := by
    intro t0  S H locs ls  hf hw hl
    unfold f_X10_fewestWeighings_h53 at hf
    exact hret _ _ _ _ _ _ hf hw dX10_fewestWeighings_53
  have B37 : ∀ (t0 : Int32) (t1 : Int32) (S : si_St) (H : Heap) (locs : List Loc) (ls : Array Slot) , f_X10_fewestWeighings_h37 F t0 t1 S = some o → si_Ws E A s.heap S H locs → lv_has ls 4 [] → W p l e rm_X10_fewestWeighings s m args below meth c H locs 0 0 Q (F0 m 37 ls [.int t0, .int t1, .ref (E.2.1 87)]) := by
    intro t0 t1  S H locs ls  hf hw hl
    unfold f_X10_fewestWeighings_h37 at hf
    obtain ⟨q1, eq1, hf⟩ := si_ob hf
    refine si_cVi [.int t1, .int t0] cal_X10_bothOf gm_RX10_320 X hw hA hl.1 (c_X10_bothOf l E F t1 t0 S q1 eq1) si_cl10 rfl ⟨⟨rfl, rfl⟩, Nat.le_of_ble_eq_true rfl, Nat.le_of_ble_eq_true rfl⟩ rfl rfl (Nat.le_of_ble_eq_true rfl) ⟨Nat.zero_le _, Nat.zero_le _⟩ dX10_fewestWeighings_37 (fun H locs hw => ?_)
    refine lv_istore_n (lv' := [(3, .int q1.1)]) X.1 X.2.1 dX10_fewestWeighings_40 rfl hl (by decide) rfl (fun ls hl => ?_)
    refine lv_iload_n X.1 X.2.1 dX10_fewestWeighings_41 rfl (lv_at hl 0 rfl) ?_
    refine lv_bipush (v := 99) X.1 X.2.1 dX10_fewestWeighings_42 (by decide) ?_
    refine lv_icmp_lt (tgt := 52) X.1 X.2.1 dX10_fewestWeighings_44 (by decide) (fun c44 => ?_) (fun c44 => ?_)
    · have hf := si_ip c44 hf
      refine lv_iload_n X.1 X.2.1 dX10_fewestWeighings_52 rfl (lv_at hl 0 rfl) ?_
      exact B53 _ _ _ _ _ hf hw (lv_sub hl [] rfl)
    · have hf := si_in c44 hf
      refine lv_bipush (v := (-2)) X.1 X.2.1 dX10_fewestWeighings_47 (by decide) ?_
      refine lv_goto (tgt := 53) X.1 X.2.1 dX10_fewestWeighings_49 (by decide) ?_
      exact B53 _ _ _ _ _ hf hw (lv_sub hl [] rfl)
  unfold f_X10_fewestWeighings at hf
  refine lv_aload_n X.1 X.2.1 dX10_fewestWeighings_0 rfl (lv_at hl 0 rfl) ?_
  refine lv_iconst (v := 0) X.1 X.2.1 dX10_fewestWeighings_1 (by decide) ?_
  obtain ⟨S2, eS2, hf⟩ := si_ob hf
  refine si_ptI X hw si_cl10 0 (by decide) gf_RX10_1 rfl rfl rfl rfl rfl eS2 dX10_fewestWeighings_2 (fun H locs hw => ?_)
  refine lv_iload_n X.1 X.2.1 dX10_fewestWeighings_5 rfl (lv_at hl 1 rfl) ?_
  refine lv_i2l (v := (Int32.toInt64 x1)) X.1 X.2.1 dX10_fewestWeighings_6 rfl ?_
  refine lv_ldc2 (v := (2 : Int64)) X.1 X.2.1 X.2.2.2.1 (si_wd X gk_RX10_326) dX10_fewestWeighings_7 ?_
  refine lv_ldc2 (v := (12 : Int64)) X.1 X.2.1 X.2.2.2.1 (si_wd X gk_RX10_349) dX10_fewestWeighings_10 ?_
  obtain ⟨q3, eq3, hf⟩ := si_ob hf
  refine si_cSi [.long (Int32.toInt64 x1), .long (2 : Int64), .long (12 : Int64)] cal_X10_within gm_RX10_124 X hw hA hl.1 (c_X10_within l E F (Int32.toInt64 x1) (2 : Int64) (12 : Int64) S2 q3 eq3) ⟨⟨rfl, rfl⟩, Nat.le_of_ble_eq_true rfl, Nat.le_of_ble_eq_true rfl⟩ rfl rfl (Nat.le_of_ble_eq_true rfl) ⟨Nat.zero_le _, Nat.zero_le _⟩ dX10_fewestWeighings_13 (fun H locs hw => ?_)
  refine lv_if_ne (tgt := 21) X.1 X.2.1 dX10_fewestWeighings_16 (by decide) (fun c16 => ?_) (fun c16 => ?_)
  · have hf := si_in c16 hf
    refine lv_aload_n X.1 X.2.1 dX10_fewestWeighings_21 rfl (lv_at hl 0 rfl) ?_
    refine lv_iload_n X.1 X.2.1 dX10_fewestWeighings_22 rfl (lv_at hl 1 rfl) ?_
    obtain ⟨S4, eS4, hf⟩ := si_ob hf
    refine si_cVv [.int x1] cal_X10_lays gm_RX10_331 X hw hA hl.1 (c_X10_lays l E F x1 q3.2 S4 eS4) si_cl10 rfl ⟨⟨rfl, rfl⟩, Nat.le_of_ble_eq_true rfl, Nat.le_of_ble_eq_true rfl⟩ rfl rfl (Nat.le_of_ble_eq_true rfl) ⟨Nat.zero_le _, Nat.zero_le _⟩ dX10_fewestWeighings_23 (fun H locs hw => ?_)
    refine lv_aload_n X.1 X.2.1 dX10_fewestWeighings_26 rfl (lv_at hl 0 rfl) ?_
    refine lv_iload_n X.1 X.2.1 dX10_fewestWeighings_27 rfl (lv_at hl 1 rfl) ?_
    refine lv_iload_n X.1 X.2.1 dX10_fewestWeighings_28 rfl (lv_at hl 2 rfl) ?_
    refine lv_if_eq (tgt := 36) X.1 X.2.1 dX10_fewestWeighings_29 (by decide) (fun c29 => ?_) (fun c29 => ?_)
    · have hf := si_ip c29 hf
      refine lv_iconst (v := 0) X.1 X.2.1 dX10_fewestWeighings_36 (by decide) ?_
      exact B37 _ _ _ _ _ _ hf hw (lv_sub hl [] rfl)
    · have hf := si_in c29 hf
      refine lv_iconst (v := 1) X.1 X.2.1 dX10_fewestWeighings_32 (by decide) ?_
      refine lv_goto (tgt := 37) X.1 X.2.1 dX10_fewestWeighings_33 (by decide) ?_
      exact B37 _ _ _ _ _ _ hf hw (lv_sub hl [] rfl)
  · have hf := si_ip c16 hf
    refine lv_iconst (v := (-1)) X.1 X.2.1 dX10_fewestWeighings_19 (by decide) ?_
    exact hret _ _ _ _ _ _ hf hw dX10_fewestWeighings_20
abbrev rm_X10_undo : Room := { frames := 1, cells := 0, slots := 0, locals := 25 }
set_option maxHeartbeats 4000000 in
set_option maxRecDepth 100000 in
theorem c_X10_undo (l : Launch) (E : si_Ev) (F : Nat) (S : si_St) (o : Int32 × si_St) (hf : f_X10_undo F S = some o) : si_Mi l E yX10_undo cX10_undo 1 (some .boolean) rm_X10_undo [.ref (E.2.1 87)] S o := by
  refine si_ofWz (plainFor_of_name (by decide +kernel)) (Nat.le_of_ble_eq_true rfl) ?_
  intro p e s m args below meth c ls Q A X hw hA hl hret
  have hl : lv_has ls 1 [(0, .ref (E.2.1 87))] := hl
  unfold f_X10_undo at hf
  refine lv_aload_n X.1 X.2.1 dX10_undo_0 rfl (lv_at hl 0 rfl) ?_
  refine lv_iconst (v := 0) X.1 X.2.1 dX10_undo_1 (by decide) ?_
  obtain ⟨S1, eS1, hf⟩ := si_ob hf
  refine si_ptI X hw si_cl10 0 (by decide) gf_RX10_1 rfl rfl rfl rfl rfl eS1 dX10_undo_2 (fun H locs hw => ?_)
  refine lv_aload_n X.1 X.2.1 dX10_undo_5 rfl (lv_at hl 0 rfl) ?_
  refine si_getI X hw si_cl10 41 (by decide) gf_RX10_231 rfl rfl rfl dX10_undo_6 ?_
  refine lv_if_ne (tgt := 14) X.1 X.2.1 dX10_undo_9 (by decide) (fun c9 => ?_) (fun c9 => ?_)
  · have hf := si_in c9 hf
    refine lv_aload_n X.1 X.2.1 dX10_undo_14 rfl (lv_at hl 0 rfl) ?_
    refine lv_dup X.1 X.2.1 dX10_undo_15 rfl ?_
    refine si_getI X hw si_cl10 41 (by decide) gf_RX10_231 rfl rfl rfl dX10_undo_16 ?_
    refine lv_iconst (v := 1) X.1 X.2.1 dX10_undo_19 (by decide) ?_
    refine lv_isub X.1 X.2.1 dX10_undo_20 ?_
    obtain ⟨S2, eS2, hf⟩ := si_ob hf
    refine si_ptI X hw si_cl10 41 (by decide) gf_RX10_231 rfl rfl rfl rfl rfl eS2 dX10_undo_21 (fun H locs hw => ?_)
    refine lv_aload_n X.1 X.2.1 dX10_undo_24 rfl (lv_at hl 0 rfl) ?_
    refine si_getR (k' := 110) (d := 23) X hw si_cl10 42 (by decide) gf_RX10_85 rfl rfl rfl (by decide) rfl dX10_undo_25 ?_
    refine lv_sipush (v := 677) X.1 X.2.1 dX10_undo_28 (by decide) ?_
    refine lv_aload_n X.1 X.2.1 dX10_undo_31 rfl (lv_at hl 0 rfl) ?_
    refine si_getI X hw si_cl10 41 (by decide) gf_RX10_231 rfl rfl rfl dX10_undo_32 ?_
    refine lv_imul X.1 X.2.1 dX10_undo_35 ?_
    refine lv_aload_n X.1 X.2.1 dX10_undo_36 rfl (lv_at hl 0 rfl) ?_
    refine si_getR (k' := 88) (d := 1) X hw si_cl10 1 (by decide) gf_RX10_13 rfl rfl rfl (by decide) rfl dX10_undo_37 ?_
    refine lv_iconst (v := 0) X.1 X.2.1 dX10_undo_40 (by decide) ?_
    refine lv_sipush (v := 677) X.1 X.2.1 dX10_undo_41 (by decide) ?_
    obtain ⟨S3, eS3, hf⟩ := si_ob hf
    refine si_cSv [.ref (E.2.1 110), .int (677 * (S2.1 87 41)), .ref (E.2.1 88), .int 0, .int 677] cal_X10_copies gm_RX10_221 X hw hA hl.1 (c_X10_copies l E F 110 88 rfl rfl (677 * (S2.1 87 41)) 0 677 S2 S3 eS3) ⟨⟨rfl, rfl⟩, Nat.le_of_ble_eq_true rfl, Nat.le_of_ble_eq_true rfl⟩ rfl rfl (Nat.le_of_ble_eq_true rfl) ⟨Nat.zero_le _, Nat.zero_le _⟩ dX10_undo_44 (fun H locs hw => ?_)
    refine lv_iconst (v := 1) X.1 X.2.1 dX10_undo_47 (by decide) ?_
    obtain ⟨v4, ev4, hf⟩ := si_ob hf
    exact hret _ _ _ _ _ _ (si_bzf ev4 hf) (si_nz (si_bz_inv ev4).1) hw dX10_undo_48
  · have hf := si_ip c9 hf
    refine lv_iconst (v := 0) X.1 X.2.1 dX10_undo_12 (by decide) ?_
    obtain ⟨v5, ev5, hf⟩ := si_ob hf
    exact hret _ _ _ _ _ _ (si_bzf ev5 hf) (si_nz (si_bz_inv ev5).1) hw dX10_undo_13
abbrev rm_X10_undoDepth : Room := { frames := 0, cells := 0, slots := 0, locals := 0 }
set_option maxHeartbeats 4000000 in
set_option maxRecDepth 100000 in
theorem c_X10_undoDepth (l : Launch) (E : si_Ev) (F : Nat) (S : si_St) (o : Int32 × si_St) (hf : f_X10_undoDepth F S = some o) : si_Mi l E yX10_undoDepth cX10_undoDepth 1 (some .int) rm_X10_undoDepth [.ref (E.2.1 87)] S o := by
  refine si_ofWi (plainFor_of_name (by decide +kernel)) (Nat.le_of_ble_eq_true rfl) ?_
  intro p e s m args below meth c ls Q A X hw hA hl hret
  have hl : lv_has ls 1 [(0, .ref (E.2.1 87))] := hl
  unfold f_X10_undoDepth at hf
  refine lv_aload_n X.1 X.2.1 dX10_undoDepth_0 rfl (lv_at hl 0 rfl) ?_
  refine lv_iconst (v := 0) X.1 X.2.1 dX10_undoDepth_1 (by decide) ?_
  obtain ⟨S1, eS1, hf⟩ := si_ob hf
  refine si_ptI X hw si_cl10 0 (by decide) gf_RX10_1 rfl rfl rfl rfl rfl eS1 dX10_undoDepth_2 (fun H locs hw => ?_)
  refine lv_aload_n X.1 X.2.1 dX10_undoDepth_5 rfl (lv_at hl 0 rfl) ?_
  refine si_getI X hw si_cl10 41 (by decide) gf_RX10_231 rfl rfl rfl dX10_undoDepth_6 ?_
  exact hret _ _ _ _ _ _ hf hw dX10_undoDepth_9
abbrev rm_X10_saveSnapshot : Room := { frames := 1, cells := 0, slots := 0, locals := 25 }
set_option maxHeartbeats 4000000 in
set_option maxRecDepth 100000 in
theorem c_X10_saveSnapshot (l : Launch) (E : si_Ev) (F : Nat) (x1 : Int32) (S : si_St) (o : Int32 × si_St) (hf : f_X10_saveSnapshot F x1 S = some o) : si_Mi l E yX10_saveSnapshot cX10_saveSnapshot 2 (some .boolean) rm_X10_saveSnapshot [.ref (E.2.1 87), .int x1] S o := by
  refine si_ofWz (plainFor_of_name (by decide +kernel)) (Nat.le_of_ble_eq_true rfl) ?_
  intro p e s m args below meth c ls Q A X hw hA hl hret
  have hl : lv_has ls 2 [(0, .ref (E.2.1 87)), (1, .int x1)] := hl
  unfold f_X10_saveSnapshot at hf
  refine lv_aload_n X.1 X.2.1 dX10_saveSnapshot_0 rfl (lv_at hl 0 rfl) ?_
  refine lv_iconst (v := 0) X.1 X.2.1 dX10_saveSnapshot_1 (by decide) ?_
  obtain ⟨S1, eS1, hf⟩ := si_ob hf
  refine si_ptI X hw si_cl10 0 (by decide) gf_RX10_1 rfl rfl rfl rfl rfl eS1 dX10_saveSnapshot_2 (fun H locs hw => ?_)
  refine lv_iload_n X.1 X.2.1 dX10_saveSnapshot_5 rfl (lv_at hl 1 rfl) ?_
  refine lv_i2l (v := (Int32.toInt64 x1)) X.1 X.2.1 dX10_saveSnapshot_6 rfl ?_
  refine lv_lconst (v := (0 : Int64)) X.1 X.2.1 dX10_saveSnapshot_7 (by decide) ?_
  refine lv_lconst (v := (1 : Int64)) X.1 X.2.1 dX10_saveSnapshot_8 (by decide) ?_
  obtain ⟨q2, eq2, hf⟩ := si_ob hf
  refine si_cSi [.long (Int32.toInt64 x1), .long (0 : Int64), .long (1 : Int64)] cal_X10_within gm_RX10_124 X hw hA hl.1 (c_X10_within l E F (Int32.toInt64 x1) (0 : Int64) (1 : Int64) S1 q2 eq2) ⟨⟨rfl, rfl⟩, Nat.le_of_ble_eq_true rfl, Nat.le_of_ble_eq_true rfl⟩ rfl rfl (Nat.le_of_ble_eq_true rfl) ⟨Nat.zero_le _, Nat.zero_le _⟩ dX10_saveSnapshot_9 (fun H locs hw => ?_)
  refine lv_if_ne (tgt := 17) X.1 X.2.1 dX10_saveSnapshot_12 (by decide) (fun c12 => ?_) (fun c12 => ?_)
  · have hf := si_in c12 hf
    refine lv_aload_n X.1 X.2.1 dX10_saveSnapshot_17 rfl (lv_at hl 0 rfl) ?_
    refine si_getR (k' := 88) (d := 1) X hw si_cl10 1 (by decide) gf_RX10_13 rfl rfl rfl (by decide) rfl dX10_saveSnapshot_18 ?_
    refine lv_iconst (v := 0) X.1 X.2.1 dX10_saveSnapshot_21 (by decide) ?_
    refine lv_aload_n X.1 X.2.1 dX10_saveSnapshot_22 rfl (lv_at hl 0 rfl) ?_
    refine si_getR (k' := 111) (d := 24) X hw si_cl10 43 (by decide) gf_RX10_88 rfl rfl rfl (by decide) rfl dX10_saveSnapshot_23 ?_
    refine lv_sipush (v := 677) X.1 X.2.1 dX10_saveSnapshot_26 (by decide) ?_
    refine lv_iload_n X.1 X.2.1 dX10_saveSnapshot_29 rfl (lv_at hl 1 rfl) ?_
    refine lv_imul X.1 X.2.1 dX10_saveSnapshot_30 ?_
    refine lv_sipush (v := 677) X.1 X.2.1 dX10_saveSnapshot_31 (by decide) ?_
    obtain ⟨S3, eS3, hf⟩ := si_ob hf
    refine si_cSv [.ref (E.2.1 88), .int 0, .ref (E.2.1 111), .int (677 * x1), .int 677] cal_X10_copies gm_RX10_221 X hw hA hl.1 (c_X10_copies l E F 88 111 rfl rfl 0 (677 * x1) 677 q2.2 S3 eS3) ⟨⟨rfl, rfl⟩, Nat.le_of_ble_eq_true rfl, Nat.le_of_ble_eq_true rfl⟩ rfl rfl (Nat.le_of_ble_eq_true rfl) ⟨Nat.zero_le _, Nat.zero_le _⟩ dX10_saveSnapshot_34 (fun H locs hw => ?_)
    refine lv_aload_n X.1 X.2.1 dX10_saveSnapshot_37 rfl (lv_at hl 0 rfl) ?_
    refine si_getR (k' := 112) (d := 25) X hw si_cl10 44 (by decide) gf_RX10_91 rfl rfl rfl (by decide) rfl dX10_saveSnapshot_38 ?_
    refine lv_iload_n X.1 X.2.1 dX10_saveSnapshot_41 rfl (lv_at hl 1 rfl) ?_
    refine lv_iconst (v := 1) X.1 X.2.1 dX10_saveSnapshot_42 (by decide) ?_
    obtain ⟨S4, eS4, hf⟩ := si_ob hf
    refine si_wzst X hw rfl eS4 dX10_saveSnapshot_43 (fun H locs hw => ?_)
    refine lv_iconst (v := 1) X.1 X.2.1 dX10_saveSnapshot_44 (by decide) ?_
    obtain ⟨v5, ev5, hf⟩ := si_ob hf
    exact hret _ _ _ _ _ _ (si_bzf ev5 hf) (si_nz (si_bz_inv ev5).1) hw dX10_saveSnapshot_45
  · have hf := si_ip c12 hf
    refine lv_iconst (v := 0) X.1 X.2.1 dX10_saveSnapshot_15 (by decide) ?_
    obtain ⟨v6, ev6, hf⟩ := si_ob hf
    exact hret _ _ _ _ _ _ (si_bzf ev6 hf) (si_nz (si_bz_inv ev6).1) hw dX10_saveSnapshot_16
abbrev rm_X10_restoreSnapshot : Room := { frames := 1, cells := 0, slots := 0, locals := 25 }
set_option maxHeartbeats 4000000 in
set_option maxRecDepth 100000 in
theorem c_X10_restoreSnapshot (l : Launch) (E : si_Ev) (F : Nat) (x1 : Int32) (S : si_St) (o : Int32 × si_St) (hf : f_X10_restoreSnapshot F x1 S = some o) : si_Mi l E yX10_restoreSnapshot cX10_restoreSnapshot 2 (some .boolean) rm_X10_restoreSnapshot [.ref (E.2.1 87), .int x1] S o := by
  refine si_ofWz (plainFor_of_name (by decide +kernel)) (Nat.le_of_ble_eq_true rfl) ?_
  intro p e s m args below meth c ls Q A X hw hA hl hret
  have hl : lv_has ls 2 [(0, .ref (E.2.1 87)), (1, .int x1)] := hl
  have B24 : ∀ (S : si_St) (H : Heap) (locs : List Loc) (ls : Array Slot) , f_X10_restoreSnapshot_h24 F S = some o → si_Ws E A s.heap S H locs → lv_has ls 2 [] → W p l e rm_X10_restoreSnapshot s m args below meth c H locs 0 0 Q (F0 m 24 ls []) := by
    intro   S H locs ls  hf hw hl
    unfold f_X10_restoreSnapshot_h24 at hf
    refine lv_iconst (v := 0) X.1 X.2.1 dX10_restoreSnapshot_24 (by decide) ?_
    obtain ⟨v1, ev1, hf⟩ := si_ob hf
    exact hret _ _ _ _ _ _ (si_bzf ev1 hf) (si_nz (si_bz_inv ev1).1) hw dX10_restoreSnapshot_25
  unfold f_X10_restoreSnapshot at hf
  refine lv_aload_n X.1 X.2.1 dX10_restoreSnapshot_0 rfl (lv_at hl 0 rfl) ?_
  refine lv_iconst (v := 0) X.1 X.2.1 dX10_restoreSnapshot_1 (by decide) ?_
  obtain ⟨S2, eS2, hf⟩ := si_ob hf
  refine si_ptI X hw si_cl10 0 (by decide) gf_RX10_1 rfl rfl rfl rfl rfl eS2 dX10_restoreSnapshot_2 (fun H locs hw => ?_)
  refine lv_iload_n X.1 X.2.1 dX10_restoreSnapshot_5 rfl (lv_at hl 1 rfl) ?_
  refine lv_i2l (v := (Int32.toInt64 x1)) X.1 X.2.1 dX10_restoreSnapshot_6 rfl ?_
  refine lv_lconst (v := (0 : Int64)) X.1 X.2.1 dX10_restoreSnapshot_7 (by decide) ?_
  refine lv_lconst (v := (1 : Int64)) X.1 X.2.1 dX10_restoreSnapshot_8 (by decide) ?_
  obtain ⟨q3, eq3, hf⟩ := si_ob hf
  refine si_cSi [.long (Int32.toInt64 x1), .long (0 : Int64), .long (1 : Int64)] cal_X10_within gm_RX10_124 X hw hA hl.1 (c_X10_within l E F (Int32.toInt64 x1) (0 : Int64) (1 : Int64) S2 q3 eq3) ⟨⟨rfl, rfl⟩, Nat.le_of_ble_eq_true rfl, Nat.le_of_ble_eq_true rfl⟩ rfl rfl (Nat.le_of_ble_eq_true rfl) ⟨Nat.zero_le _, Nat.zero_le _⟩ dX10_restoreSnapshot_9 (fun H locs hw => ?_)
  refine lv_if_eq (tgt := 24) X.1 X.2.1 dX10_restoreSnapshot_12 (by decide) (fun c12 => ?_) (fun c12 => ?_)
  · have hf := si_ip c12 hf
    exact B24 _ _ _ _ hf hw (lv_sub hl [] rfl)
  · have hf := si_in c12 hf
    refine lv_aload_n X.1 X.2.1 dX10_restoreSnapshot_15 rfl (lv_at hl 0 rfl) ?_
    refine si_getR (k' := 112) (d := 25) X hw si_cl10 44 (by decide) gf_RX10_91 rfl rfl rfl (by decide) rfl dX10_restoreSnapshot_16 ?_
    refine lv_iload_n X.1 X.2.1 dX10_restoreSnapshot_19 rfl (lv_at hl 1 rfl) ?_
    obtain ⟨v4, ev4, hf⟩ := si_ob hf
    refine si_zald X hw rfl ev4 dX10_restoreSnapshot_20 ?_
    refine lv_if_ne (tgt := 26) X.1 X.2.1 dX10_restoreSnapshot_21 (by decide) (fun c21 => ?_) (fun c21 => ?_)
    · have hf := si_in c21 hf
      refine lv_aload_n X.1 X.2.1 dX10_restoreSnapshot_26 rfl (lv_at hl 0 rfl) ?_
      refine si_getR (k' := 111) (d := 24) X hw si_cl10 43 (by decide) gf_RX10_88 rfl rfl rfl (by decide) rfl dX10_restoreSnapshot_27 ?_
      refine lv_sipush (v := 677) X.1 X.2.1 dX10_restoreSnapshot_30 (by decide) ?_
      refine lv_iload_n X.1 X.2.1 dX10_restoreSnapshot_33 rfl (lv_at hl 1 rfl) ?_
      refine lv_imul X.1 X.2.1 dX10_restoreSnapshot_34 ?_
      refine lv_aload_n X.1 X.2.1 dX10_restoreSnapshot_35 rfl (lv_at hl 0 rfl) ?_
      refine si_getR (k' := 88) (d := 1) X hw si_cl10 1 (by decide) gf_RX10_13 rfl rfl rfl (by decide) rfl dX10_restoreSnapshot_36 ?_
      refine lv_iconst (v := 0) X.1 X.2.1 dX10_restoreSnapshot_39 (by decide) ?_
      refine lv_sipush (v := 677) X.1 X.2.1 dX10_restoreSnapshot_40 (by decide) ?_
      obtain ⟨S5, eS5, hf⟩ := si_ob hf
      refine si_cSv [.ref (E.2.1 111), .int (677 * x1), .ref (E.2.1 88), .int 0, .int 677] cal_X10_copies gm_RX10_221 X hw hA hl.1 (c_X10_copies l E F 111 88 rfl rfl (677 * x1) 0 677 q3.2 S5 eS5) ⟨⟨rfl, rfl⟩, Nat.le_of_ble_eq_true rfl, Nat.le_of_ble_eq_true rfl⟩ rfl rfl (Nat.le_of_ble_eq_true rfl) ⟨Nat.zero_le _, Nat.zero_le _⟩ dX10_restoreSnapshot_43 (fun H locs hw => ?_)
      refine lv_aload_n X.1 X.2.1 dX10_restoreSnapshot_46 rfl (lv_at hl 0 rfl) ?_
      refine lv_iconst (v := 0) X.1 X.2.1 dX10_restoreSnapshot_47 (by decide) ?_
      obtain ⟨S6, eS6, hf⟩ := si_ob hf
      refine si_ptI X hw si_cl10 41 (by decide) gf_RX10_231 rfl rfl rfl rfl rfl eS6 dX10_restoreSnapshot_48 (fun H locs hw => ?_)
      refine lv_iconst (v := 1) X.1 X.2.1 dX10_restoreSnapshot_51 (by decide) ?_
      obtain ⟨v7, ev7, hf⟩ := si_ob hf
      exact hret _ _ _ _ _ _ (si_bzf ev7 hf) (si_nz (si_bz_inv ev7).1) hw dX10_restoreSnapshot_52
    · have hf := si_ip c21 hf
      exact B24 _ _ _ _ hf hw (lv_sub hl [] rfl)

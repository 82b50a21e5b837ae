theorem dX10_errorPosition_0 : decode cX10_errorPosition 0 = .ok (.aload_n 0, 1) := by decide +kernel
theorem dX10_errorPosition_1 : decode cX10_errorPosition 1 = .ok (.iconst 0, 1) := by decide +kernel
theorem dX10_errorPosition_2 : decode cX10_errorPosition 2 = .ok (.putfield 1, 3) := by decide +kernel
theorem dX10_errorPosition_5 : decode cX10_errorPosition 5 = .ok (.aload_n 0, 1) := by decide +kernel
theorem dX10_errorPosition_6 : decode cX10_errorPosition 6 = .ok (.getfield 46, 3) := by decide +kernel
theorem dX10_errorPosition_9 : decode cX10_errorPosition 9 = .ok (.ireturn, 1) := by decide +kernel
theorem dX10_traderCount_0 : decode cX10_traderCount 0 = .ok (.aload_n 0, 1) := by decide +kernel
theorem dX10_traderCount_1 : decode cX10_traderCount 1 = .ok (.iconst 0, 1) := by decide +kernel
theorem dX10_traderCount_2 : decode cX10_traderCount 2 = .ok (.putfield 1, 3) := by decide +kernel
theorem dX10_traderCount_5 : decode cX10_traderCount 5 = .ok (.aload_n 0, 1) := by decide +kernel
theorem dX10_traderCount_6 : decode cX10_traderCount 6 = .ok (.getfield 215, 3) := by decide +kernel
theorem dX10_traderCount_9 : decode cX10_traderCount 9 = .ok (.ireturn, 1) := by decide +kernel
theorem dX10_scaleCount_0 : decode cX10_scaleCount 0 = .ok (.aload_n 0, 1) := by decide +kernel
theorem dX10_scaleCount_1 : decode cX10_scaleCount 1 = .ok (.iconst 0, 1) := by decide +kernel
theorem dX10_scaleCount_2 : decode cX10_scaleCount 2 = .ok (.putfield 1, 3) := by decide +kernel
theorem dX10_scaleCount_5 : decode cX10_scaleCount 5 = .ok (.aload_n 0, 1) := by decide +kernel
theorem dX10_scaleCount_6 : decode cX10_scaleCount 6 = .ok (.getfield 218, 3) := by decide +kernel
theorem dX10_scaleCount_9 : decode cX10_scaleCount 9 = .ok (.ireturn, 1) := by decide +kernel
theorem dX10_massCount_0 : decode cX10_massCount 0 = .ok (.aload_n 0, 1) := by decide +kernel
theorem dX10_massCount_1 : decode cX10_massCount 1 = .ok (.iconst 0, 1) := by decide +kernel
theorem dX10_massCount_2 : decode cX10_massCount 2 = .ok (.putfield 1, 3) := by decide +kernel
theorem dX10_massCount_5 : decode cX10_massCount 5 = .ok (.aload_n 0, 1) := by decide +kernel
theorem dX10_massCount_6 : decode cX10_massCount 6 = .ok (.getfield 225, 3) := by decide +kernel
theorem dX10_massCount_9 : decode cX10_massCount 9 = .ok (.ireturn, 1) := by decide +kernel
theorem dX10_setCount_0 : decode cX10_setCount 0 = .ok (.aload_n 0, 1) := by decide +kernel
theorem dX10_setCount_1 : decode cX10_setCount 1 = .ok (.iconst 0, 1) := by decide +kernel
theorem dX10_setCount_2 : decode cX10_setCount 2 = .ok (.putfield 1, 3) := by decide +kernel
theorem dX10_setCount_5 : decode cX10_setCount 5 = .ok (.aload_n 0, 1) := by decide +kernel
theorem dX10_setCount_6 : decode cX10_setCount 6 = .ok (.getfield 228, 3) := by decide +kernel
theorem dX10_setCount_9 : decode cX10_setCount 9 = .ok (.ireturn, 1) := by decide +kernel
theorem dX10_isScale_0 : decode cX10_isScale 0 = .ok (.iload_n 1, 1) := by decide +kernel
theorem dX10_isScale_1 : decode cX10_isScale 1 = .ok (.i2l, 1) := by decide +kernel
theorem dX10_isScale_2 : decode cX10_isScale 2 = .ok (.lconst 0, 1) := by decide +kernel
theorem dX10_isScale_3 : decode cX10_isScale 3 = .ok (.aload_n 0, 1) := by decide +kernel
theorem dX10_isScale_4 : decode cX10_isScale 4 = .ok (.getfield 218, 3) := by decide +kernel
theorem dX10_isScale_7 : decode cX10_isScale 7 = .ok (.iconst 1, 1) := by decide +kernel
theorem dX10_isScale_8 : decode cX10_isScale 8 = .ok (.isub, 1) := by decide +kernel
theorem dX10_isScale_9 : decode cX10_isScale 9 = .ok (.i2l, 1) := by decide +kernel
theorem dX10_isScale_10 : decode cX10_isScale 10 = .ok (.invokestatic 124, 3) := by decide +kernel
theorem dX10_isScale_13 : decode cX10_isScale 13 = .ok (.ireturn, 1) := by decide +kernel
theorem dX10_trader_0 : decode cX10_trader 0 = .ok (.aload_n 0, 1) := by decide +kernel
theorem dX10_trader_1 : decode cX10_trader 1 = .ok (.iconst 0, 1) := by decide +kernel
theorem dX10_trader_2 : decode cX10_trader 2 = .ok (.putfield 1, 3) := by decide +kernel
theorem dX10_trader_5 : decode cX10_trader 5 = .ok (.aload_n 0, 1) := by decide +kernel
theorem dX10_trader_6 : decode cX10_trader 6 = .ok (.iload_n 1, 1) := by decide +kernel
theorem dX10_trader_7 : decode cX10_trader 7 = .ok (.invokevirtual 234, 3) := by decide +kernel
theorem dX10_trader_10 : decode cX10_trader 10 = .ok (.ifCond .eq 12, 3) := by decide +kernel
theorem dX10_trader_13 : decode cX10_trader 13 = .ok (.aload_n 0, 1) := by decide +kernel
theorem dX10_trader_14 : decode cX10_trader 14 = .ok (.getfield 17, 3) := by decide +kernel
theorem dX10_trader_17 : decode cX10_trader 17 = .ok (.iload_n 1, 1) := by decide +kernel
theorem dX10_trader_18 : decode cX10_trader 18 = .ok (.iaload, 1) := by decide +kernel
theorem dX10_trader_19 : decode cX10_trader 19 = .ok (.goto 4, 3) := by decide +kernel
theorem dX10_trader_22 : decode cX10_trader 22 = .ok (.iconst (-1), 1) := by decide +kernel
theorem dX10_trader_23 : decode cX10_trader 23 = .ok (.ireturn, 1) := by decide +kernel
theorem dX10_capacity_0 : decode cX10_capacity 0 = .ok (.aload_n 0, 1) := by decide +kernel
theorem dX10_capacity_1 : decode cX10_capacity 1 = .ok (.iconst 0, 1) := by decide +kernel
theorem dX10_capacity_2 : decode cX10_capacity 2 = .ok (.putfield 1, 3) := by decide +kernel
theorem dX10_capacity_5 : decode cX10_capacity 5 = .ok (.aload_n 0, 1) := by decide +kernel
theorem dX10_capacity_6 : decode cX10_capacity 6 = .ok (.iload_n 1, 1) := by decide +kernel
theorem dX10_capacity_7 : decode cX10_capacity 7 = .ok (.invokevirtual 234, 3) := by decide +kernel
theorem dX10_capacity_10 : decode cX10_capacity 10 = .ok (.ifCond .eq 12, 3) := by decide +kernel
theorem dX10_capacity_13 : decode cX10_capacity 13 = .ok (.aload_n 0, 1) := by decide +kernel
theorem dX10_capacity_14 : decode cX10_capacity 14 = .ok (.getfield 26, 3) := by decide +kernel
theorem dX10_capacity_17 : decode cX10_capacity 17 = .ok (.iload_n 1, 1) := by decide +kernel
theorem dX10_capacity_18 : decode cX10_capacity 18 = .ok (.iaload, 1) := by decide +kernel
theorem dX10_capacity_19 : decode cX10_capacity 19 = .ok (.goto 4, 3) := by decide +kernel
theorem dX10_capacity_22 : decode cX10_capacity 22 = .ok (.iconst (-1), 1) := by decide +kernel
theorem dX10_capacity_23 : decode cX10_capacity 23 = .ok (.ireturn, 1) := by decide +kernel
theorem dX10_base_0 : decode cX10_base 0 = .ok (.aload_n 0, 1) := by decide +kernel
theorem dX10_base_1 : decode cX10_base 1 = .ok (.getfield 23, 3) := by decide +kernel
theorem dX10_base_4 : decode cX10_base 4 = .ok (.iload_n 1, 1) := by decide +kernel
theorem dX10_base_5 : decode cX10_base 5 = .ok (.iaload, 1) := by decide +kernel
theorem dX10_base_6 : decode cX10_base 6 = .ok (.istore_n 3, 1) := by decide +kernel
theorem dX10_base_7 : decode cX10_base 7 = .ok (.aload_n 0, 1) := by decide +kernel
theorem dX10_base_8 : decode cX10_base 8 = .ok (.getfield 20, 3) := by decide +kernel
theorem dX10_base_11 : decode cX10_base 11 = .ok (.iload_n 1, 1) := by decide +kernel
theorem dX10_base_12 : decode cX10_base 12 = .ok (.iaload, 1) := by decide +kernel
theorem dX10_base_13 : decode cX10_base 13 = .ok (.ifCond .ne 9, 3) := by decide +kernel
theorem dX10_base_16 : decode cX10_base 16 = .ok (.sipush 5000, 3) := by decide +kernel
theorem dX10_base_19 : decode cX10_base 19 = .ok (.goto 21, 3) := by decide +kernel
theorem dX10_base_22 : decode cX10_base 22 = .ok (.aload_n 0, 1) := by decide +kernel
theorem dX10_base_23 : decode cX10_base 23 = .ok (.getfield 20, 3) := by decide +kernel
theorem dX10_base_26 : decode cX10_base 26 = .ok (.iload_n 1, 1) := by decide +kernel
theorem dX10_base_27 : decode cX10_base 27 = .ok (.iaload, 1) := by decide +kernel
theorem dX10_base_28 : decode cX10_base 28 = .ok (.iconst 1, 1) := by decide +kernel
theorem dX10_base_29 : decode cX10_base 29 = .ok (.if_icmp .ne 9, 3) := by decide +kernel
theorem dX10_base_32 : decode cX10_base 32 = .ok (.sipush 500, 3) := by decide +kernel
theorem dX10_base_35 : decode cX10_base 35 = .ok (.goto 5, 3) := by decide +kernel
theorem dX10_base_38 : decode cX10_base 38 = .ok (.bipush 50, 2) := by decide +kernel
theorem dX10_base_40 : decode cX10_base 40 = .ok (.istore 4, 2) := by decide +kernel
theorem dX10_base_42 : decode cX10_base 42 = .ok (.iload_n 2, 1) := by decide +kernel
theorem dX10_base_43 : decode cX10_base 43 = .ok (.iload 4, 2) := by decide +kernel
theorem dX10_base_45 : decode cX10_base 45 = .ok (.iload_n 3, 1) := by decide +kernel
theorem dX10_base_46 : decode cX10_base 46 = .ok (.imul, 1) := by decide +kernel
theorem dX10_base_47 : decode cX10_base 47 = .ok (.if_icmp .gt 11, 3) := by decide +kernel
theorem dX10_base_50 : decode cX10_base 50 = .ok (.iload_n 3, 1) := by decide +kernel
theorem dX10_base_51 : decode cX10_base 51 = .ok (.iconst 1, 1) := by decide +kernel
theorem dX10_base_52 : decode cX10_base 52 = .ok (.iadd, 1) := by decide +kernel
theorem dX10_base_53 : decode cX10_base 53 = .ok (.iconst 2, 1) := by decide +kernel
theorem dX10_base_54 : decode cX10_base 54 = .ok (.idiv, 1) := by decide +kernel
theorem dX10_base_55 : decode cX10_base 55 = .ok (.goto 24, 3) := by decide +kernel
theorem dX10_base_58 : decode cX10_base 58 = .ok (.iload_n 2, 1) := by decide +kernel
theorem dX10_base_59 : decode cX10_base 59 = .ok (.iconst 4, 1) := by decide +kernel
theorem dX10_base_60 : decode cX10_base 60 = .ok (.iload 4, 2) := by decide +kernel
theorem dX10_base_62 : decode cX10_base 62 = .ok (.imul, 1) := by decide +kernel
theorem dX10_base_63 : decode cX10_base 63 = .ok (.iload_n 3, 1) := by decide +kernel
theorem dX10_base_64 : decode cX10_base 64 = .ok (.imul, 1) := by decide +kernel
theorem dX10_base_65 : decode cX10_base 65 = .ok (.if_icmp .gt 7, 3) := by decide +kernel
theorem dX10_base_68 : decode cX10_base 68 = .ok (.iload_n 3, 1) := by decide +kernel
theorem dX10_base_69 : decode cX10_base 69 = .ok (.goto 10, 3) := by decide +kernel
theorem dX10_base_72 : decode cX10_base 72 = .ok (.iconst 3, 1) := by decide +kernel
theorem dX10_base_73 : decode cX10_base 73 = .ok (.iload_n 3, 1) := by decide +kernel
theorem dX10_base_74 : decode cX10_base 74 = .ok (.imul, 1) := by decide +kernel
theorem dX10_base_75 : decode cX10_base 75 = .ok (.iconst 1, 1) := by decide +kernel
theorem dX10_base_76 : decode cX10_base 76 = .ok (.iadd, 1) := by decide +kernel
theorem dX10_base_77 : decode cX10_base 77 = .ok (.iconst 2, 1) := by decide +kernel
theorem dX10_base_78 : decode cX10_base 78 = .ok (.idiv, 1) := by decide +kernel
theorem dX10_base_79 : decode cX10_base 79 = .ok (.ireturn, 1) := by decide +kernel
theorem dX10_baseTolerance_0 : decode cX10_baseTolerance 0 = .ok (.aload_n 0, 1) := by decide +kernel
theorem dX10_baseTolerance_1 : decode cX10_baseTolerance 1 = .ok (.aload_n 0, 1) := by decide +kernel
theorem dX10_baseTolerance_2 : decode cX10_baseTolerance 2 = .ok (.iload_n 1, 1) := by decide +kernel
theorem dX10_baseTolerance_3 : decode cX10_baseTolerance 3 = .ok (.invokevirtual 234, 3) := by decide +kernel
theorem dX10_baseTolerance_6 : decode cX10_baseTolerance 6 = .ok (.ifCond .ne 7, 3) := by decide +kernel
theorem dX10_baseTolerance_9 : decode cX10_baseTolerance 9 = .ok (.iconst 1, 1) := by decide +kernel
theorem dX10_baseTolerance_10 : decode cX10_baseTolerance 10 = .ok (.goto 24, 3) := by decide +kernel
theorem dX10_baseTolerance_13 : decode cX10_baseTolerance 13 = .ok (.iload_n 2, 1) := by decide +kernel
theorem dX10_baseTolerance_14 : decode cX10_baseTolerance 14 = .ok (.i2l, 1) := by decide +kernel
theorem dX10_baseTolerance_15 : decode cX10_baseTolerance 15 = .ok (.lconst 0, 1) := by decide +kernel
theorem dX10_baseTolerance_16 : decode cX10_baseTolerance 16 = .ok (.aload_n 0, 1) := by decide +kernel
theorem dX10_baseTolerance_17 : decode cX10_baseTolerance 17 = .ok (.getfield 26, 3) := by decide +kernel
theorem dX10_baseTolerance_20 : decode cX10_baseTolerance 20 = .ok (.iload_n 1, 1) := by decide +kernel
theorem dX10_baseTolerance_21 : decode cX10_baseTolerance 21 = .ok (.iaload, 1) := by decide +kernel
theorem dX10_baseTolerance_22 : decode cX10_baseTolerance 22 = .ok (.i2l, 1) := by decide +kernel
theorem dX10_baseTolerance_23 : decode cX10_baseTolerance 23 = .ok (.invokestatic 124, 3) := by decide +kernel
theorem dX10_baseTolerance_26 : decode cX10_baseTolerance 26 = .ok (.ifCond .ne 7, 3) := by decide +kernel
theorem dX10_baseTolerance_29 : decode cX10_baseTolerance 29 = .ok (.iconst 2, 1) := by decide +kernel
theorem dX10_baseTolerance_30 : decode cX10_baseTolerance 30 = .ok (.goto 4, 3) := by decide +kernel
theorem dX10_baseTolerance_33 : decode cX10_baseTolerance 33 = .ok (.iconst 0, 1) := by decide +kernel
theorem dX10_baseTolerance_34 : decode cX10_baseTolerance 34 = .ok (.putfield 1, 3) := by decide +kernel
theorem dX10_baseTolerance_37 : decode cX10_baseTolerance 37 = .ok (.aload_n 0, 1) := by decide +kernel
theorem dX10_baseTolerance_38 : decode cX10_baseTolerance 38 = .ok (.getfield 1, 3) := by decide +kernel
theorem dX10_baseTolerance_41 : decode cX10_baseTolerance 41 = .ok (.ifCond .le 7, 3) := by decide +kernel
theorem dX10_baseTolerance_44 : decode cX10_baseTolerance 44 = .ok (.iconst 0, 1) := by decide +kernel
theorem dX10_baseTolerance_45 : decode cX10_baseTolerance 45 = .ok (.goto 9, 3) := by decide +kernel
theorem dX10_baseTolerance_48 : decode cX10_baseTolerance 48 = .ok (.aload_n 0, 1) := by decide +kernel
theorem dX10_baseTolerance_49 : decode cX10_baseTolerance 49 = .ok (.iload_n 1, 1) := by decide +kernel
theorem dX10_baseTolerance_50 : decode cX10_baseTolerance 50 = .ok (.iload_n 2, 1) := by decide +kernel
theorem dX10_baseTolerance_51 : decode cX10_baseTolerance 51 = .ok (.invokevirtual 237, 3) := by decide +kernel
theorem dX10_baseTolerance_54 : decode cX10_baseTolerance 54 = .ok (.ireturn, 1) := by decide +kernel
theorem dX10_massValue_0 : decode cX10_massValue 0 = .ok (.aload_n 0, 1) := by decide +kernel
theorem dX10_massValue_1 : decode cX10_massValue 1 = .ok (.iconst 0, 1) := by decide +kernel
theorem dX10_massValue_2 : decode cX10_massValue 2 = .ok (.putfield 1, 3) := by decide +kernel
theorem dX10_massValue_5 : decode cX10_massValue 5 = .ok (.iload_n 1, 1) := by decide +kernel
theorem dX10_massValue_6 : decode cX10_massValue 6 = .ok (.i2l, 1) := by decide +kernel
theorem dX10_massValue_7 : decode cX10_massValue 7 = .ok (.lconst 0, 1) := by decide +kernel
theorem dX10_massValue_8 : decode cX10_massValue 8 = .ok (.aload_n 0, 1) := by decide +kernel
theorem dX10_massValue_9 : decode cX10_massValue 9 = .ok (.getfield 225, 3) := by decide +kernel
theorem dX10_massValue_12 : decode cX10_massValue 12 = .ok (.iconst 1, 1) := by decide +kernel
theorem dX10_massValue_13 : decode cX10_massValue 13 = .ok (.isub, 1) := by decide +kernel
theorem dX10_massValue_14 : decode cX10_massValue 14 = .ok (.i2l, 1) := by decide +kernel
theorem dX10_massValue_15 : decode cX10_massValue 15 = .ok (.invokestatic 124, 3) := by decide +kernel
theorem dX10_massValue_18 : decode cX10_massValue 18 = .ok (.ifCond .eq 12, 3) := by decide +kernel
theorem dX10_massValue_21 : decode cX10_massValue 21 = .ok (.aload_n 0, 1) := by decide +kernel
theorem dX10_massValue_22 : decode cX10_massValue 22 = .ok (.getfield 29, 3) := by decide +kernel
theorem dX10_massValue_25 : decode cX10_massValue 25 = .ok (.iload_n 1, 1) := by decide +kernel
theorem dX10_massValue_26 : decode cX10_massValue 26 = .ok (.iaload, 1) := by decide +kernel
theorem dX10_massValue_27 : decode cX10_massValue 27 = .ok (.goto 4, 3) := by decide +kernel
theorem dX10_massValue_30 : decode cX10_massValue 30 = .ok (.iconst (-1), 1) := by decide +kernel
theorem dX10_massValue_31 : decode cX10_massValue 31 = .ok (.ireturn, 1) := by decide +kernel
theorem dX10_sumOf_0 : decode cX10_sumOf 0 = .ok (.iconst 0, 1) := by decide +kernel
theorem dX10_sumOf_1 : decode cX10_sumOf 1 = .ok (.istore_n 2, 1) := by decide +kernel
theorem dX10_sumOf_2 : decode cX10_sumOf 2 = .ok (.iconst 0, 1) := by decide +kernel
theorem dX10_sumOf_3 : decode cX10_sumOf 3 = .ok (.istore_n 3, 1) := by decide +kernel
theorem dX10_sumOf_4 : decode cX10_sumOf 4 = .ok (.iload_n 3, 1) := by decide +kernel
theorem dX10_sumOf_5 : decode cX10_sumOf 5 = .ok (.aload_n 0, 1) := by decide +kernel
theorem dX10_sumOf_6 : decode cX10_sumOf 6 = .ok (.getfield 225, 3) := by decide +kernel
theorem dX10_sumOf_9 : decode cX10_sumOf 9 = .ok (.if_icmp .ge 31, 3) := by decide +kernel
theorem dX10_sumOf_12 : decode cX10_sumOf 12 = .ok (.iload_n 2, 1) := by decide +kernel
theorem dX10_sumOf_13 : decode cX10_sumOf 13 = .ok (.iload_n 1, 1) := by decide +kernel
theorem dX10_sumOf_14 : decode cX10_sumOf 14 = .ok (.iload_n 3, 1) := by decide +kernel
theorem dX10_sumOf_15 : decode cX10_sumOf 15 = .ok (.ishr, 1) := by decide +kernel
theorem dX10_sumOf_16 : decode cX10_sumOf 16 = .ok (.iconst 1, 1) := by decide +kernel
theorem dX10_sumOf_17 : decode cX10_sumOf 17 = .ok (.iand, 1) := by decide +kernel
theorem dX10_sumOf_18 : decode cX10_sumOf 18 = .ok (.iconst 1, 1) := by decide +kernel
theorem dX10_sumOf_19 : decode cX10_sumOf 19 = .ok (.if_icmp .ne 12, 3) := by decide +kernel
theorem dX10_sumOf_22 : decode cX10_sumOf 22 = .ok (.aload_n 0, 1) := by decide +kernel
theorem dX10_sumOf_23 : decode cX10_sumOf 23 = .ok (.getfield 29, 3) := by decide +kernel
theorem dX10_sumOf_26 : decode cX10_sumOf 26 = .ok (.iload_n 3, 1) := by decide +kernel
theorem dX10_sumOf_27 : decode cX10_sumOf 27 = .ok (.iaload, 1) := by decide +kernel
theorem dX10_sumOf_28 : decode cX10_sumOf 28 = .ok (.goto 4, 3) := by decide +kernel
theorem dX10_sumOf_31 : decode cX10_sumOf 31 = .ok (.iconst 0, 1) := by decide +kernel
theorem dX10_sumOf_32 : decode cX10_sumOf 32 = .ok (.iadd, 1) := by decide +kernel
theorem dX10_sumOf_33 : decode cX10_sumOf 33 = .ok (.istore_n 2, 1) := by decide +kernel
theorem dX10_sumOf_34 : decode cX10_sumOf 34 = .ok (.iinc 3 1, 3) := by decide +kernel
theorem dX10_sumOf_37 : decode cX10_sumOf 37 = .ok (.goto (-33), 3) := by decide +kernel
theorem dX10_sumOf_40 : decode cX10_sumOf 40 = .ok (.iload_n 2, 1) := by decide +kernel
theorem dX10_sumOf_41 : decode cX10_sumOf 41 = .ok (.ireturn, 1) := by decide +kernel
theorem dX10_fewestMasses_0 : decode cX10_fewestMasses 0 = .ok (.aload_n 0, 1) := by decide +kernel
theorem dX10_fewestMasses_1 : decode cX10_fewestMasses 1 = .ok (.iconst 0, 1) := by decide +kernel
theorem dX10_fewestMasses_2 : decode cX10_fewestMasses 2 = .ok (.putfield 1, 3) := by decide +kernel
theorem dX10_fewestMasses_5 : decode cX10_fewestMasses 5 = .ok (.iload_n 1, 1) := by decide +kernel
theorem dX10_fewestMasses_6 : decode cX10_fewestMasses 6 = .ok (.ifCond .ge 5, 3) := by decide +kernel
theorem dX10_fewestMasses_9 : decode cX10_fewestMasses 9 = .ok (.iconst (-1), 1) := by decide +kernel
theorem dX10_fewestMasses_10 : decode cX10_fewestMasses 10 = .ok (.ireturn, 1) := by decide +kernel
theorem dX10_fewestMasses_11 : decode cX10_fewestMasses 11 = .ok (.bipush (-2), 2) := by decide +kernel
theorem dX10_fewestMasses_13 : decode cX10_fewestMasses 13 = .ok (.istore_n 2, 1) := by decide +kernel
theorem dX10_fewestMasses_14 : decode cX10_fewestMasses 14 = .ok (.iconst 0, 1) := by decide +kernel
theorem dX10_fewestMasses_15 : decode cX10_fewestMasses 15 = .ok (.istore_n 3, 1) := by decide +kernel
theorem dX10_fewestMasses_16 : decode cX10_fewestMasses 16 = .ok (.iload_n 3, 1) := by decide +kernel
theorem dX10_fewestMasses_17 : decode cX10_fewestMasses 17 = .ok (.iconst 1, 1) := by decide +kernel
theorem dX10_fewestMasses_18 : decode cX10_fewestMasses 18 = .ok (.aload_n 0, 1) := by decide +kernel
theorem dX10_fewestMasses_19 : decode cX10_fewestMasses 19 = .ok (.getfield 225, 3) := by decide +kernel
theorem dX10_fewestMasses_22 : decode cX10_fewestMasses 22 = .ok (.ishl, 1) := by decide +kernel
theorem dX10_fewestMasses_23 : decode cX10_fewestMasses 23 = .ok (.if_icmp .ge 37, 3) := by decide +kernel
theorem dX10_fewestMasses_26 : decode cX10_fewestMasses 26 = .ok (.aload_n 0, 1) := by decide +kernel
theorem dX10_fewestMasses_27 : decode cX10_fewestMasses 27 = .ok (.iload_n 3, 1) := by decide +kernel
theorem dX10_fewestMasses_28 : decode cX10_fewestMasses 28 = .ok (.invokevirtual 241, 3) := by decide +kernel
theorem dX10_fewestMasses_31 : decode cX10_fewestMasses 31 = .ok (.iload_n 1, 1) := by decide +kernel
theorem dX10_fewestMasses_32 : decode cX10_fewestMasses 32 = .ok (.if_icmp .ne 22, 3) := by decide +kernel
theorem dX10_fewestMasses_35 : decode cX10_fewestMasses 35 = .ok (.iload_n 2, 1) := by decide +kernel
theorem dX10_fewestMasses_36 : decode cX10_fewestMasses 36 = .ok (.bipush (-2), 2) := by decide +kernel
theorem dX10_fewestMasses_38 : decode cX10_fewestMasses 38 = .ok (.if_icmp .eq 14, 3) := by decide +kernel
theorem dX10_fewestMasses_41 : decode cX10_fewestMasses 41 = .ok (.iload_n 3, 1) := by decide +kernel
theorem dX10_fewestMasses_42 : decode cX10_fewestMasses 42 = .ok (.invokestatic 244, 3) := by decide +kernel
theorem dX10_fewestMasses_45 : decode cX10_fewestMasses 45 = .ok (.iload_n 2, 1) := by decide +kernel
theorem dX10_fewestMasses_46 : decode cX10_fewestMasses 46 = .ok (.invokestatic 244, 3) := by decide +kernel
theorem dX10_fewestMasses_49 : decode cX10_fewestMasses 49 = .ok (.if_icmp .ge 5, 3) := by decide +kernel
theorem dX10_fewestMasses_52 : decode cX10_fewestMasses 52 = .ok (.iload_n 3, 1) := by decide +kernel
theorem dX10_fewestMasses_53 : decode cX10_fewestMasses 53 = .ok (.istore_n 2, 1) := by decide +kernel
theorem dX10_fewestMasses_54 : decode cX10_fewestMasses 54 = .ok (.iinc 3 1, 3) := by decide +kernel
theorem dX10_fewestMasses_57 : decode cX10_fewestMasses 57 = .ok (.goto (-41), 3) := by decide +kernel
theorem dX10_fewestMasses_60 : decode cX10_fewestMasses 60 = .ok (.iload_n 2, 1) := by decide +kernel
theorem dX10_fewestMasses_61 : decode cX10_fewestMasses 61 = .ok (.ireturn, 1) := by decide +kernel
theorem dX10_closestLoad_0 : decode cX10_closestLoad 0 = .ok (.aload_n 0, 1) := by decide +kernel
theorem dX10_closestLoad_1 : decode cX10_closestLoad 1 = .ok (.iconst 0, 1) := by decide +kernel
theorem dX10_closestLoad_2 : decode cX10_closestLoad 2 = .ok (.putfield 1, 3) := by decide +kernel
theorem dX10_closestLoad_5 : decode cX10_closestLoad 5 = .ok (.iload_n 1, 1) := by decide +kernel
theorem dX10_closestLoad_6 : decode cX10_closestLoad 6 = .ok (.ifCond .ge 5, 3) := by decide +kernel
theorem dX10_closestLoad_9 : decode cX10_closestLoad 9 = .ok (.iconst (-1), 1) := by decide +kernel
theorem dX10_closestLoad_10 : decode cX10_closestLoad 10 = .ok (.ireturn, 1) := by decide +kernel
theorem dX10_closestLoad_11 : decode cX10_closestLoad 11 = .ok (.iconst 0, 1) := by decide +kernel
theorem dX10_closestLoad_12 : decode cX10_closestLoad 12 = .ok (.istore_n 2, 1) := by decide +kernel
theorem dX10_closestLoad_13 : decode cX10_closestLoad 13 = .ok (.iconst 0, 1) := by decide +kernel
theorem dX10_closestLoad_14 : decode cX10_closestLoad 14 = .ok (.istore_n 3, 1) := by decide +kernel
theorem dX10_closestLoad_15 : decode cX10_closestLoad 15 = .ok (.iload_n 3, 1) := by decide +kernel
theorem dX10_closestLoad_16 : decode cX10_closestLoad 16 = .ok (.iconst 1, 1) := by decide +kernel
theorem dX10_closestLoad_17 : decode cX10_closestLoad 17 = .ok (.aload_n 0, 1) := by decide +kernel
theorem dX10_closestLoad_18 : decode cX10_closestLoad 18 = .ok (.getfield 225, 3) := by decide +kernel
theorem dX10_closestLoad_21 : decode cX10_closestLoad 21 = .ok (.ishl, 1) := by decide +kernel
theorem dX10_closestLoad_22 : decode cX10_closestLoad 22 = .ok (.if_icmp .ge 35, 3) := by decide +kernel
theorem dX10_closestLoad_25 : decode cX10_closestLoad 25 = .ok (.aload_n 0, 1) := by decide +kernel
theorem dX10_closestLoad_26 : decode cX10_closestLoad 26 = .ok (.iload_n 3, 1) := by decide +kernel
theorem dX10_closestLoad_27 : decode cX10_closestLoad 27 = .ok (.invokevirtual 241, 3) := by decide +kernel
theorem dX10_closestLoad_30 : decode cX10_closestLoad 30 = .ok (.istore 4, 2) := by decide +kernel
theorem dX10_closestLoad_32 : decode cX10_closestLoad 32 = .ok (.iload 4, 2) := by decide +kernel
theorem dX10_closestLoad_34 : decode cX10_closestLoad 34 = .ok (.iload_n 1, 1) := by decide +kernel
theorem dX10_closestLoad_35 : decode cX10_closestLoad 35 = .ok (.if_icmp .gt 14, 3) := by decide +kernel
theorem dX10_closestLoad_38 : decode cX10_closestLoad 38 = .ok (.iload 4, 2) := by decide +kernel
theorem dX10_closestLoad_40 : decode cX10_closestLoad 40 = .ok (.iload_n 2, 1) := by decide +kernel
theorem dX10_closestLoad_41 : decode cX10_closestLoad 41 = .ok (.if_icmp .le 8, 3) := by decide +kernel
theorem dX10_closestLoad_44 : decode cX10_closestLoad 44 = .ok (.iload 4, 2) := by decide +kernel
theorem dX10_closestLoad_46 : decode cX10_closestLoad 46 = .ok (.goto 4, 3) := by decide +kernel
theorem dX10_closestLoad_49 : decode cX10_closestLoad 49 = .ok (.iload_n 2, 1) := by decide +kernel
theorem dX10_closestLoad_50 : decode cX10_closestLoad 50 = .ok (.istore_n 2, 1) := by decide +kernel
theorem dX10_closestLoad_51 : decode cX10_closestLoad 51 = .ok (.iinc 3 1, 3) := by decide +kernel
theorem dX10_closestLoad_54 : decode cX10_closestLoad 54 = .ok (.goto (-39), 3) := by decide +kernel
theorem dX10_closestLoad_57 : decode cX10_closestLoad 57 = .ok (.iload_n 2, 1) := by decide +kernel
theorem dX10_closestLoad_58 : decode cX10_closestLoad 58 = .ok (.ireturn, 1) := by decide +kernel
theorem dX10_twoPans_0 : decode cX10_twoPans 0 = .ok (.aload_n 0, 1) := by decide +kernel
theorem dX10_twoPans_1 : decode cX10_twoPans 1 = .ok (.iconst 0, 1) := by decide +kernel
theorem dX10_twoPans_2 : decode cX10_twoPans 2 = .ok (.putfield 1, 3) := by decide +kernel
theorem dX10_twoPans_5 : decode cX10_twoPans 5 = .ok (.iload_n 1, 1) := by decide +kernel
theorem dX10_twoPans_6 : decode cX10_twoPans 6 = .ok (.ifCond .ge 5, 3) := by decide +kernel
theorem dX10_twoPans_9 : decode cX10_twoPans 9 = .ok (.iconst (-1), 1) := by decide +kernel
theorem dX10_twoPans_10 : decode cX10_twoPans 10 = .ok (.ireturn, 1) := by decide +kernel
theorem dX10_twoPans_11 : decode cX10_twoPans 11 = .ok (.iconst 1, 1) := by decide +kernel
theorem dX10_twoPans_12 : decode cX10_twoPans 12 = .ok (.aload_n 0, 1) := by decide +kernel
theorem dX10_twoPans_13 : decode cX10_twoPans 13 = .ok (.getfield 225, 3) := by decide +kernel
theorem dX10_twoPans_16 : decode cX10_twoPans 16 = .ok (.ishl, 1) := by decide +kernel
theorem dX10_twoPans_17 : decode cX10_twoPans 17 = .ok (.istore_n 2, 1) := by decide +kernel
theorem dX10_twoPans_18 : decode cX10_twoPans 18 = .ok (.iconst 0, 1) := by decide +kernel
theorem dX10_twoPans_19 : decode cX10_twoPans 19 = .ok (.istore_n 3, 1) := by decide +kernel
theorem dX10_twoPans_20 : decode cX10_twoPans 20 = .ok (.iload_n 3, 1) := by decide +kernel
theorem dX10_twoPans_21 : decode cX10_twoPans 21 = .ok (.iload_n 2, 1) := by decide +kernel
theorem dX10_twoPans_22 : decode cX10_twoPans 22 = .ok (.if_icmp .ge 20, 3) := by decide +kernel
theorem dX10_twoPans_25 : decode cX10_twoPans 25 = .ok (.aload_n 0, 1) := by decide +kernel
theorem dX10_twoPans_26 : decode cX10_twoPans 26 = .ok (.getfield 73, 3) := by decide +kernel
theorem dX10_twoPans_29 : decode cX10_twoPans 29 = .ok (.iload_n 3, 1) := by decide +kernel
theorem dX10_twoPans_30 : decode cX10_twoPans 30 = .ok (.aload_n 0, 1) := by decide +kernel
theorem dX10_twoPans_31 : decode cX10_twoPans 31 = .ok (.iload_n 3, 1) := by decide +kernel
theorem dX10_twoPans_32 : decode cX10_twoPans 32 = .ok (.invokevirtual 241, 3) := by decide +kernel
theorem dX10_twoPans_35 : decode cX10_twoPans 35 = .ok (.iastore, 1) := by decide +kernel
theorem dX10_twoPans_36 : decode cX10_twoPans 36 = .ok (.iinc 3 1, 3) := by decide +kernel
theorem dX10_twoPans_39 : decode cX10_twoPans 39 = .ok (.goto (-19), 3) := by decide +kernel
theorem dX10_twoPans_42 : decode cX10_twoPans 42 = .ok (.bipush (-2), 2) := by decide +kernel
theorem dX10_twoPans_44 : decode cX10_twoPans 44 = .ok (.istore_n 3, 1) := by decide +kernel
theorem dX10_twoPans_45 : decode cX10_twoPans 45 = .ok (.bipush 99, 2) := by decide +kernel
theorem dX10_twoPans_47 : decode cX10_twoPans 47 = .ok (.istore 4, 2) := by decide +kernel
theorem dX10_twoPans_49 : decode cX10_twoPans 49 = .ok (.iconst 0, 1) := by decide +kernel
theorem dX10_twoPans_50 : decode cX10_twoPans 50 = .ok (.istore 5, 2) := by decide +kernel
theorem dX10_twoPans_52 : decode cX10_twoPans 52 = .ok (.iload 5, 2) := by decide +kernel
theorem dX10_twoPans_54 : decode cX10_twoPans 54 = .ok (.iload_n 2, 1) := by decide +kernel
theorem dX10_twoPans_55 : decode cX10_twoPans 55 = .ok (.if_icmp .ge 95, 3) := by decide +kernel
theorem dX10_twoPans_58 : decode cX10_twoPans 58 = .ok (.iconst 0, 1) := by decide +kernel
theorem dX10_twoPans_59 : decode cX10_twoPans 59 = .ok (.istore 6, 2) := by decide +kernel
theorem dX10_twoPans_61 : decode cX10_twoPans 61 = .ok (.iload 6, 2) := by decide +kernel
theorem dX10_twoPans_63 : decode cX10_twoPans 63 = .ok (.iload_n 2, 1) := by decide +kernel
theorem dX10_twoPans_64 : decode cX10_twoPans 64 = .ok (.if_icmp .ge 80, 3) := by decide +kernel
theorem dX10_twoPans_67 : decode cX10_twoPans 67 = .ok (.aload_n 0, 1) := by decide +kernel
theorem dX10_twoPans_68 : decode cX10_twoPans 68 = .ok (.getfield 73, 3) := by decide +kernel
theorem dX10_twoPans_71 : decode cX10_twoPans 71 = .ok (.iload 5, 2) := by decide +kernel
theorem dX10_twoPans_73 : decode cX10_twoPans 73 = .ok (.iaload, 1) := by decide +kernel
theorem dX10_twoPans_74 : decode cX10_twoPans 74 = .ok (.iload_n 1, 1) := by decide +kernel
theorem dX10_twoPans_75 : decode cX10_twoPans 75 = .ok (.if_icmp .lt 69, 3) := by decide +kernel
theorem dX10_twoPans_78 : decode cX10_twoPans 78 = .ok (.iload 6, 2) := by decide +kernel
theorem dX10_twoPans_80 : decode cX10_twoPans 80 = .ok (.iload 5, 2) := by decide +kernel
theorem dX10_twoPans_82 : decode cX10_twoPans 82 = .ok (.iand, 1) := by decide +kernel
theorem dX10_twoPans_83 : decode cX10_twoPans 83 = .ok (.ifCond .ne 55, 3) := by decide +kernel
theorem dX10_twoPans_86 : decode cX10_twoPans 86 = .ok (.aload_n 0, 1) := by decide +kernel
theorem dX10_twoPans_87 : decode cX10_twoPans 87 = .ok (.getfield 73, 3) := by decide +kernel
theorem dX10_twoPans_90 : decode cX10_twoPans 90 = .ok (.iload 5, 2) := by decide +kernel
theorem dX10_twoPans_92 : decode cX10_twoPans 92 = .ok (.iaload, 1) := by decide +kernel
theorem dX10_twoPans_93 : decode cX10_twoPans 93 = .ok (.aload_n 0, 1) := by decide +kernel
theorem dX10_twoPans_94 : decode cX10_twoPans 94 = .ok (.getfield 73, 3) := by decide +kernel
theorem dX10_twoPans_97 : decode cX10_twoPans 97 = .ok (.iload 6, 2) := by decide +kernel
theorem dX10_twoPans_99 : decode cX10_twoPans 99 = .ok (.iaload, 1) := by decide +kernel
theorem dX10_twoPans_100 : decode cX10_twoPans 100 = .ok (.isub, 1) := by decide +kernel
theorem dX10_twoPans_101 : decode cX10_twoPans 101 = .ok (.iload_n 1, 1) := by decide +kernel
theorem dX10_twoPans_102 : decode cX10_twoPans 102 = .ok (.if_icmp .ne 36, 3) := by decide +kernel
theorem dX10_twoPans_105 : decode cX10_twoPans 105 = .ok (.iload 6, 2) := by decide +kernel
theorem dX10_twoPans_107 : decode cX10_twoPans 107 = .ok (.iload 5, 2) := by decide +kernel
theorem dX10_twoPans_109 : decode cX10_twoPans 109 = .ok (.ior, 1) := by decide +kernel
theorem dX10_twoPans_110 : decode cX10_twoPans 110 = .ok (.invokestatic 244, 3) := by decide +kernel
theorem dX10_twoPans_113 : decode cX10_twoPans 113 = .ok (.iload 4, 2) := by decide +kernel
theorem dX10_twoPans_115 : decode cX10_twoPans 115 = .ok (.if_icmp .ge 23, 3) := by decide +kernel
theorem dX10_twoPans_118 : decode cX10_twoPans 118 = .ok (.iload 6, 2) := by decide +kernel
theorem dX10_twoPans_120 : decode cX10_twoPans 120 = .ok (.iload 5, 2) := by decide +kernel
theorem dX10_twoPans_122 : decode cX10_twoPans 122 = .ok (.ior, 1) := by decide +kernel
theorem dX10_twoPans_123 : decode cX10_twoPans 123 = .ok (.invokestatic 244, 3) := by decide +kernel
theorem dX10_twoPans_126 : decode cX10_twoPans 126 = .ok (.istore 4, 2) := by decide +kernel
theorem dX10_twoPans_128 : decode cX10_twoPans 128 = .ok (.iload 5, 2) := by decide +kernel
theorem dX10_twoPans_130 : decode cX10_twoPans 130 = .ok (.sipush 1024, 3) := by decide +kernel
theorem dX10_twoPans_133 : decode cX10_twoPans 133 = .ok (.iload 6, 2) := by decide +kernel
theorem dX10_twoPans_135 : decode cX10_twoPans 135 = .ok (.imul, 1) := by decide +kernel
theorem dX10_twoPans_136 : decode cX10_twoPans 136 = .ok (.iadd, 1) := by decide +kernel
theorem dX10_twoPans_137 : decode cX10_twoPans 137 = .ok (.istore_n 3, 1) := by decide +kernel
theorem dX10_twoPans_138 : decode cX10_twoPans 138 = .ok (.iinc 6 1, 3) := by decide +kernel
theorem dX10_twoPans_141 : decode cX10_twoPans 141 = .ok (.goto (-80), 3) := by decide +kernel
theorem dX10_twoPans_144 : decode cX10_twoPans 144 = .ok (.iinc 5 1, 3) := by decide +kernel
theorem dX10_twoPans_147 : decode cX10_twoPans 147 = .ok (.goto (-95), 3) := by decide +kernel
theorem dX10_twoPans_150 : decode cX10_twoPans 150 = .ok (.iload_n 3, 1) := by decide +kernel
theorem dX10_twoPans_151 : decode cX10_twoPans 151 = .ok (.ireturn, 1) := by decide +kernel
theorem dX10_isVisit_0 : decode cX10_isVisit 0 = .ok (.iload_n 1, 1) := by decide +kernel
theorem dX10_isVisit_1 : decode cX10_isVisit 1 = .ok (.i2l, 1) := by decide +kernel
theorem dX10_isVisit_2 : decode cX10_isVisit 2 = .ok (.lconst 0, 1) := by decide +kernel
theorem dX10_isVisit_3 : decode cX10_isVisit 3 = .ok (.aload_n 0, 1) := by decide +kernel
theorem dX10_isVisit_4 : decode cX10_isVisit 4 = .ok (.getfield 13, 3) := by decide +kernel
theorem dX10_isVisit_7 : decode cX10_isVisit 7 = .ok (.iconst 0, 1) := by decide +kernel
theorem dX10_isVisit_8 : decode cX10_isVisit 8 = .ok (.iaload, 1) := by decide +kernel
theorem dX10_isVisit_9 : decode cX10_isVisit 9 = .ok (.iconst 1, 1) := by decide +kernel
theorem dX10_isVisit_10 : decode cX10_isVisit 10 = .ok (.isub, 1) := by decide +kernel
theorem dX10_isVisit_11 : decode cX10_isVisit 11 = .ok (.i2l, 1) := by decide +kernel
theorem dX10_isVisit_12 : decode cX10_isVisit 12 = .ok (.invokestatic 124, 3) := by decide +kernel
theorem dX10_isVisit_15 : decode cX10_isVisit 15 = .ok (.ireturn, 1) := by decide +kernel
theorem dX10_keeps_0 : decode cX10_keeps 0 = .ok (.aload_n 0, 1) := by decide +kernel
theorem dX10_keeps_1 : decode cX10_keeps 1 = .ok (.getfield 231, 3) := by decide +kernel
theorem dX10_keeps_4 : decode cX10_keeps 4 = .ok (.bipush 12, 2) := by decide +kernel
theorem dX10_keeps_6 : decode cX10_keeps 6 = .ok (.if_icmp .ne 36, 3) := by decide +kernel
theorem dX10_keeps_9 : decode cX10_keeps 9 = .ok (.aload_n 0, 1) := by decide +kernel
theorem dX10_keeps_10 : decode cX10_keeps 10 = .ok (.dup, 1) := by decide +kernel
theorem dX10_keeps_11 : decode cX10_keeps 11 = .ok (.getfield 231, 3) := by decide +kernel
theorem dX10_keeps_14 : decode cX10_keeps 14 = .ok (.iconst 1, 1) := by decide +kernel
theorem dX10_keeps_15 : decode cX10_keeps 15 = .ok (.isub, 1) := by decide +kernel
theorem dX10_keeps_16 : decode cX10_keeps 16 = .ok (.putfield 231, 3) := by decide +kernel
theorem dX10_keeps_19 : decode cX10_keeps 19 = .ok (.aload_n 0, 1) := by decide +kernel
theorem dX10_keeps_20 : decode cX10_keeps 20 = .ok (.getfield 85, 3) := by decide +kernel
theorem dX10_keeps_23 : decode cX10_keeps 23 = .ok (.sipush 677, 3) := by decide +kernel
theorem dX10_keeps_26 : decode cX10_keeps 26 = .ok (.aload_n 0, 1) := by decide +kernel
theorem dX10_keeps_27 : decode cX10_keeps 27 = .ok (.getfield 85, 3) := by decide +kernel
theorem dX10_keeps_30 : decode cX10_keeps 30 = .ok (.iconst 0, 1) := by decide +kernel
theorem dX10_keeps_31 : decode cX10_keeps 31 = .ok (.sipush 677, 3) := by decide +kernel
theorem dX10_keeps_34 : decode cX10_keeps 34 = .ok (.aload_n 0, 1) := by decide +kernel
theorem dX10_keeps_35 : decode cX10_keeps 35 = .ok (.getfield 231, 3) := by decide +kernel
theorem dX10_keeps_38 : decode cX10_keeps 38 = .ok (.imul, 1) := by decide +kernel
theorem dX10_keeps_39 : decode cX10_keeps 39 = .ok (.invokestatic 221, 3) := by decide +kernel
theorem dX10_keeps_42 : decode cX10_keeps 42 = .ok (.aload_n 0, 1) := by decide +kernel
theorem dX10_keeps_43 : decode cX10_keeps 43 = .ok (.getfield 13, 3) := by decide +kernel
theorem dX10_keeps_46 : decode cX10_keeps 46 = .ok (.iconst 0, 1) := by decide +kernel
theorem dX10_keeps_47 : decode cX10_keeps 47 = .ok (.aload_n 0, 1) := by decide +kernel
theorem dX10_keeps_48 : decode cX10_keeps 48 = .ok (.getfield 85, 3) := by decide +kernel
theorem dX10_keeps_51 : decode cX10_keeps 51 = .ok (.sipush 677, 3) := by decide +kernel
theorem dX10_keeps_54 : decode cX10_keeps 54 = .ok (.aload_n 0, 1) := by decide +kernel
theorem dX10_keeps_55 : decode cX10_keeps 55 = .ok (.getfield 231, 3) := by decide +kernel
theorem dX10_keeps_58 : decode cX10_keeps 58 = .ok (.imul, 1) := by decide +kernel
theorem dX10_keeps_59 : decode cX10_keeps 59 = .ok (.sipush 677, 3) := by decide +kernel
theorem dX10_keeps_62 : decode cX10_keeps 62 = .ok (.invokestatic 221, 3) := by decide +kernel
theorem dX10_keeps_65 : decode cX10_keeps 65 = .ok (.aload_n 0, 1) := by decide +kernel
theorem dX10_keeps_66 : decode cX10_keeps 66 = .ok (.dup, 1) := by decide +kernel
theorem dX10_keeps_67 : decode cX10_keeps 67 = .ok (.getfield 231, 3) := by decide +kernel
theorem dX10_keeps_70 : decode cX10_keeps 70 = .ok (.iconst 1, 1) := by decide +kernel
theorem dX10_keeps_71 : decode cX10_keeps 71 = .ok (.iadd, 1) := by decide +kernel
theorem dX10_keeps_72 : decode cX10_keeps 72 = .ok (.putfield 231, 3) := by decide +kernel
theorem dX10_keeps_75 : decode cX10_keeps 75 = .ok (.return_, 1) := by decide +kernel
theorem dX10_startVisit_0 : decode cX10_startVisit 0 = .ok (.aload_n 0, 1) := by decide +kernel
theorem dX10_startVisit_1 : decode cX10_startVisit 1 = .ok (.iconst 0, 1) := by decide +kernel
theorem dX10_startVisit_2 : decode cX10_startVisit 2 = .ok (.putfield 1, 3) := by decide +kernel
theorem dX10_startVisit_5 : decode cX10_startVisit 5 = .ok (.aload_n 0, 1) := by decide +kernel
theorem dX10_startVisit_6 : decode cX10_startVisit 6 = .ok (.iload_n 1, 1) := by decide +kernel
theorem dX10_startVisit_7 : decode cX10_startVisit 7 = .ok (.invokevirtual 234, 3) := by decide +kernel
theorem dX10_startVisit_10 : decode cX10_startVisit 10 = .ok (.ifCond .eq 15, 3) := by decide +kernel
theorem dX10_startVisit_13 : decode cX10_startVisit 13 = .ok (.iload_n 2, 1) := by decide +kernel
theorem dX10_startVisit_14 : decode cX10_startVisit 14 = .ok (.i2l, 1) := by decide +kernel
theorem dX10_startVisit_15 : decode cX10_startVisit 15 = .ok (.lconst 0, 1) := by decide +kernel
theorem dX10_startVisit_16 : decode cX10_startVisit 16 = .ok (.ldc2_w 247, 3) := by decide +kernel
theorem dX10_startVisit_19 : decode cX10_startVisit 19 = .ok (.invokestatic 124, 3) := by decide +kernel
theorem dX10_startVisit_22 : decode cX10_startVisit 22 = .ok (.ifCond .ne 5, 3) := by decide +kernel
theorem dX10_startVisit_25 : decode cX10_startVisit 25 = .ok (.iconst (-1), 1) := by decide +kernel
theorem dX10_startVisit_26 : decode cX10_startVisit 26 = .ok (.ireturn, 1) := by decide +kernel
theorem dX10_startVisit_27 : decode cX10_startVisit 27 = .ok (.iconst 0, 1) := by decide +kernel
theorem dX10_startVisit_28 : decode cX10_startVisit 28 = .ok (.istore_n 3, 1) := by decide +kernel
theorem dX10_startVisit_29 : decode cX10_startVisit 29 = .ok (.iconst 0, 1) := by decide +kernel
theorem dX10_startVisit_30 : decode cX10_startVisit 30 = .ok (.istore 4, 2) := by decide +kernel
theorem dX10_startVisit_32 : decode cX10_startVisit 32 = .ok (.iconst 0, 1) := by decide +kernel
theorem dX10_startVisit_33 : decode cX10_startVisit 33 = .ok (.istore 5, 2) := by decide +kernel
theorem dX10_startVisit_35 : decode cX10_startVisit 35 = .ok (.iload 5, 2) := by decide +kernel
theorem dX10_startVisit_37 : decode cX10_startVisit 37 = .ok (.aload_n 0, 1) := by decide +kernel
theorem dX10_startVisit_38 : decode cX10_startVisit 38 = .ok (.getfield 13, 3) := by decide +kernel
theorem dX10_startVisit_41 : decode cX10_startVisit 41 = .ok (.iconst 0, 1) := by decide +kernel
theorem dX10_startVisit_42 : decode cX10_startVisit 42 = .ok (.iaload, 1) := by decide +kernel
theorem dX10_startVisit_43 : decode cX10_startVisit 43 = .ok (.if_icmp .ge 99, 3) := by decide +kernel
theorem dX10_startVisit_46 : decode cX10_startVisit 46 = .ok (.aload_n 0, 1) := by decide +kernel
theorem dX10_startVisit_47 : decode cX10_startVisit 47 = .ok (.getfield 13, 3) := by decide +kernel
theorem dX10_startVisit_50 : decode cX10_startVisit 50 = .ok (.iconst 1, 1) := by decide +kernel
theorem dX10_startVisit_51 : decode cX10_startVisit 51 = .ok (.iload 5, 2) := by decide +kernel
theorem dX10_startVisit_53 : decode cX10_startVisit 53 = .ok (.iadd, 1) := by decide +kernel
theorem dX10_startVisit_54 : decode cX10_startVisit 54 = .ok (.iaload, 1) := by decide +kernel
theorem dX10_startVisit_55 : decode cX10_startVisit 55 = .ok (.iload_n 1, 1) := by decide +kernel
theorem dX10_startVisit_56 : decode cX10_startVisit 56 = .ok (.if_icmp .eq 6, 3) := by decide +kernel
theorem dX10_startVisit_59 : decode cX10_startVisit 59 = .ok (.goto 77, 3) := by decide +kernel
theorem dX10_startVisit_62 : decode cX10_startVisit 62 = .ok (.aload_n 0, 1) := by decide +kernel
theorem dX10_startVisit_63 : decode cX10_startVisit 63 = .ok (.getfield 13, 3) := by decide +kernel
theorem dX10_startVisit_66 : decode cX10_startVisit 66 = .ok (.bipush 31, 2) := by decide +kernel
theorem dX10_startVisit_68 : decode cX10_startVisit 68 = .ok (.iload 5, 2) := by decide +kernel
theorem dX10_startVisit_70 : decode cX10_startVisit 70 = .ok (.iadd, 1) := by decide +kernel
theorem dX10_startVisit_71 : decode cX10_startVisit 71 = .ok (.iaload, 1) := by decide +kernel
theorem dX10_startVisit_72 : decode cX10_startVisit 72 = .ok (.iload_n 2, 1) := by decide +kernel
theorem dX10_startVisit_73 : decode cX10_startVisit 73 = .ok (.if_icmp .le 5, 3) := by decide +kernel
theorem dX10_startVisit_76 : decode cX10_startVisit 76 = .ok (.iconst (-1), 1) := by decide +kernel
theorem dX10_startVisit_77 : decode cX10_startVisit 77 = .ok (.ireturn, 1) := by decide +kernel
theorem dX10_startVisit_78 : decode cX10_startVisit 78 = .ok (.iload_n 3, 1) := by decide +kernel
theorem dX10_startVisit_79 : decode cX10_startVisit 79 = .ok (.ifCond .ne 16, 3) := by decide +kernel
theorem dX10_startVisit_82 : decode cX10_startVisit 82 = .ok (.aload_n 0, 1) := by decide +kernel
theorem dX10_startVisit_83 : decode cX10_startVisit 83 = .ok (.getfield 13, 3) := by decide +kernel
theorem dX10_startVisit_86 : decode cX10_startVisit 86 = .ok (.bipush 61, 2) := by decide +kernel
theorem dX10_startVisit_88 : decode cX10_startVisit 88 = .ok (.iload 5, 2) := by decide +kernel
theorem dX10_startVisit_90 : decode cX10_startVisit 90 = .ok (.iadd, 1) := by decide +kernel
theorem dX10_startVisit_91 : decode cX10_startVisit 91 = .ok (.iaload, 1) := by decide +kernel
theorem dX10_startVisit_92 : decode cX10_startVisit 92 = .ok (.ifCond .ne 7, 3) := by decide +kernel
theorem dX10_startVisit_95 : decode cX10_startVisit 95 = .ok (.iconst 1, 1) := by decide +kernel
theorem dX10_startVisit_96 : decode cX10_startVisit 96 = .ok (.goto 4, 3) := by decide +kernel
theorem dX10_startVisit_99 : decode cX10_startVisit 99 = .ok (.iconst 0, 1) := by decide +kernel
theorem dX10_startVisit_100 : decode cX10_startVisit 100 = .ok (.istore_n 3, 1) := by decide +kernel
theorem dX10_startVisit_101 : decode cX10_startVisit 101 = .ok (.aload_n 0, 1) := by decide +kernel
theorem dX10_startVisit_102 : decode cX10_startVisit 102 = .ok (.getfield 13, 3) := by decide +kernel
theorem dX10_startVisit_105 : decode cX10_startVisit 105 = .ok (.bipush 61, 2) := by decide +kernel
theorem dX10_startVisit_107 : decode cX10_startVisit 107 = .ok (.iload 5, 2) := by decide +kernel
theorem dX10_startVisit_109 : decode cX10_startVisit 109 = .ok (.iadd, 1) := by decide +kernel
theorem dX10_startVisit_110 : decode cX10_startVisit 110 = .ok (.iaload, 1) := by decide +kernel
theorem dX10_startVisit_111 : decode cX10_startVisit 111 = .ok (.iconst 1, 1) := by decide +kernel
theorem dX10_startVisit_112 : decode cX10_startVisit 112 = .ok (.if_icmp .ne 20, 3) := by decide +kernel
theorem dX10_startVisit_115 : decode cX10_startVisit 115 = .ok (.aload_n 0, 1) := by decide +kernel
theorem dX10_startVisit_116 : decode cX10_startVisit 116 = .ok (.getfield 13, 3) := by decide +kernel
theorem dX10_startVisit_119 : decode cX10_startVisit 119 = .ok (.bipush 91, 2) := by decide +kernel
theorem dX10_startVisit_121 : decode cX10_startVisit 121 = .ok (.iload 5, 2) := by decide +kernel
theorem dX10_startVisit_123 : decode cX10_startVisit 123 = .ok (.iadd, 1) := by decide +kernel
theorem dX10_startVisit_124 : decode cX10_startVisit 124 = .ok (.iaload, 1) := by decide +kernel
theorem dX10_startVisit_125 : decode cX10_startVisit 125 = .ok (.ifCond .ne 7, 3) := by decide +kernel
theorem dX10_startVisit_128 : decode cX10_startVisit 128 = .ok (.iconst 1, 1) := by decide +kernel
theorem dX10_startVisit_129 : decode cX10_startVisit 129 = .ok (.goto 5, 3) := by decide +kernel
theorem dX10_startVisit_132 : decode cX10_startVisit 132 = .ok (.iload 4, 2) := by decide +kernel
theorem dX10_startVisit_134 : decode cX10_startVisit 134 = .ok (.istore 4, 2) := by decide +kernel
theorem dX10_startVisit_136 : decode cX10_startVisit 136 = .ok (.iinc 5 1, 3) := by decide +kernel
theorem dX10_startVisit_139 : decode cX10_startVisit 139 = .ok (.goto (-104), 3) := by decide +kernel
theorem dX10_startVisit_142 : decode cX10_startVisit 142 = .ok (.iload_n 3, 1) := by decide +kernel
theorem dX10_startVisit_143 : decode cX10_startVisit 143 = .ok (.ifCond .eq 6, 3) := by decide +kernel
theorem dX10_startVisit_146 : decode cX10_startVisit 146 = .ok (.bipush (-2), 2) := by decide +kernel
theorem dX10_startVisit_148 : decode cX10_startVisit 148 = .ok (.ireturn, 1) := by decide +kernel
theorem dX10_startVisit_149 : decode cX10_startVisit 149 = .ok (.aload_n 0, 1) := by decide +kernel
theorem dX10_startVisit_150 : decode cX10_startVisit 150 = .ok (.getfield 13, 3) := by decide +kernel
theorem dX10_startVisit_153 : decode cX10_startVisit 153 = .ok (.iconst 0, 1) := by decide +kernel
theorem dX10_startVisit_154 : decode cX10_startVisit 154 = .ok (.iaload, 1) := by decide +kernel
theorem dX10_startVisit_155 : decode cX10_startVisit 155 = .ok (.istore 5, 2) := by decide +kernel
theorem dX10_startVisit_157 : decode cX10_startVisit 157 = .ok (.iload 5, 2) := by decide +kernel
theorem dX10_startVisit_159 : decode cX10_startVisit 159 = .ok (.bipush 30, 2) := by decide +kernel
theorem dX10_startVisit_161 : decode cX10_startVisit 161 = .ok (.if_icmp .ne 6, 3) := by decide +kernel
theorem dX10_startVisit_164 : decode cX10_startVisit 164 = .ok (.bipush (-3), 2) := by decide +kernel
theorem dX10_startVisit_166 : decode cX10_startVisit 166 = .ok (.ireturn, 1) := by decide +kernel
theorem dX10_startVisit_167 : decode cX10_startVisit 167 = .ok (.aload_n 0, 1) := by decide +kernel
theorem dX10_startVisit_168 : decode cX10_startVisit 168 = .ok (.invokevirtual 249, 3) := by decide +kernel
theorem dX10_startVisit_171 : decode cX10_startVisit 171 = .ok (.aload_n 0, 1) := by decide +kernel
theorem dX10_startVisit_172 : decode cX10_startVisit 172 = .ok (.getfield 13, 3) := by decide +kernel
theorem dX10_startVisit_175 : decode cX10_startVisit 175 = .ok (.iconst 1, 1) := by decide +kernel
theorem dX10_startVisit_176 : decode cX10_startVisit 176 = .ok (.iload 5, 2) := by decide +kernel
theorem dX10_startVisit_178 : decode cX10_startVisit 178 = .ok (.iadd, 1) := by decide +kernel
theorem dX10_startVisit_179 : decode cX10_startVisit 179 = .ok (.iload_n 1, 1) := by decide +kernel
theorem dX10_startVisit_180 : decode cX10_startVisit 180 = .ok (.iastore, 1) := by decide +kernel
theorem dX10_startVisit_181 : decode cX10_startVisit 181 = .ok (.aload_n 0, 1) := by decide +kernel
theorem dX10_startVisit_182 : decode cX10_startVisit 182 = .ok (.getfield 13, 3) := by decide +kernel
theorem dX10_startVisit_185 : decode cX10_startVisit 185 = .ok (.bipush 31, 2) := by decide +kernel
theorem dX10_startVisit_187 : decode cX10_startVisit 187 = .ok (.iload 5, 2) := by decide +kernel
theorem dX10_startVisit_189 : decode cX10_startVisit 189 = .ok (.iadd, 1) := by decide +kernel
theorem dX10_startVisit_190 : decode cX10_startVisit 190 = .ok (.iload_n 2, 1) := by decide +kernel
theorem dX10_startVisit_191 : decode cX10_startVisit 191 = .ok (.iastore, 1) := by decide +kernel
theorem dX10_startVisit_192 : decode cX10_startVisit 192 = .ok (.aload_n 0, 1) := by decide +kernel
theorem dX10_startVisit_193 : decode cX10_startVisit 193 = .ok (.getfield 13, 3) := by decide +kernel
theorem dX10_startVisit_196 : decode cX10_startVisit 196 = .ok (.bipush 61, 2) := by decide +kernel
theorem dX10_startVisit_198 : decode cX10_startVisit 198 = .ok (.iload 5, 2) := by decide +kernel
theorem dX10_startVisit_200 : decode cX10_startVisit 200 = .ok (.iadd, 1) := by decide +kernel
theorem dX10_startVisit_201 : decode cX10_startVisit 201 = .ok (.iconst 0, 1) := by decide +kernel
theorem dX10_startVisit_202 : decode cX10_startVisit 202 = .ok (.iastore, 1) := by decide +kernel
theorem dX10_startVisit_203 : decode cX10_startVisit 203 = .ok (.aload_n 0, 1) := by decide +kernel
theorem dX10_startVisit_204 : decode cX10_startVisit 204 = .ok (.getfield 13, 3) := by decide +kernel
theorem dX10_startVisit_207 : decode cX10_startVisit 207 = .ok (.bipush 91, 2) := by decide +kernel
theorem dX10_startVisit_209 : decode cX10_startVisit 209 = .ok (.iload 5, 2) := by decide +kernel
theorem dX10_startVisit_211 : decode cX10_startVisit 211 = .ok (.iadd, 1) := by decide +kernel
theorem dX10_startVisit_212 : decode cX10_startVisit 212 = .ok (.iconst 0, 1) := by decide +kernel
theorem dX10_startVisit_213 : decode cX10_startVisit 213 = .ok (.iastore, 1) := by decide +kernel
theorem dX10_startVisit_214 : decode cX10_startVisit 214 = .ok (.aload_n 0, 1) := by decide +kernel
theorem dX10_startVisit_215 : decode cX10_startVisit 215 = .ok (.getfield 13, 3) := by decide +kernel
theorem dX10_startVisit_218 : decode cX10_startVisit 218 = .ok (.bipush 121, 2) := by decide +kernel
theorem dX10_startVisit_220 : decode cX10_startVisit 220 = .ok (.iload 5, 2) := by decide +kernel
theorem dX10_startVisit_222 : decode cX10_startVisit 222 = .ok (.iadd, 1) := by decide +kernel
theorem dX10_startVisit_223 : decode cX10_startVisit 223 = .ok (.iload 4, 2) := by decide +kernel
theorem dX10_startVisit_225 : decode cX10_startVisit 225 = .ok (.iastore, 1) := by decide +kernel
theorem dX10_startVisit_226 : decode cX10_startVisit 226 = .ok (.aload_n 0, 1) := by decide +kernel
theorem dX10_startVisit_227 : decode cX10_startVisit 227 = .ok (.getfield 13, 3) := by decide +kernel
theorem dX10_startVisit_230 : decode cX10_startVisit 230 = .ok (.sipush 151, 3) := by decide +kernel
theorem dX10_startVisit_233 : decode cX10_startVisit 233 = .ok (.iload 5, 2) := by decide +kernel
theorem dX10_startVisit_235 : decode cX10_startVisit 235 = .ok (.iadd, 1) := by decide +kernel
theorem dX10_startVisit_236 : decode cX10_startVisit 236 = .ok (.iconst 0, 1) := by decide +kernel
theorem dX10_startVisit_237 : decode cX10_startVisit 237 = .ok (.iastore, 1) := by decide +kernel
theorem dX10_startVisit_238 : decode cX10_startVisit 238 = .ok (.aload_n 0, 1) := by decide +kernel
theorem dX10_startVisit_239 : decode cX10_startVisit 239 = .ok (.getfield 13, 3) := by decide +kernel
theorem dX10_startVisit_242 : decode cX10_startVisit 242 = .ok (.iconst 0, 1) := by decide +kernel
theorem dX10_startVisit_243 : decode cX10_startVisit 243 = .ok (.dup2, 1) := by decide +kernel
theorem dX10_startVisit_244 : decode cX10_startVisit 244 = .ok (.iaload, 1) := by decide +kernel
theorem dX10_startVisit_245 : decode cX10_startVisit 245 = .ok (.iconst 1, 1) := by decide +kernel
theorem dX10_startVisit_246 : decode cX10_startVisit 246 = .ok (.iadd, 1) := by decide +kernel
theorem dX10_startVisit_247 : decode cX10_startVisit 247 = .ok (.iastore, 1) := by decide +kernel
theorem dX10_startVisit_248 : decode cX10_startVisit 248 = .ok (.iload 5, 2) := by decide +kernel
theorem dX10_startVisit_250 : decode cX10_startVisit 250 = .ok (.ireturn, 1) := by decide +kernel
theorem dX10_visitCount_0 : decode cX10_visitCount 0 = .ok (.aload_n 0, 1) := by decide +kernel
theorem dX10_visitCount_1 : decode cX10_visitCount 1 = .ok (.iconst 0, 1) := by decide +kernel
theorem dX10_visitCount_2 : decode cX10_visitCount 2 = .ok (.putfield 1, 3) := by decide +kernel
theorem dX10_visitCount_5 : decode cX10_visitCount 5 = .ok (.aload_n 0, 1) := by decide +kernel
theorem dX10_visitCount_6 : decode cX10_visitCount 6 = .ok (.getfield 13, 3) := by decide +kernel
theorem dX10_visitCount_9 : decode cX10_visitCount 9 = .ok (.iconst 0, 1) := by decide +kernel
theorem dX10_visitCount_10 : decode cX10_visitCount 10 = .ok (.iaload, 1) := by decide +kernel
theorem dX10_visitCount_11 : decode cX10_visitCount 11 = .ok (.ireturn, 1) := by decide +kernel
theorem dX10_visitScale_0 : decode cX10_visitScale 0 = .ok (.aload_n 0, 1) := by decide +kernel
theorem dX10_visitScale_1 : decode cX10_visitScale 1 = .ok (.iconst 0, 1) := by decide +kernel
theorem dX10_visitScale_2 : decode cX10_visitScale 2 = .ok (.putfield 1, 3) := by decide +kernel
theorem dX10_visitScale_5 : decode cX10_visitScale 5 = .ok (.aload_n 0, 1) := by decide +kernel
theorem dX10_visitScale_6 : decode cX10_visitScale 6 = .ok (.iload_n 1, 1) := by decide +kernel
theorem dX10_visitScale_7 : decode cX10_visitScale 7 = .ok (.invokevirtual 252, 3) := by decide +kernel
theorem dX10_visitScale_10 : decode cX10_visitScale 10 = .ok (.ifCond .eq 14, 3) := by decide +kernel
theorem dX10_visitScale_13 : decode cX10_visitScale 13 = .ok (.aload_n 0, 1) := by decide +kernel
theorem dX10_visitScale_14 : decode cX10_visitScale 14 = .ok (.getfield 13, 3) := by decide +kernel
theorem dX10_visitScale_17 : decode cX10_visitScale 17 = .ok (.iconst 1, 1) := by decide +kernel
theorem dX10_visitScale_18 : decode cX10_visitScale 18 = .ok (.iload_n 1, 1) := by decide +kernel
theorem dX10_visitScale_19 : decode cX10_visitScale 19 = .ok (.iadd, 1) := by decide +kernel
theorem dX10_visitScale_20 : decode cX10_visitScale 20 = .ok (.iaload, 1) := by decide +kernel
theorem dX10_visitScale_21 : decode cX10_visitScale 21 = .ok (.goto 4, 3) := by decide +kernel
theorem dX10_visitScale_24 : decode cX10_visitScale 24 = .ok (.iconst (-1), 1) := by decide +kernel
theorem dX10_visitScale_25 : decode cX10_visitScale 25 = .ok (.ireturn, 1) := by decide +kernel
theorem dX10_isInService_0 : decode cX10_isInService 0 = .ok (.aload_n 0, 1) := by decide +kernel
theorem dX10_isInService_1 : decode cX10_isInService 1 = .ok (.iconst 0, 1) := by decide +kernel
theorem dX10_isInService_2 : decode cX10_isInService 2 = .ok (.putfield 1, 3) := by decide +kernel
theorem dX10_isInService_5 : decode cX10_isInService 5 = .ok (.aload_n 0, 1) := by decide +kernel
theorem dX10_isInService_6 : decode cX10_isInService 6 = .ok (.iload_n 1, 1) := by decide +kernel
theorem dX10_isInService_7 : decode cX10_isInService 7 = .ok (.invokevirtual 252, 3) := by decide +kernel
theorem dX10_isInService_10 : decode cX10_isInService 10 = .ok (.ifCond .eq 15, 3) := by decide +kernel
theorem dX10_isInService_13 : decode cX10_isInService 13 = .ok (.aload_n 0, 1) := by decide +kernel
theorem dX10_isInService_14 : decode cX10_isInService 14 = .ok (.getfield 13, 3) := by decide +kernel
theorem dX10_isInService_17 : decode cX10_isInService 17 = .ok (.bipush 121, 2) := by decide +kernel
theorem dX10_isInService_19 : decode cX10_isInService 19 = .ok (.iload_n 1, 1) := by decide +kernel
theorem dX10_isInService_20 : decode cX10_isInService 20 = .ok (.iadd, 1) := by decide +kernel
theorem dX10_isInService_21 : decode cX10_isInService 21 = .ok (.iaload, 1) := by decide +kernel
theorem dX10_isInService_22 : decode cX10_isInService 22 = .ok (.goto 4, 3) := by decide +kernel
theorem dX10_isInService_25 : decode cX10_isInService 25 = .ok (.iconst (-1), 1) := by decide +kernel
theorem dX10_isInService_26 : decode cX10_isInService 26 = .ok (.ireturn, 1) := by decide +kernel
theorem dX10_record_0 : decode cX10_record 0 = .ok (.aload_n 0, 1) := by decide +kernel
theorem dX10_record_1 : decode cX10_record 1 = .ok (.iconst 0, 1) := by decide +kernel
theorem dX10_record_2 : decode cX10_record 2 = .ok (.putfield 1, 3) := by decide +kernel
theorem dX10_record_5 : decode cX10_record 5 = .ok (.aload_n 0, 1) := by decide +kernel
theorem dX10_record_6 : decode cX10_record 6 = .ok (.iload_n 1, 1) := by decide +kernel
theorem dX10_record_7 : decode cX10_record 7 = .ok (.invokevirtual 252, 3) := by decide +kernel
theorem dX10_record_10 : decode cX10_record 10 = .ok (.ifCond .eq 56, 3) := by decide +kernel
theorem dX10_record_13 : decode cX10_record 13 = .ok (.iload_n 2, 1) := by decide +kernel
theorem dX10_record_14 : decode cX10_record 14 = .ok (.i2l, 1) := by decide +kernel
theorem dX10_record_15 : decode cX10_record 15 = .ok (.lconst 0, 1) := by decide +kernel
theorem dX10_record_16 : decode cX10_record 16 = .ok (.iconst 1, 1) := by decide +kernel
theorem dX10_record_17 : decode cX10_record 17 = .ok (.aload_n 0, 1) := by decide +kernel
theorem dX10_record_18 : decode cX10_record 18 = .ok (.getfield 225, 3) := by decide +kernel
theorem dX10_record_21 : decode cX10_record 21 = .ok (.ishl, 1) := by decide +kernel
theorem dX10_record_22 : decode cX10_record 22 = .ok (.iconst 1, 1) := by decide +kernel
theorem dX10_record_23 : decode cX10_record 23 = .ok (.isub, 1) := by decide +kernel
theorem dX10_record_24 : decode cX10_record 24 = .ok (.i2l, 1) := by decide +kernel
theorem dX10_record_25 : decode cX10_record 25 = .ok (.invokestatic 124, 3) := by decide +kernel
theorem dX10_record_28 : decode cX10_record 28 = .ok (.ifCond .eq 38, 3) := by decide +kernel
theorem dX10_record_31 : decode cX10_record 31 = .ok (.aload_n 0, 1) := by decide +kernel
theorem dX10_record_32 : decode cX10_record 32 = .ok (.iload_n 2, 1) := by decide +kernel
theorem dX10_record_33 : decode cX10_record 33 = .ok (.invokevirtual 241, 3) := by decide +kernel
theorem dX10_record_36 : decode cX10_record 36 = .ok (.aload_n 0, 1) := by decide +kernel
theorem dX10_record_37 : decode cX10_record 37 = .ok (.getfield 26, 3) := by decide +kernel
theorem dX10_record_40 : decode cX10_record 40 = .ok (.aload_n 0, 1) := by decide +kernel
theorem dX10_record_41 : decode cX10_record 41 = .ok (.getfield 13, 3) := by decide +kernel
theorem dX10_record_44 : decode cX10_record 44 = .ok (.iconst 1, 1) := by decide +kernel
theorem dX10_record_45 : decode cX10_record 45 = .ok (.iload_n 1, 1) := by decide +kernel
theorem dX10_record_46 : decode cX10_record 46 = .ok (.iadd, 1) := by decide +kernel
theorem dX10_record_47 : decode cX10_record 47 = .ok (.iaload, 1) := by decide +kernel
theorem dX10_record_48 : decode cX10_record 48 = .ok (.iaload, 1) := by decide +kernel
theorem dX10_record_49 : decode cX10_record 49 = .ok (.if_icmp .gt 17, 3) := by decide +kernel
theorem dX10_record_52 : decode cX10_record 52 = .ok (.iload_n 3, 1) := by decide +kernel
theorem dX10_record_53 : decode cX10_record 53 = .ok (.i2l, 1) := by decide +kernel
theorem dX10_record_54 : decode cX10_record 54 = .ok (.ldc2_w 255, 3) := by decide +kernel
theorem dX10_record_57 : decode cX10_record 57 = .ok (.ldc2_w 257, 3) := by decide +kernel
theorem dX10_record_60 : decode cX10_record 60 = .ok (.invokestatic 124, 3) := by decide +kernel
theorem dX10_record_63 : decode cX10_record 63 = .ok (.ifCond .ne 5, 3) := by decide +kernel
theorem dX10_record_66 : decode cX10_record 66 = .ok (.iconst (-1), 1) := by decide +kernel
theorem dX10_record_67 : decode cX10_record 67 = .ok (.ireturn, 1) := by decide +kernel
theorem dX10_record_68 : decode cX10_record 68 = .ok (.aload_n 0, 1) := by decide +kernel
theorem dX10_record_69 : decode cX10_record 69 = .ok (.getfield 13, 3) := by decide +kernel
theorem dX10_record_72 : decode cX10_record 72 = .ok (.bipush 61, 2) := by decide +kernel
theorem dX10_record_74 : decode cX10_record 74 = .ok (.iload_n 1, 1) := by decide +kernel
theorem dX10_record_75 : decode cX10_record 75 = .ok (.iadd, 1) := by decide +kernel
theorem dX10_record_76 : decode cX10_record 76 = .ok (.iaload, 1) := by decide +kernel
theorem dX10_record_77 : decode cX10_record 77 = .ok (.iconst 1, 1) := by decide +kernel
theorem dX10_record_78 : decode cX10_record 78 = .ok (.if_icmp .ne 6, 3) := by decide +kernel
theorem dX10_record_81 : decode cX10_record 81 = .ok (.bipush (-2), 2) := by decide +kernel
theorem dX10_record_83 : decode cX10_record 83 = .ok (.ireturn, 1) := by decide +kernel
theorem dX10_record_84 : decode cX10_record 84 = .ok (.aload_n 0, 1) := by decide +kernel
theorem dX10_record_85 : decode cX10_record 85 = .ok (.getfield 13, 3) := by decide +kernel
theorem dX10_record_88 : decode cX10_record 88 = .ok (.sipush 151, 3) := by decide +kernel
theorem dX10_record_91 : decode cX10_record 91 = .ok (.iload_n 1, 1) := by decide +kernel
theorem dX10_record_92 : decode cX10_record 92 = .ok (.iadd, 1) := by decide +kernel
theorem dX10_record_93 : decode cX10_record 93 = .ok (.iaload, 1) := by decide +kernel
theorem dX10_record_94 : decode cX10_record 94 = .ok (.istore 4, 2) := by decide +kernel
theorem dX10_record_96 : decode cX10_record 96 = .ok (.iload 4, 2) := by decide +kernel
theorem dX10_record_98 : decode cX10_record 98 = .ok (.bipush 8, 2) := by decide +kernel
theorem dX10_record_100 : decode cX10_record 100 = .ok (.if_icmp .ne 6, 3) := by decide +kernel
theorem dX10_record_103 : decode cX10_record 103 = .ok (.bipush (-3), 2) := by decide +kernel
theorem dX10_record_105 : decode cX10_record 105 = .ok (.ireturn, 1) := by decide +kernel
theorem dX10_record_106 : decode cX10_record 106 = .ok (.aload_n 0, 1) := by decide +kernel
theorem dX10_record_107 : decode cX10_record 107 = .ok (.invokevirtual 249, 3) := by decide +kernel
theorem dX10_record_110 : decode cX10_record 110 = .ok (.aload_n 0, 1) := by decide +kernel
theorem dX10_record_111 : decode cX10_record 111 = .ok (.getfield 13, 3) := by decide +kernel
theorem dX10_record_114 : decode cX10_record 114 = .ok (.sipush 181, 3) := by decide +kernel
theorem dX10_record_117 : decode cX10_record 117 = .ok (.bipush 8, 2) := by decide +kernel
theorem dX10_record_119 : decode cX10_record 119 = .ok (.iload_n 1, 1) := by decide +kernel
theorem dX10_record_120 : decode cX10_record 120 = .ok (.imul, 1) := by decide +kernel
theorem dX10_record_121 : decode cX10_record 121 = .ok (.iadd, 1) := by decide +kernel
theorem dX10_record_122 : decode cX10_record 122 = .ok (.iload 4, 2) := by decide +kernel
theorem dX10_record_124 : decode cX10_record 124 = .ok (.iadd, 1) := by decide +kernel
theorem dX10_record_125 : decode cX10_record 125 = .ok (.iload_n 2, 1) := by decide +kernel
theorem dX10_record_126 : decode cX10_record 126 = .ok (.iastore, 1) := by decide +kernel
theorem dX10_record_127 : decode cX10_record 127 = .ok (.aload_n 0, 1) := by decide +kernel
theorem dX10_record_128 : decode cX10_record 128 = .ok (.getfield 13, 3) := by decide +kernel
theorem dX10_record_131 : decode cX10_record 131 = .ok (.sipush 421, 3) := by decide +kernel
theorem dX10_record_134 : decode cX10_record 134 = .ok (.bipush 8, 2) := by decide +kernel
theorem dX10_record_136 : decode cX10_record 136 = .ok (.iload_n 1, 1) := by decide +kernel
theorem dX10_record_137 : decode cX10_record 137 = .ok (.imul, 1) := by decide +kernel
theorem dX10_record_138 : decode cX10_record 138 = .ok (.iadd, 1) := by decide +kernel
theorem dX10_record_139 : decode cX10_record 139 = .ok (.iload 4, 2) := by decide +kernel
theorem dX10_record_141 : decode cX10_record 141 = .ok (.iadd, 1) := by decide +kernel
theorem dX10_record_142 : decode cX10_record 142 = .ok (.iload_n 3, 1) := by decide +kernel
theorem dX10_record_143 : decode cX10_record 143 = .ok (.iastore, 1) := by decide +kernel
theorem dX10_record_144 : decode cX10_record 144 = .ok (.aload_n 0, 1) := by decide +kernel
theorem dX10_record_145 : decode cX10_record 145 = .ok (.getfield 13, 3) := by decide +kernel
theorem dX10_record_148 : decode cX10_record 148 = .ok (.sipush 151, 3) := by decide +kernel
theorem dX10_record_151 : decode cX10_record 151 = .ok (.iload_n 1, 1) := by decide +kernel
theorem dX10_record_152 : decode cX10_record 152 = .ok (.iadd, 1) := by decide +kernel
theorem dX10_record_153 : decode cX10_record 153 = .ok (.dup2, 1) := by decide +kernel
theorem dX10_record_154 : decode cX10_record 154 = .ok (.iaload, 1) := by decide +kernel
theorem dX10_record_155 : decode cX10_record 155 = .ok (.iconst 1, 1) := by decide +kernel
theorem dX10_record_156 : decode cX10_record 156 = .ok (.iadd, 1) := by decide +kernel
theorem dX10_record_157 : decode cX10_record 157 = .ok (.iastore, 1) := by decide +kernel
theorem dX10_record_158 : decode cX10_record 158 = .ok (.iload 4, 2) := by decide +kernel
theorem dX10_record_160 : decode cX10_record 160 = .ok (.ireturn, 1) := by decide +kernel
theorem dX10_testCount_0 : decode cX10_testCount 0 = .ok (.aload_n 0, 1) := by decide +kernel
theorem dX10_testCount_1 : decode cX10_testCount 1 = .ok (.iconst 0, 1) := by decide +kernel
theorem dX10_testCount_2 : decode cX10_testCount 2 = .ok (.putfield 1, 3) := by decide +kernel
theorem dX10_testCount_5 : decode cX10_testCount 5 = .ok (.aload_n 0, 1) := by decide +kernel
theorem dX10_testCount_6 : decode cX10_testCount 6 = .ok (.iload_n 1, 1) := by decide +kernel
theorem dX10_testCount_7 : decode cX10_testCount 7 = .ok (.invokevirtual 252, 3) := by decide +kernel
theorem dX10_testCount_10 : decode cX10_testCount 10 = .ok (.ifCond .eq 16, 3) := by decide +kernel
theorem dX10_testCount_13 : decode cX10_testCount 13 = .ok (.aload_n 0, 1) := by decide +kernel
theorem dX10_testCount_14 : decode cX10_testCount 14 = .ok (.getfield 13, 3) := by decide +kernel
theorem dX10_testCount_17 : decode cX10_testCount 17 = .ok (.sipush 151, 3) := by decide +kernel
theorem dX10_testCount_20 : decode cX10_testCount 20 = .ok (.iload_n 1, 1) := by decide +kernel
theorem dX10_testCount_21 : decode cX10_testCount 21 = .ok (.iadd, 1) := by decide +kernel
theorem dX10_testCount_22 : decode cX10_testCount 22 = .ok (.iaload, 1) := by decide +kernel
theorem dX10_testCount_23 : decode cX10_testCount 23 = .ok (.goto 4, 3) := by decide +kernel
theorem dX10_testCount_26 : decode cX10_testCount 26 = .ok (.iconst (-1), 1) := by decide +kernel
theorem dX10_testCount_27 : decode cX10_testCount 27 = .ok (.ireturn, 1) := by decide +kernel
theorem dX10_isTest_0 : decode cX10_isTest 0 = .ok (.aload_n 0, 1) := by decide +kernel
theorem dX10_isTest_1 : decode cX10_isTest 1 = .ok (.iload_n 1, 1) := by decide +kernel
theorem dX10_isTest_2 : decode cX10_isTest 2 = .ok (.invokevirtual 252, 3) := by decide +kernel
theorem dX10_isTest_5 : decode cX10_isTest 5 = .ok (.ifCond .eq 29, 3) := by decide +kernel
theorem dX10_isTest_8 : decode cX10_isTest 8 = .ok (.iload_n 2, 1) := by decide +kernel
theorem dX10_isTest_9 : decode cX10_isTest 9 = .ok (.i2l, 1) := by decide +kernel
theorem dX10_isTest_10 : decode cX10_isTest 10 = .ok (.lconst 0, 1) := by decide +kernel
theorem dX10_isTest_11 : decode cX10_isTest 11 = .ok (.aload_n 0, 1) := by decide +kernel
theorem dX10_isTest_12 : decode cX10_isTest 12 = .ok (.getfield 13, 3) := by decide +kernel
theorem dX10_isTest_15 : decode cX10_isTest 15 = .ok (.sipush 151, 3) := by decide +kernel
theorem dX10_isTest_18 : decode cX10_isTest 18 = .ok (.iload_n 1, 1) := by decide +kernel
theorem dX10_isTest_19 : decode cX10_isTest 19 = .ok (.iadd, 1) := by decide +kernel
theorem dX10_isTest_20 : decode cX10_isTest 20 = .ok (.iaload, 1) := by decide +kernel
theorem dX10_isTest_21 : decode cX10_isTest 21 = .ok (.iconst 1, 1) := by decide +kernel
theorem dX10_isTest_22 : decode cX10_isTest 22 = .ok (.isub, 1) := by decide +kernel
theorem dX10_isTest_23 : decode cX10_isTest 23 = .ok (.i2l, 1) := by decide +kernel
theorem dX10_isTest_24 : decode cX10_isTest 24 = .ok (.invokestatic 124, 3) := by decide +kernel
theorem dX10_isTest_27 : decode cX10_isTest 27 = .ok (.ifCond .eq 7, 3) := by decide +kernel
theorem dX10_isTest_30 : decode cX10_isTest 30 = .ok (.iconst 1, 1) := by decide +kernel
theorem dX10_isTest_31 : decode cX10_isTest 31 = .ok (.goto 4, 3) := by decide +kernel
theorem dX10_isTest_34 : decode cX10_isTest 34 = .ok (.iconst 0, 1) := by decide +kernel
theorem dX10_isTest_35 : decode cX10_isTest 35 = .ok (.ireturn, 1) := by decide +kernel
theorem dX10_loadOf_0 : decode cX10_loadOf 0 = .ok (.aload_n 0, 1) := by decide +kernel
theorem dX10_loadOf_1 : decode cX10_loadOf 1 = .ok (.aload_n 0, 1) := by decide +kernel
theorem dX10_loadOf_2 : decode cX10_loadOf 2 = .ok (.getfield 13, 3) := by decide +kernel
theorem dX10_loadOf_5 : decode cX10_loadOf 5 = .ok (.sipush 181, 3) := by decide +kernel
theorem dX10_loadOf_8 : decode cX10_loadOf 8 = .ok (.bipush 8, 2) := by decide +kernel
theorem dX10_loadOf_10 : decode cX10_loadOf 10 = .ok (.iload_n 1, 1) := by decide +kernel
theorem dX10_loadOf_11 : decode cX10_loadOf 11 = .ok (.imul, 1) := by decide +kernel
theorem dX10_loadOf_12 : decode cX10_loadOf 12 = .ok (.iadd, 1) := by decide +kernel
theorem dX10_loadOf_13 : decode cX10_loadOf 13 = .ok (.iload_n 2, 1) := by decide +kernel
theorem dX10_loadOf_14 : decode cX10_loadOf 14 = .ok (.iadd, 1) := by decide +kernel
theorem dX10_loadOf_15 : decode cX10_loadOf 15 = .ok (.iaload, 1) := by decide +kernel
theorem dX10_loadOf_16 : decode cX10_loadOf 16 = .ok (.invokevirtual 241, 3) := by decide +kernel
theorem dX10_loadOf_19 : decode cX10_loadOf 19 = .ok (.ireturn, 1) := by decide +kernel
theorem dX10_errorOf_0 : decode cX10_errorOf 0 = .ok (.aload_n 0, 1) := by decide +kernel
theorem dX10_errorOf_1 : decode cX10_errorOf 1 = .ok (.getfield 13, 3) := by decide +kernel
theorem dX10_errorOf_4 : decode cX10_errorOf 4 = .ok (.sipush 421, 3) := by decide +kernel
theorem dX10_errorOf_7 : decode cX10_errorOf 7 = .ok (.bipush 8, 2) := by decide +kernel
theorem dX10_errorOf_9 : decode cX10_errorOf 9 = .ok (.iload_n 1, 1) := by decide +kernel
theorem dX10_errorOf_10 : decode cX10_errorOf 10 = .ok (.imul, 1) := by decide +kernel
theorem dX10_errorOf_11 : decode cX10_errorOf 11 = .ok (.iadd, 1) := by decide +kernel
theorem dX10_errorOf_12 : decode cX10_errorOf 12 = .ok (.iload_n 2, 1) := by decide +kernel
theorem dX10_errorOf_13 : decode cX10_errorOf 13 = .ok (.iadd, 1) := by decide +kernel
theorem dX10_errorOf_14 : decode cX10_errorOf 14 = .ok (.iaload, 1) := by decide +kernel
theorem dX10_errorOf_15 : decode cX10_errorOf 15 = .ok (.aload_n 0, 1) := by decide +kernel
theorem dX10_errorOf_16 : decode cX10_errorOf 16 = .ok (.iload_n 1, 1) := by decide +kernel
theorem dX10_errorOf_17 : decode cX10_errorOf 17 = .ok (.iload_n 2, 1) := by decide +kernel
theorem dX10_errorOf_18 : decode cX10_errorOf 18 = .ok (.invokevirtual 259, 3) := by decide +kernel
theorem dX10_errorOf_21 : decode cX10_errorOf 21 = .ok (.isub, 1) := by decide +kernel
theorem dX10_errorOf_22 : decode cX10_errorOf 22 = .ok (.ireturn, 1) := by decide +kernel
theorem dX10_toleranceOf_0 : decode cX10_toleranceOf 0 = .ok (.aload_n 0, 1) := by decide +kernel
theorem dX10_toleranceOf_1 : decode cX10_toleranceOf 1 = .ok (.aload_n 0, 1) := by decide +kernel
theorem dX10_toleranceOf_2 : decode cX10_toleranceOf 2 = .ok (.getfield 13, 3) := by decide +kernel
theorem dX10_toleranceOf_5 : decode cX10_toleranceOf 5 = .ok (.iconst 1, 1) := by decide +kernel
theorem dX10_toleranceOf_6 : decode cX10_toleranceOf 6 = .ok (.iload_n 1, 1) := by decide +kernel
theorem dX10_toleranceOf_7 : decode cX10_toleranceOf 7 = .ok (.iadd, 1) := by decide +kernel
theorem dX10_toleranceOf_8 : decode cX10_toleranceOf 8 = .ok (.iaload, 1) := by decide +kernel
theorem dX10_toleranceOf_9 : decode cX10_toleranceOf 9 = .ok (.aload_n 0, 1) := by decide +kernel
theorem dX10_toleranceOf_10 : decode cX10_toleranceOf 10 = .ok (.iload_n 1, 1) := by decide +kernel
theorem dX10_toleranceOf_11 : decode cX10_toleranceOf 11 = .ok (.iload_n 2, 1) := by decide +kernel
theorem dX10_toleranceOf_12 : decode cX10_toleranceOf 12 = .ok (.invokevirtual 259, 3) := by decide +kernel
theorem dX10_toleranceOf_15 : decode cX10_toleranceOf 15 = .ok (.invokevirtual 237, 3) := by decide +kernel
theorem dX10_toleranceOf_18 : decode cX10_toleranceOf 18 = .ok (.iconst 1, 1) := by decide +kernel
theorem dX10_toleranceOf_19 : decode cX10_toleranceOf 19 = .ok (.aload_n 0, 1) := by decide +kernel
theorem dX10_toleranceOf_20 : decode cX10_toleranceOf 20 = .ok (.getfield 13, 3) := by decide +kernel
theorem dX10_toleranceOf_23 : decode cX10_toleranceOf 23 = .ok (.bipush 121, 2) := by decide +kernel
theorem dX10_toleranceOf_25 : decode cX10_toleranceOf 25 = .ok (.iload_n 1, 1) := by decide +kernel
theorem dX10_toleranceOf_26 : decode cX10_toleranceOf 26 = .ok (.iadd, 1) := by decide +kernel
theorem dX10_toleranceOf_27 : decode cX10_toleranceOf 27 = .ok (.iaload, 1) := by decide +kernel
theorem dX10_toleranceOf_28 : decode cX10_toleranceOf 28 = .ok (.iadd, 1) := by decide +kernel
theorem dX10_toleranceOf_29 : decode cX10_toleranceOf 29 = .ok (.imul, 1) := by decide +kernel
theorem dX10_toleranceOf_30 : decode cX10_toleranceOf 30 = .ok (.ireturn, 1) := by decide +kernel
theorem dX10_testLoad_0 : decode cX10_testLoad 0 = .ok (.aload_n 0, 1) := by decide +kernel
theorem dX10_testLoad_1 : decode cX10_testLoad 1 = .ok (.aload_n 0, 1) := by decide +kernel
theorem dX10_testLoad_2 : decode cX10_testLoad 2 = .ok (.iload_n 1, 1) := by decide +kernel
theorem dX10_testLoad_3 : decode cX10_testLoad 3 = .ok (.iload_n 2, 1) := by decide +kernel
theorem dX10_testLoad_4 : decode cX10_testLoad 4 = .ok (.invokevirtual 262, 3) := by decide +kernel
theorem dX10_testLoad_7 : decode cX10_testLoad 7 = .ok (.ifCond .eq 7, 3) := by decide +kernel
theorem dX10_testLoad_10 : decode cX10_testLoad 10 = .ok (.iconst 0, 1) := by decide +kernel
theorem dX10_testLoad_11 : decode cX10_testLoad 11 = .ok (.goto 4, 3) := by decide +kernel
theorem dX10_testLoad_14 : decode cX10_testLoad 14 = .ok (.iconst 1, 1) := by decide +kernel
theorem dX10_testLoad_15 : decode cX10_testLoad 15 = .ok (.putfield 1, 3) := by decide +kernel
theorem dX10_testLoad_18 : decode cX10_testLoad 18 = .ok (.aload_n 0, 1) := by decide +kernel
theorem dX10_testLoad_19 : decode cX10_testLoad 19 = .ok (.getfield 1, 3) := by decide +kernel
theorem dX10_testLoad_22 : decode cX10_testLoad 22 = .ok (.ifCond .le 7, 3) := by decide +kernel
theorem dX10_testLoad_25 : decode cX10_testLoad 25 = .ok (.iconst 0, 1) := by decide +kernel
theorem dX10_testLoad_26 : decode cX10_testLoad 26 = .ok (.goto 9, 3) := by decide +kernel
theorem dX10_testLoad_29 : decode cX10_testLoad 29 = .ok (.aload_n 0, 1) := by decide +kernel
theorem dX10_testLoad_30 : decode cX10_testLoad 30 = .ok (.iload_n 1, 1) := by decide +kernel
theorem dX10_testLoad_31 : decode cX10_testLoad 31 = .ok (.iload_n 2, 1) := by decide +kernel
theorem dX10_testLoad_32 : decode cX10_testLoad 32 = .ok (.invokevirtual 259, 3) := by decide +kernel
theorem dX10_testLoad_35 : decode cX10_testLoad 35 = .ok (.ireturn, 1) := by decide +kernel
theorem dX10_testError_0 : decode cX10_testError 0 = .ok (.aload_n 0, 1) := by decide +kernel
theorem dX10_testError_1 : decode cX10_testError 1 = .ok (.aload_n 0, 1) := by decide +kernel
theorem dX10_testError_2 : decode cX10_testError 2 = .ok (.iload_n 1, 1) := by decide +kernel
theorem dX10_testError_3 : decode cX10_testError 3 = .ok (.iload_n 2, 1) := by decide +kernel
theorem dX10_testError_4 : decode cX10_testError 4 = .ok (.invokevirtual 262, 3) := by decide +kernel
theorem dX10_testError_7 : decode cX10_testError 7 = .ok (.ifCond .eq 7, 3) := by decide +kernel
theorem dX10_testError_10 : decode cX10_testError 10 = .ok (.iconst 0, 1) := by decide +kernel
theorem dX10_testError_11 : decode cX10_testError 11 = .ok (.goto 4, 3) := by decide +kernel
theorem dX10_testError_14 : decode cX10_testError 14 = .ok (.iconst 1, 1) := by decide +kernel
theorem dX10_testError_15 : decode cX10_testError 15 = .ok (.putfield 1, 3) := by decide +kernel
theorem dX10_testError_18 : decode cX10_testError 18 = .ok (.aload_n 0, 1) := by decide +kernel
theorem dX10_testError_19 : decode cX10_testError 19 = .ok (.getfield 1, 3) := by decide +kernel
theorem dX10_testError_22 : decode cX10_testError 22 = .ok (.ifCond .le 7, 3) := by decide +kernel
theorem dX10_testError_25 : decode cX10_testError 25 = .ok (.iconst 0, 1) := by decide +kernel
theorem dX10_testError_26 : decode cX10_testError 26 = .ok (.goto 9, 3) := by decide +kernel
theorem dX10_testError_29 : decode cX10_testError 29 = .ok (.aload_n 0, 1) := by decide +kernel
theorem dX10_testError_30 : decode cX10_testError 30 = .ok (.iload_n 1, 1) := by decide +kernel
theorem dX10_testError_31 : decode cX10_testError 31 = .ok (.iload_n 2, 1) := by decide +kernel
theorem dX10_testError_32 : decode cX10_testError 32 = .ok (.invokevirtual 265, 3) := by decide +kernel
theorem dX10_testError_35 : decode cX10_testError 35 = .ok (.ireturn, 1) := by decide +kernel
theorem dX10_testPasses_0 : decode cX10_testPasses 0 = .ok (.aload_n 0, 1) := by decide +kernel
theorem dX10_testPasses_1 : decode cX10_testPasses 1 = .ok (.aload_n 0, 1) := by decide +kernel
theorem dX10_testPasses_2 : decode cX10_testPasses 2 = .ok (.iload_n 1, 1) := by decide +kernel
theorem dX10_testPasses_3 : decode cX10_testPasses 3 = .ok (.iload_n 2, 1) := by decide +kernel
theorem dX10_testPasses_4 : decode cX10_testPasses 4 = .ok (.invokevirtual 262, 3) := by decide +kernel
theorem dX10_testPasses_7 : decode cX10_testPasses 7 = .ok (.ifCond .eq 7, 3) := by decide +kernel
theorem dX10_testPasses_10 : decode cX10_testPasses 10 = .ok (.iconst 0, 1) := by decide +kernel
theorem dX10_testPasses_11 : decode cX10_testPasses 11 = .ok (.goto 4, 3) := by decide +kernel
theorem dX10_testPasses_14 : decode cX10_testPasses 14 = .ok (.iconst 1, 1) := by decide +kernel
theorem dX10_testPasses_15 : decode cX10_testPasses 15 = .ok (.putfield 1, 3) := by decide +kernel
theorem dX10_testPasses_18 : decode cX10_testPasses 18 = .ok (.aload_n 0, 1) := by decide +kernel
theorem dX10_testPasses_19 : decode cX10_testPasses 19 = .ok (.getfield 1, 3) := by decide +kernel
theorem dX10_testPasses_22 : decode cX10_testPasses 22 = .ok (.ifCond .ne 25, 3) := by decide +kernel
theorem dX10_testPasses_25 : decode cX10_testPasses 25 = .ok (.aload_n 0, 1) := by decide +kernel
theorem dX10_testPasses_26 : decode cX10_testPasses 26 = .ok (.iload_n 1, 1) := by decide +kernel
theorem dX10_testPasses_27 : decode cX10_testPasses 27 = .ok (.iload_n 2, 1) := by decide +kernel
theorem dX10_testPasses_28 : decode cX10_testPasses 28 = .ok (.invokevirtual 265, 3) := by decide +kernel
theorem dX10_testPasses_31 : decode cX10_testPasses 31 = .ok (.invokestatic 268, 3) := by decide +kernel
theorem dX10_testPasses_34 : decode cX10_testPasses 34 = .ok (.aload_n 0, 1) := by decide +kernel
theorem dX10_testPasses_35 : decode cX10_testPasses 35 = .ok (.iload_n 1, 1) := by decide +kernel
theorem dX10_testPasses_36 : decode cX10_testPasses 36 = .ok (.iload_n 2, 1) := by decide +kernel
theorem dX10_testPasses_37 : decode cX10_testPasses 37 = .ok (.invokevirtual 271, 3) := by decide +kernel
theorem dX10_testPasses_40 : decode cX10_testPasses 40 = .ok (.if_icmp .gt 7, 3) := by decide +kernel
theorem dX10_testPasses_43 : decode cX10_testPasses 43 = .ok (.iconst 1, 1) := by decide +kernel
theorem dX10_testPasses_44 : decode cX10_testPasses 44 = .ok (.goto 4, 3) := by decide +kernel
theorem dX10_testPasses_47 : decode cX10_testPasses 47 = .ok (.iconst 0, 1) := by decide +kernel
theorem dX10_testPasses_48 : decode cX10_testPasses 48 = .ok (.ireturn, 1) := by decide +kernel
theorem dX10_verdictOf_0 : decode cX10_verdictOf 0 = .ok (.iconst 0, 1) := by decide +kernel
theorem dX10_verdictOf_1 : decode cX10_verdictOf 1 = .ok (.istore_n 3, 1) := by decide +kernel
theorem dX10_verdictOf_2 : decode cX10_verdictOf 2 = .ok (.iconst 0, 1) := by decide +kernel
theorem dX10_verdictOf_3 : decode cX10_verdictOf 3 = .ok (.istore 4, 2) := by decide +kernel
theorem dX10_verdictOf_5 : decode cX10_verdictOf 5 = .ok (.iconst 0, 1) := by decide +kernel
theorem dX10_verdictOf_6 : decode cX10_verdictOf 6 = .ok (.istore 5, 2) := by decide +kernel
theorem dX10_verdictOf_8 : decode cX10_verdictOf 8 = .ok (.iconst 1, 1) := by decide +kernel
theorem dX10_verdictOf_9 : decode cX10_verdictOf 9 = .ok (.istore 6, 2) := by decide +kernel
theorem dX10_verdictOf_11 : decode cX10_verdictOf 11 = .ok (.iconst 1, 1) := by decide +kernel
theorem dX10_verdictOf_12 : decode cX10_verdictOf 12 = .ok (.istore 7, 2) := by decide +kernel
theorem dX10_verdictOf_14 : decode cX10_verdictOf 14 = .ok (.iconst 0, 1) := by decide +kernel
theorem dX10_verdictOf_15 : decode cX10_verdictOf 15 = .ok (.istore 8, 2) := by decide +kernel
theorem dX10_verdictOf_17 : decode cX10_verdictOf 17 = .ok (.iload 8, 2) := by decide +kernel
theorem dX10_verdictOf_19 : decode cX10_verdictOf 19 = .ok (.aload_n 0, 1) := by decide +kernel
theorem dX10_verdictOf_20 : decode cX10_verdictOf 20 = .ok (.getfield 13, 3) := by decide +kernel
theorem dX10_verdictOf_23 : decode cX10_verdictOf 23 = .ok (.sipush 151, 3) := by decide +kernel
theorem dX10_verdictOf_26 : decode cX10_verdictOf 26 = .ok (.iload_n 1, 1) := by decide +kernel
theorem dX10_verdictOf_27 : decode cX10_verdictOf 27 = .ok (.iadd, 1) := by decide +kernel
theorem dX10_verdictOf_28 : decode cX10_verdictOf 28 = .ok (.iaload, 1) := by decide +kernel
theorem dX10_verdictOf_29 : decode cX10_verdictOf 29 = .ok (.if_icmp .ge 207, 3) := by decide +kernel
theorem dX10_verdictOf_32 : decode cX10_verdictOf 32 = .ok (.aload_n 0, 1) := by decide +kernel
theorem dX10_verdictOf_33 : decode cX10_verdictOf 33 = .ok (.getfield 13, 3) := by decide +kernel
theorem dX10_verdictOf_36 : decode cX10_verdictOf 36 = .ok (.sipush 181, 3) := by decide +kernel
theorem dX10_verdictOf_39 : decode cX10_verdictOf 39 = .ok (.bipush 8, 2) := by decide +kernel
theorem dX10_verdictOf_41 : decode cX10_verdictOf 41 = .ok (.iload_n 1, 1) := by decide +kernel
theorem dX10_verdictOf_42 : decode cX10_verdictOf 42 = .ok (.imul, 1) := by decide +kernel
theorem dX10_verdictOf_43 : decode cX10_verdictOf 43 = .ok (.iadd, 1) := by decide +kernel
theorem dX10_verdictOf_44 : decode cX10_verdictOf 44 = .ok (.iload 8, 2) := by decide +kernel
theorem dX10_verdictOf_46 : decode cX10_verdictOf 46 = .ok (.iadd, 1) := by decide +kernel
theorem dX10_verdictOf_47 : decode cX10_verdictOf 47 = .ok (.iaload, 1) := by decide +kernel
theorem dX10_verdictOf_48 : decode cX10_verdictOf 48 = .ok (.istore 9, 2) := by decide +kernel
theorem dX10_verdictOf_50 : decode cX10_verdictOf 50 = .ok (.iload_n 3, 1) := by decide +kernel
theorem dX10_verdictOf_51 : decode cX10_verdictOf 51 = .ok (.ifCond .ne 8, 3) := by decide +kernel
theorem dX10_verdictOf_54 : decode cX10_verdictOf 54 = .ok (.iload 9, 2) := by decide +kernel
theorem dX10_verdictOf_56 : decode cX10_verdictOf 56 = .ok (.ifCond .ne 7, 3) := by decide +kernel
theorem dX10_verdictOf_59 : decode cX10_verdictOf 59 = .ok (.iconst 1, 1) := by decide +kernel
theorem dX10_verdictOf_60 : decode cX10_verdictOf 60 = .ok (.goto 4, 3) := by decide +kernel
theorem dX10_verdictOf_63 : decode cX10_verdictOf 63 = .ok (.iconst 0, 1) := by decide +kernel
theorem dX10_verdictOf_64 : decode cX10_verdictOf 64 = .ok (.istore_n 3, 1) := by decide +kernel
theorem dX10_verdictOf_65 : decode cX10_verdictOf 65 = .ok (.iload 4, 2) := by decide +kernel
theorem dX10_verdictOf_67 : decode cX10_verdictOf 67 = .ok (.ifCond .ne 28, 3) := by decide +kernel
theorem dX10_verdictOf_70 : decode cX10_verdictOf 70 = .ok (.iconst 2, 1) := by decide +kernel
theorem dX10_verdictOf_71 : decode cX10_verdictOf 71 = .ok (.aload_n 0, 1) := by decide +kernel
theorem dX10_verdictOf_72 : decode cX10_verdictOf 72 = .ok (.iload_n 1, 1) := by decide +kernel
theorem dX10_verdictOf_73 : decode cX10_verdictOf 73 = .ok (.iload 8, 2) := by decide +kernel
theorem dX10_verdictOf_75 : decode cX10_verdictOf 75 = .ok (.invokevirtual 259, 3) := by decide +kernel
theorem dX10_verdictOf_78 : decode cX10_verdictOf 78 = .ok (.imul, 1) := by decide +kernel
theorem dX10_verdictOf_79 : decode cX10_verdictOf 79 = .ok (.aload_n 0, 1) := by decide +kernel
theorem dX10_verdictOf_80 : decode cX10_verdictOf 80 = .ok (.getfield 26, 3) := by decide +kernel
theorem dX10_verdictOf_83 : decode cX10_verdictOf 83 = .ok (.aload_n 0, 1) := by decide +kernel
theorem dX10_verdictOf_84 : decode cX10_verdictOf 84 = .ok (.getfield 13, 3) := by decide +kernel
theorem dX10_verdictOf_87 : decode cX10_verdictOf 87 = .ok (.iconst 1, 1) := by decide +kernel
theorem dX10_verdictOf_88 : decode cX10_verdictOf 88 = .ok (.iload_n 1, 1) := by decide +kernel
theorem dX10_verdictOf_89 : decode cX10_verdictOf 89 = .ok (.iadd, 1) := by decide +kernel
theorem dX10_verdictOf_90 : decode cX10_verdictOf 90 = .ok (.iaload, 1) := by decide +kernel
theorem dX10_verdictOf_91 : decode cX10_verdictOf 91 = .ok (.iaload, 1) := by decide +kernel
theorem dX10_verdictOf_92 : decode cX10_verdictOf 92 = .ok (.if_icmp .lt 7, 3) := by decide +kernel
theorem dX10_verdictOf_95 : decode cX10_verdictOf 95 = .ok (.iconst 1, 1) := by decide +kernel
theorem dX10_verdictOf_96 : decode cX10_verdictOf 96 = .ok (.goto 4, 3) := by decide +kernel
theorem dX10_verdictOf_99 : decode cX10_verdictOf 99 = .ok (.iconst 0, 1) := by decide +kernel
theorem dX10_verdictOf_100 : decode cX10_verdictOf 100 = .ok (.istore 4, 2) := by decide +kernel
theorem dX10_verdictOf_102 : decode cX10_verdictOf 102 = .ok (.iload 6, 2) := by decide +kernel
theorem dX10_verdictOf_104 : decode cX10_verdictOf 104 = .ok (.ifCond .eq 29, 3) := by decide +kernel
theorem dX10_verdictOf_107 : decode cX10_verdictOf 107 = .ok (.aload_n 0, 1) := by decide +kernel
theorem dX10_verdictOf_108 : decode cX10_verdictOf 108 = .ok (.iload_n 1, 1) := by decide +kernel
theorem dX10_verdictOf_109 : decode cX10_verdictOf 109 = .ok (.iload 8, 2) := by decide +kernel
theorem dX10_verdictOf_111 : decode cX10_verdictOf 111 = .ok (.invokevirtual 265, 3) := by decide +kernel
theorem dX10_verdictOf_114 : decode cX10_verdictOf 114 = .ok (.iload_n 2, 1) := by decide +kernel
theorem dX10_verdictOf_115 : decode cX10_verdictOf 115 = .ok (.isub, 1) := by decide +kernel
theorem dX10_verdictOf_116 : decode cX10_verdictOf 116 = .ok (.invokestatic 268, 3) := by decide +kernel
theorem dX10_verdictOf_119 : decode cX10_verdictOf 119 = .ok (.aload_n 0, 1) := by decide +kernel
theorem dX10_verdictOf_120 : decode cX10_verdictOf 120 = .ok (.iload_n 1, 1) := by decide +kernel
theorem dX10_verdictOf_121 : decode cX10_verdictOf 121 = .ok (.iload 8, 2) := by decide +kernel
theorem dX10_verdictOf_123 : decode cX10_verdictOf 123 = .ok (.invokevirtual 271, 3) := by decide +kernel
theorem dX10_verdictOf_126 : decode cX10_verdictOf 126 = .ok (.if_icmp .gt 7, 3) := by decide +kernel
theorem dX10_verdictOf_129 : decode cX10_verdictOf 129 = .ok (.iconst 1, 1) := by decide +kernel
theorem dX10_verdictOf_130 : decode cX10_verdictOf 130 = .ok (.goto 4, 3) := by decide +kernel
theorem dX10_verdictOf_133 : decode cX10_verdictOf 133 = .ok (.iconst 0, 1) := by decide +kernel
theorem dX10_verdictOf_134 : decode cX10_verdictOf 134 = .ok (.istore 6, 2) := by decide +kernel
theorem dX10_verdictOf_136 : decode cX10_verdictOf 136 = .ok (.iconst 0, 1) := by decide +kernel
theorem dX10_verdictOf_137 : decode cX10_verdictOf 137 = .ok (.istore 10, 2) := by decide +kernel
theorem dX10_verdictOf_139 : decode cX10_verdictOf 139 = .ok (.iload 10, 2) := by decide +kernel
theorem dX10_verdictOf_141 : decode cX10_verdictOf 141 = .ok (.iload 8, 2) := by decide +kernel
theorem dX10_verdictOf_143 : decode cX10_verdictOf 143 = .ok (.if_icmp .ge 87, 3) := by decide +kernel
theorem dX10_verdictOf_146 : decode cX10_verdictOf 146 = .ok (.aload_n 0, 1) := by decide +kernel
theorem dX10_verdictOf_147 : decode cX10_verdictOf 147 = .ok (.getfield 13, 3) := by decide +kernel
theorem dX10_verdictOf_150 : decode cX10_verdictOf 150 = .ok (.sipush 181, 3) := by decide +kernel
theorem dX10_verdictOf_153 : decode cX10_verdictOf 153 = .ok (.bipush 8, 2) := by decide +kernel
theorem dX10_verdictOf_155 : decode cX10_verdictOf 155 = .ok (.iload_n 1, 1) := by decide +kernel
theorem dX10_verdictOf_156 : decode cX10_verdictOf 156 = .ok (.imul, 1) := by decide +kernel
theorem dX10_verdictOf_157 : decode cX10_verdictOf 157 = .ok (.iadd, 1) := by decide +kernel
theorem dX10_verdictOf_158 : decode cX10_verdictOf 158 = .ok (.iload 10, 2) := by decide +kernel
theorem dX10_verdictOf_160 : decode cX10_verdictOf 160 = .ok (.iadd, 1) := by decide +kernel
theorem dX10_verdictOf_161 : decode cX10_verdictOf 161 = .ok (.iaload, 1) := by decide +kernel
theorem dX10_verdictOf_162 : decode cX10_verdictOf 162 = .ok (.iload 9, 2) := by decide +kernel
theorem dX10_verdictOf_164 : decode cX10_verdictOf 164 = .ok (.if_icmp .ne 60, 3) := by decide +kernel
theorem dX10_verdictOf_167 : decode cX10_verdictOf 167 = .ok (.iload 5, 2) := by decide +kernel
theorem dX10_verdictOf_169 : decode cX10_verdictOf 169 = .ok (.ifCond .ne 8, 3) := by decide +kernel
theorem dX10_verdictOf_172 : decode cX10_verdictOf 172 = .ok (.iload 9, 2) := by decide +kernel
theorem dX10_verdictOf_174 : decode cX10_verdictOf 174 = .ok (.ifCond .eq 7, 3) := by decide +kernel
theorem dX10_verdictOf_177 : decode cX10_verdictOf 177 = .ok (.iconst 1, 1) := by decide +kernel
theorem dX10_verdictOf_178 : decode cX10_verdictOf 178 = .ok (.goto 4, 3) := by decide +kernel
theorem dX10_verdictOf_181 : decode cX10_verdictOf 181 = .ok (.iconst 0, 1) := by decide +kernel
theorem dX10_verdictOf_182 : decode cX10_verdictOf 182 = .ok (.istore 5, 2) := by decide +kernel
theorem dX10_verdictOf_184 : decode cX10_verdictOf 184 = .ok (.iload 7, 2) := by decide +kernel
theorem dX10_verdictOf_186 : decode cX10_verdictOf 186 = .ok (.ifCond .eq 35, 3) := by decide +kernel
theorem dX10_verdictOf_189 : decode cX10_verdictOf 189 = .ok (.aload_n 0, 1) := by decide +kernel
theorem dX10_verdictOf_190 : decode cX10_verdictOf 190 = .ok (.iload_n 1, 1) := by decide +kernel
theorem dX10_verdictOf_191 : decode cX10_verdictOf 191 = .ok (.iload 8, 2) := by decide +kernel
theorem dX10_verdictOf_193 : decode cX10_verdictOf 193 = .ok (.invokevirtual 265, 3) := by decide +kernel
theorem dX10_verdictOf_196 : decode cX10_verdictOf 196 = .ok (.aload_n 0, 1) := by decide +kernel
theorem dX10_verdictOf_197 : decode cX10_verdictOf 197 = .ok (.iload_n 1, 1) := by decide +kernel
theorem dX10_verdictOf_198 : decode cX10_verdictOf 198 = .ok (.iload 10, 2) := by decide +kernel
theorem dX10_verdictOf_200 : decode cX10_verdictOf 200 = .ok (.invokevirtual 265, 3) := by decide +kernel
theorem dX10_verdictOf_203 : decode cX10_verdictOf 203 = .ok (.isub, 1) := by decide +kernel
theorem dX10_verdictOf_204 : decode cX10_verdictOf 204 = .ok (.invokestatic 268, 3) := by decide +kernel
theorem dX10_verdictOf_207 : decode cX10_verdictOf 207 = .ok (.aload_n 0, 1) := by decide +kernel
theorem dX10_verdictOf_208 : decode cX10_verdictOf 208 = .ok (.iload_n 1, 1) := by decide +kernel
theorem dX10_verdictOf_209 : decode cX10_verdictOf 209 = .ok (.iload 8, 2) := by decide +kernel
theorem dX10_verdictOf_211 : decode cX10_verdictOf 211 = .ok (.invokevirtual 271, 3) := by decide +kernel
theorem dX10_verdictOf_214 : decode cX10_verdictOf 214 = .ok (.if_icmp .gt 7, 3) := by decide +kernel
theorem dX10_verdictOf_217 : decode cX10_verdictOf 217 = .ok (.iconst 1, 1) := by decide +kernel
theorem dX10_verdictOf_218 : decode cX10_verdictOf 218 = .ok (.goto 4, 3) := by decide +kernel
theorem dX10_verdictOf_221 : decode cX10_verdictOf 221 = .ok (.iconst 0, 1) := by decide +kernel
theorem dX10_verdictOf_222 : decode cX10_verdictOf 222 = .ok (.istore 7, 2) := by decide +kernel
theorem dX10_verdictOf_224 : decode cX10_verdictOf 224 = .ok (.iinc 10 1, 3) := by decide +kernel
theorem dX10_verdictOf_227 : decode cX10_verdictOf 227 = .ok (.goto (-88), 3) := by decide +kernel
theorem dX10_verdictOf_230 : decode cX10_verdictOf 230 = .ok (.iinc 8 1, 3) := by decide +kernel
theorem dX10_verdictOf_233 : decode cX10_verdictOf 233 = .ok (.goto (-216), 3) := by decide +kernel
theorem dX10_verdictOf_236 : decode cX10_verdictOf 236 = .ok (.iload_n 3, 1) := by decide +kernel
theorem dX10_verdictOf_237 : decode cX10_verdictOf 237 = .ok (.ifCond .ne 7, 3) := by decide +kernel
theorem dX10_verdictOf_240 : decode cX10_verdictOf 240 = .ok (.iconst 1, 1) := by decide +kernel
theorem dX10_verdictOf_241 : decode cX10_verdictOf 241 = .ok (.goto 40, 3) := by decide +kernel
theorem dX10_verdictOf_244 : decode cX10_verdictOf 244 = .ok (.iload 4, 2) := by decide +kernel
theorem dX10_verdictOf_246 : decode cX10_verdictOf 246 = .ok (.ifCond .ne 7, 3) := by decide +kernel
theorem dX10_verdictOf_249 : decode cX10_verdictOf 249 = .ok (.iconst 2, 1) := by decide +kernel
theorem dX10_verdictOf_250 : decode cX10_verdictOf 250 = .ok (.goto 31, 3) := by decide +kernel
theorem dX10_verdictOf_253 : decode cX10_verdictOf 253 = .ok (.iload 5, 2) := by decide +kernel
theorem dX10_verdictOf_255 : decode cX10_verdictOf 255 = .ok (.ifCond .ne 7, 3) := by decide +kernel
theorem dX10_verdictOf_258 : decode cX10_verdictOf 258 = .ok (.iconst 3, 1) := by decide +kernel
theorem dX10_verdictOf_259 : decode cX10_verdictOf 259 = .ok (.goto 22, 3) := by decide +kernel
theorem dX10_verdictOf_262 : decode cX10_verdictOf 262 = .ok (.iload 6, 2) := by decide +kernel
theorem dX10_verdictOf_264 : decode cX10_verdictOf 264 = .ok (.ifCond .ne 7, 3) := by decide +kernel
theorem dX10_verdictOf_267 : decode cX10_verdictOf 267 = .ok (.iconst 4, 1) := by decide +kernel
theorem dX10_verdictOf_268 : decode cX10_verdictOf 268 = .ok (.goto 13, 3) := by decide +kernel
theorem dX10_verdictOf_271 : decode cX10_verdictOf 271 = .ok (.iload 7, 2) := by decide +kernel
theorem dX10_verdictOf_273 : decode cX10_verdictOf 273 = .ok (.ifCond .ne 7, 3) := by decide +kernel
theorem dX10_verdictOf_276 : decode cX10_verdictOf 276 = .ok (.iconst 5, 1) := by decide +kernel
theorem dX10_verdictOf_277 : decode cX10_verdictOf 277 = .ok (.goto 4, 3) := by decide +kernel
theorem dX10_verdictOf_280 : decode cX10_verdictOf 280 = .ok (.iconst 0, 1) := by decide +kernel
theorem dX10_verdictOf_281 : decode cX10_verdictOf 281 = .ok (.ireturn, 1) := by decide +kernel
theorem dX10_verdict_0 : decode cX10_verdict 0 = .ok (.aload_n 0, 1) := by decide +kernel
theorem dX10_verdict_1 : decode cX10_verdict 1 = .ok (.iconst 0, 1) := by decide +kernel
theorem dX10_verdict_2 : decode cX10_verdict 2 = .ok (.putfield 1, 3) := by decide +kernel
theorem dX10_verdict_5 : decode cX10_verdict 5 = .ok (.aload_n 0, 1) := by decide +kernel
theorem dX10_verdict_6 : decode cX10_verdict 6 = .ok (.iload_n 1, 1) := by decide +kernel
theorem dX10_verdict_7 : decode cX10_verdict 7 = .ok (.invokevirtual 252, 3) := by decide +kernel
theorem dX10_verdict_10 : decode cX10_verdict 10 = .ok (.ifCond .eq 12, 3) := by decide +kernel
theorem dX10_verdict_13 : decode cX10_verdict 13 = .ok (.aload_n 0, 1) := by decide +kernel
theorem dX10_verdict_14 : decode cX10_verdict 14 = .ok (.iload_n 1, 1) := by decide +kernel
theorem dX10_verdict_15 : decode cX10_verdict 15 = .ok (.iconst 0, 1) := by decide +kernel
theorem dX10_verdict_16 : decode cX10_verdict 16 = .ok (.invokevirtual 274, 3) := by decide +kernel
theorem dX10_verdict_19 : decode cX10_verdict 19 = .ok (.goto 4, 3) := by decide +kernel
theorem dX10_verdict_22 : decode cX10_verdict 22 = .ok (.iconst (-1), 1) := by decide +kernel
theorem dX10_verdict_23 : decode cX10_verdict 23 = .ok (.ireturn, 1) := by decide +kernel
theorem dX10_adjustmentOf_0 : decode cX10_adjustmentOf 0 = .ok (.aload_n 0, 1) := by decide +kernel
theorem dX10_adjustmentOf_1 : decode cX10_adjustmentOf 1 = .ok (.iload_n 1, 1) := by decide +kernel
theorem dX10_adjustmentOf_2 : decode cX10_adjustmentOf 2 = .ok (.iconst 0, 1) := by decide +kernel
theorem dX10_adjustmentOf_3 : decode cX10_adjustmentOf 3 = .ok (.invokevirtual 265, 3) := by decide +kernel
theorem dX10_adjustmentOf_6 : decode cX10_adjustmentOf 6 = .ok (.istore_n 2, 1) := by decide +kernel
theorem dX10_adjustmentOf_7 : decode cX10_adjustmentOf 7 = .ok (.iload_n 2, 1) := by decide +kernel
theorem dX10_adjustmentOf_8 : decode cX10_adjustmentOf 8 = .ok (.istore_n 3, 1) := by decide +kernel
theorem dX10_adjustmentOf_9 : decode cX10_adjustmentOf 9 = .ok (.iconst 1, 1) := by decide +kernel
theorem dX10_adjustmentOf_10 : decode cX10_adjustmentOf 10 = .ok (.istore 4, 2) := by decide +kernel
theorem dX10_adjustmentOf_12 : decode cX10_adjustmentOf 12 = .ok (.iload 4, 2) := by decide +kernel
theorem dX10_adjustmentOf_14 : decode cX10_adjustmentOf 14 = .ok (.aload_n 0, 1) := by decide +kernel
theorem dX10_adjustmentOf_15 : decode cX10_adjustmentOf 15 = .ok (.getfield 13, 3) := by decide +kernel
theorem dX10_adjustmentOf_18 : decode cX10_adjustmentOf 18 = .ok (.sipush 151, 3) := by decide +kernel
theorem dX10_adjustmentOf_21 : decode cX10_adjustmentOf 21 = .ok (.iload_n 1, 1) := by decide +kernel
theorem dX10_adjustmentOf_22 : decode cX10_adjustmentOf 22 = .ok (.iadd, 1) := by decide +kernel
theorem dX10_adjustmentOf_23 : decode cX10_adjustmentOf 23 = .ok (.iaload, 1) := by decide +kernel
theorem dX10_adjustmentOf_24 : decode cX10_adjustmentOf 24 = .ok (.if_icmp .ge 44, 3) := by decide +kernel
theorem dX10_adjustmentOf_27 : decode cX10_adjustmentOf 27 = .ok (.aload_n 0, 1) := by decide +kernel
theorem dX10_adjustmentOf_28 : decode cX10_adjustmentOf 28 = .ok (.iload_n 1, 1) := by decide +kernel
theorem dX10_adjustmentOf_29 : decode cX10_adjustmentOf 29 = .ok (.iload 4, 2) := by decide +kernel
theorem dX10_adjustmentOf_31 : decode cX10_adjustmentOf 31 = .ok (.invokevirtual 265, 3) := by decide +kernel
theorem dX10_adjustmentOf_34 : decode cX10_adjustmentOf 34 = .ok (.istore 5, 2) := by decide +kernel
theorem dX10_adjustmentOf_36 : decode cX10_adjustmentOf 36 = .ok (.iload 5, 2) := by decide +kernel
theorem dX10_adjustmentOf_38 : decode cX10_adjustmentOf 38 = .ok (.iload_n 2, 1) := by decide +kernel
theorem dX10_adjustmentOf_39 : decode cX10_adjustmentOf 39 = .ok (.if_icmp .ge 8, 3) := by decide +kernel
theorem dX10_adjustmentOf_42 : decode cX10_adjustmentOf 42 = .ok (.iload 5, 2) := by decide +kernel
theorem dX10_adjustmentOf_44 : decode cX10_adjustmentOf 44 = .ok (.goto 4, 3) := by decide +kernel
theorem dX10_adjustmentOf_47 : decode cX10_adjustmentOf 47 = .ok (.iload_n 2, 1) := by decide +kernel
theorem dX10_adjustmentOf_48 : decode cX10_adjustmentOf 48 = .ok (.istore_n 2, 1) := by decide +kernel
theorem dX10_adjustmentOf_49 : decode cX10_adjustmentOf 49 = .ok (.iload 5, 2) := by decide +kernel
theorem dX10_adjustmentOf_51 : decode cX10_adjustmentOf 51 = .ok (.iload_n 3, 1) := by decide +kernel
theorem dX10_adjustmentOf_52 : decode cX10_adjustmentOf 52 = .ok (.if_icmp .le 8, 3) := by decide +kernel
theorem dX10_adjustmentOf_55 : decode cX10_adjustmentOf 55 = .ok (.iload 5, 2) := by decide +kernel
theorem dX10_adjustmentOf_57 : decode cX10_adjustmentOf 57 = .ok (.goto 4, 3) := by decide +kernel
theorem dX10_adjustmentOf_60 : decode cX10_adjustmentOf 60 = .ok (.iload_n 3, 1) := by decide +kernel
theorem dX10_adjustmentOf_61 : decode cX10_adjustmentOf 61 = .ok (.istore_n 3, 1) := by decide +kernel
theorem dX10_adjustmentOf_62 : decode cX10_adjustmentOf 62 = .ok (.iinc 4 1, 3) := by decide +kernel
theorem dX10_adjustmentOf_65 : decode cX10_adjustmentOf 65 = .ok (.goto (-53), 3) := by decide +kernel
theorem dX10_adjustmentOf_68 : decode cX10_adjustmentOf 68 = .ok (.iload_n 2, 1) := by decide +kernel
theorem dX10_adjustmentOf_69 : decode cX10_adjustmentOf 69 = .ok (.iload_n 3, 1) := by decide +kernel
theorem dX10_adjustmentOf_70 : decode cX10_adjustmentOf 70 = .ok (.iadd, 1) := by decide +kernel
theorem dX10_adjustmentOf_71 : decode cX10_adjustmentOf 71 = .ok (.iconst 1, 1) := by decide +kernel
theorem dX10_adjustmentOf_72 : decode cX10_adjustmentOf 72 = .ok (.ishr, 1) := by decide +kernel
theorem dX10_adjustmentOf_73 : decode cX10_adjustmentOf 73 = .ok (.ireturn, 1) := by decide +kernel
theorem dX10_adjustment_0 : decode cX10_adjustment 0 = .ok (.aload_n 0, 1) := by decide +kernel
theorem dX10_adjustment_1 : decode cX10_adjustment 1 = .ok (.aload_n 0, 1) := by decide +kernel
theorem dX10_adjustment_2 : decode cX10_adjustment 2 = .ok (.iload_n 1, 1) := by decide +kernel
theorem dX10_adjustment_3 : decode cX10_adjustment 3 = .ok (.invokevirtual 252, 3) := by decide +kernel
theorem dX10_adjustment_6 : decode cX10_adjustment 6 = .ok (.ifCond .ne 7, 3) := by decide +kernel
theorem dX10_adjustment_9 : decode cX10_adjustment 9 = .ok (.iconst 1, 1) := by decide +kernel
theorem dX10_adjustment_10 : decode cX10_adjustment 10 = .ok (.goto 21, 3) := by decide +kernel
theorem dX10_adjustment_13 : decode cX10_adjustment 13 = .ok (.aload_n 0, 1) := by decide +kernel
theorem dX10_adjustment_14 : decode cX10_adjustment 14 = .ok (.getfield 13, 3) := by decide +kernel
theorem dX10_adjustment_17 : decode cX10_adjustment 17 = .ok (.sipush 151, 3) := by decide +kernel
theorem dX10_adjustment_20 : decode cX10_adjustment 20 = .ok (.iload_n 1, 1) := by decide +kernel
theorem dX10_adjustment_21 : decode cX10_adjustment 21 = .ok (.iadd, 1) := by decide +kernel
theorem dX10_adjustment_22 : decode cX10_adjustment 22 = .ok (.iaload, 1) := by decide +kernel
theorem dX10_adjustment_23 : decode cX10_adjustment 23 = .ok (.ifCond .ne 7, 3) := by decide +kernel
theorem dX10_adjustment_26 : decode cX10_adjustment 26 = .ok (.iconst 2, 1) := by decide +kernel
theorem dX10_adjustment_27 : decode cX10_adjustment 27 = .ok (.goto 4, 3) := by decide +kernel
theorem dX10_adjustment_30 : decode cX10_adjustment 30 = .ok (.iconst 0, 1) := by decide +kernel
theorem dX10_adjustment_31 : decode cX10_adjustment 31 = .ok (.putfield 1, 3) := by decide +kernel
theorem dX10_adjustment_34 : decode cX10_adjustment 34 = .ok (.aload_n 0, 1) := by decide +kernel
theorem dX10_adjustment_35 : decode cX10_adjustment 35 = .ok (.getfield 1, 3) := by decide +kernel
theorem dX10_adjustment_38 : decode cX10_adjustment 38 = .ok (.ifCond .le 7, 3) := by decide +kernel
theorem dX10_adjustment_41 : decode cX10_adjustment 41 = .ok (.iconst 0, 1) := by decide +kernel
theorem dX10_adjustment_42 : decode cX10_adjustment 42 = .ok (.goto 8, 3) := by decide +kernel
theorem dX10_adjustment_45 : decode cX10_adjustment 45 = .ok (.aload_n 0, 1) := by decide +kernel
theorem dX10_adjustment_46 : decode cX10_adjustment 46 = .ok (.iload_n 1, 1) := by decide +kernel
theorem dX10_adjustment_47 : decode cX10_adjustment 47 = .ok (.invokevirtual 277, 3) := by decide +kernel
theorem dX10_adjustment_50 : decode cX10_adjustment 50 = .ok (.ireturn, 1) := by decide +kernel
theorem dX10_adjustedVerdict_0 : decode cX10_adjustedVerdict 0 = .ok (.aload_n 0, 1) := by decide +kernel
theorem dX10_adjustedVerdict_1 : decode cX10_adjustedVerdict 1 = .ok (.iconst 0, 1) := by decide +kernel
theorem dX10_adjustedVerdict_2 : decode cX10_adjustedVerdict 2 = .ok (.putfield 1, 3) := by decide +kernel
theorem dX10_adjustedVerdict_5 : decode cX10_adjustedVerdict 5 = .ok (.aload_n 0, 1) := by decide +kernel
theorem dX10_adjustedVerdict_6 : decode cX10_adjustedVerdict 6 = .ok (.iload_n 1, 1) := by decide +kernel
theorem dX10_adjustedVerdict_7 : decode cX10_adjustedVerdict 7 = .ok (.invokevirtual 252, 3) := by decide +kernel
theorem dX10_adjustedVerdict_10 : decode cX10_adjustedVerdict 10 = .ok (.ifCond .ne 5, 3) := by decide +kernel
theorem dX10_adjustedVerdict_13 : decode cX10_adjustedVerdict 13 = .ok (.iconst (-1), 1) := by decide +kernel
theorem dX10_adjustedVerdict_14 : decode cX10_adjustedVerdict 14 = .ok (.ireturn, 1) := by decide +kernel
theorem dX10_adjustedVerdict_15 : decode cX10_adjustedVerdict 15 = .ok (.aload_n 0, 1) := by decide +kernel
theorem dX10_adjustedVerdict_16 : decode cX10_adjustedVerdict 16 = .ok (.getfield 13, 3) := by decide +kernel
theorem dX10_adjustedVerdict_19 : decode cX10_adjustedVerdict 19 = .ok (.sipush 151, 3) := by decide +kernel
theorem dX10_adjustedVerdict_22 : decode cX10_adjustedVerdict 22 = .ok (.iload_n 1, 1) := by decide +kernel
theorem dX10_adjustedVerdict_23 : decode cX10_adjustedVerdict 23 = .ok (.iadd, 1) := by decide +kernel
theorem dX10_adjustedVerdict_24 : decode cX10_adjustedVerdict 24 = .ok (.iaload, 1) := by decide +kernel
theorem dX10_adjustedVerdict_25 : decode cX10_adjustedVerdict 25 = .ok (.ifCond .ne 7, 3) := by decide +kernel
theorem dX10_adjustedVerdict_28 : decode cX10_adjustedVerdict 28 = .ok (.iconst 1, 1) := by decide +kernel
theorem dX10_adjustedVerdict_29 : decode cX10_adjustedVerdict 29 = .ok (.goto 13, 3) := by decide +kernel
theorem dX10_adjustedVerdict_32 : decode cX10_adjustedVerdict 32 = .ok (.aload_n 0, 1) := by decide +kernel
theorem dX10_adjustedVerdict_33 : decode cX10_adjustedVerdict 33 = .ok (.iload_n 1, 1) := by decide +kernel
theorem dX10_adjustedVerdict_34 : decode cX10_adjustedVerdict 34 = .ok (.aload_n 0, 1) := by decide +kernel
theorem dX10_adjustedVerdict_35 : decode cX10_adjustedVerdict 35 = .ok (.iload_n 1, 1) := by decide +kernel
theorem dX10_adjustedVerdict_36 : decode cX10_adjustedVerdict 36 = .ok (.invokevirtual 277, 3) := by decide +kernel
theorem dX10_adjustedVerdict_39 : decode cX10_adjustedVerdict 39 = .ok (.invokevirtual 274, 3) := by decide +kernel
theorem dX10_adjustedVerdict_42 : decode cX10_adjustedVerdict 42 = .ok (.ireturn, 1) := by decide +kernel
theorem dX10_closeVisit_0 : decode cX10_closeVisit 0 = .ok (.aload_n 0, 1) := by decide +kernel
theorem dX10_closeVisit_1 : decode cX10_closeVisit 1 = .ok (.iconst 0, 1) := by decide +kernel
theorem dX10_closeVisit_2 : decode cX10_closeVisit 2 = .ok (.putfield 1, 3) := by decide +kernel
theorem dX10_closeVisit_5 : decode cX10_closeVisit 5 = .ok (.aload_n 0, 1) := by decide +kernel
theorem dX10_closeVisit_6 : decode cX10_closeVisit 6 = .ok (.iload_n 1, 1) := by decide +kernel
theorem dX10_closeVisit_7 : decode cX10_closeVisit 7 = .ok (.invokevirtual 252, 3) := by decide +kernel
theorem dX10_closeVisit_10 : decode cX10_closeVisit 10 = .ok (.ifCond .ne 5, 3) := by decide +kernel
theorem dX10_closeVisit_13 : decode cX10_closeVisit 13 = .ok (.iconst (-1), 1) := by decide +kernel
theorem dX10_closeVisit_14 : decode cX10_closeVisit 14 = .ok (.ireturn, 1) := by decide +kernel
theorem dX10_closeVisit_15 : decode cX10_closeVisit 15 = .ok (.aload_n 0, 1) := by decide +kernel
theorem dX10_closeVisit_16 : decode cX10_closeVisit 16 = .ok (.getfield 13, 3) := by decide +kernel
theorem dX10_closeVisit_19 : decode cX10_closeVisit 19 = .ok (.bipush 61, 2) := by decide +kernel
theorem dX10_closeVisit_21 : decode cX10_closeVisit 21 = .ok (.iload_n 1, 1) := by decide +kernel
theorem dX10_closeVisit_22 : decode cX10_closeVisit 22 = .ok (.iadd, 1) := by decide +kernel
theorem dX10_closeVisit_23 : decode cX10_closeVisit 23 = .ok (.iaload, 1) := by decide +kernel
theorem dX10_closeVisit_24 : decode cX10_closeVisit 24 = .ok (.iconst 1, 1) := by decide +kernel
theorem dX10_closeVisit_25 : decode cX10_closeVisit 25 = .ok (.if_icmp .ne 6, 3) := by decide +kernel
theorem dX10_closeVisit_28 : decode cX10_closeVisit 28 = .ok (.bipush (-2), 2) := by decide +kernel
theorem dX10_closeVisit_30 : decode cX10_closeVisit 30 = .ok (.ireturn, 1) := by decide +kernel
theorem dX10_closeVisit_31 : decode cX10_closeVisit 31 = .ok (.aload_n 0, 1) := by decide +kernel
theorem dX10_closeVisit_32 : decode cX10_closeVisit 32 = .ok (.invokevirtual 249, 3) := by decide +kernel
theorem dX10_closeVisit_35 : decode cX10_closeVisit 35 = .ok (.aload_n 0, 1) := by decide +kernel
theorem dX10_closeVisit_36 : decode cX10_closeVisit 36 = .ok (.getfield 13, 3) := by decide +kernel
theorem dX10_closeVisit_39 : decode cX10_closeVisit 39 = .ok (.bipush 61, 2) := by decide +kernel
theorem dX10_closeVisit_41 : decode cX10_closeVisit 41 = .ok (.iload_n 1, 1) := by decide +kernel
theorem dX10_closeVisit_42 : decode cX10_closeVisit 42 = .ok (.iadd, 1) := by decide +kernel
theorem dX10_closeVisit_43 : decode cX10_closeVisit 43 = .ok (.iconst 1, 1) := by decide +kernel
theorem dX10_closeVisit_44 : decode cX10_closeVisit 44 = .ok (.iastore, 1) := by decide +kernel
theorem dX10_closeVisit_45 : decode cX10_closeVisit 45 = .ok (.aload_n 0, 1) := by decide +kernel
theorem dX10_closeVisit_46 : decode cX10_closeVisit 46 = .ok (.getfield 13, 3) := by decide +kernel
theorem dX10_closeVisit_49 : decode cX10_closeVisit 49 = .ok (.bipush 91, 2) := by decide +kernel
theorem dX10_closeVisit_51 : decode cX10_closeVisit 51 = .ok (.iload_n 1, 1) := by decide +kernel
theorem dX10_closeVisit_52 : decode cX10_closeVisit 52 = .ok (.iadd, 1) := by decide +kernel
theorem dX10_closeVisit_53 : decode cX10_closeVisit 53 = .ok (.aload_n 0, 1) := by decide +kernel
theorem dX10_closeVisit_54 : decode cX10_closeVisit 54 = .ok (.iload_n 1, 1) := by decide +kernel
theorem dX10_closeVisit_55 : decode cX10_closeVisit 55 = .ok (.iconst 0, 1) := by decide +kernel
theorem dX10_closeVisit_56 : decode cX10_closeVisit 56 = .ok (.invokevirtual 274, 3) := by decide +kernel
theorem dX10_closeVisit_59 : decode cX10_closeVisit 59 = .ok (.iastore, 1) := by decide +kernel
theorem dX10_closeVisit_60 : decode cX10_closeVisit 60 = .ok (.aload_n 0, 1) := by decide +kernel
theorem dX10_closeVisit_61 : decode cX10_closeVisit 61 = .ok (.getfield 13, 3) := by decide +kernel
theorem dX10_closeVisit_64 : decode cX10_closeVisit 64 = .ok (.bipush 91, 2) := by decide +kernel
theorem dX10_closeVisit_66 : decode cX10_closeVisit 66 = .ok (.iload_n 1, 1) := by decide +kernel
theorem dX10_closeVisit_67 : decode cX10_closeVisit 67 = .ok (.iadd, 1) := by decide +kernel
theorem dX10_closeVisit_68 : decode cX10_closeVisit 68 = .ok (.iaload, 1) := by decide +kernel
theorem dX10_closeVisit_69 : decode cX10_closeVisit 69 = .ok (.ireturn, 1) := by decide +kernel
theorem dX10_isClosed_0 : decode cX10_isClosed 0 = .ok (.aload_n 0, 1) := by decide +kernel
theorem dX10_isClosed_1 : decode cX10_isClosed 1 = .ok (.iconst 0, 1) := by decide +kernel
theorem dX10_isClosed_2 : decode cX10_isClosed 2 = .ok (.putfield 1, 3) := by decide +kernel
theorem dX10_isClosed_5 : decode cX10_isClosed 5 = .ok (.aload_n 0, 1) := by decide +kernel
theorem dX10_isClosed_6 : decode cX10_isClosed 6 = .ok (.iload_n 1, 1) := by decide +kernel
theorem dX10_isClosed_7 : decode cX10_isClosed 7 = .ok (.invokevirtual 252, 3) := by decide +kernel
theorem dX10_isClosed_10 : decode cX10_isClosed 10 = .ok (.ifCond .eq 15, 3) := by decide +kernel
theorem dX10_isClosed_13 : decode cX10_isClosed 13 = .ok (.aload_n 0, 1) := by decide +kernel
theorem dX10_isClosed_14 : decode cX10_isClosed 14 = .ok (.getfield 13, 3) := by decide +kernel
theorem dX10_isClosed_17 : decode cX10_isClosed 17 = .ok (.bipush 61, 2) := by decide +kernel
theorem dX10_isClosed_19 : decode cX10_isClosed 19 = .ok (.iload_n 1, 1) := by decide +kernel
theorem dX10_isClosed_20 : decode cX10_isClosed 20 = .ok (.iadd, 1) := by decide +kernel
theorem dX10_isClosed_21 : decode cX10_isClosed 21 = .ok (.iaload, 1) := by decide +kernel
theorem dX10_isClosed_22 : decode cX10_isClosed 22 = .ok (.goto 4, 3) := by decide +kernel
theorem dX10_isClosed_25 : decode cX10_isClosed 25 = .ok (.iconst (-1), 1) := by decide +kernel
theorem dX10_isClosed_26 : decode cX10_isClosed 26 = .ok (.ireturn, 1) := by decide +kernel
def f_X10_errorPosition (F : Nat) (S : si_St) : Option (Int32 × si_St) :=
  Option.bind (si_pt S 87 0 0) fun S1 => some ((S1.1 87 22), S1)
def f_X10_traderCount (F : Nat) (S : si_St) : Option (Int32 × si_St) :=
  Option.bind (si_pt S 87 0 0) fun S1 => some ((S1.1 87 2), S1)
def f_X10_scaleCount (F : Nat) (S : si_St) : Option (Int32 × si_St) :=
  Option.bind (si_pt S 87 0 0) fun S1 => some ((S1.1 87 3), S1)
def f_X10_massCount (F : Nat) (S : si_St) : Option (Int32 × si_St) :=
  Option.bind (si_pt S 87 0 0) fun S1 => some ((S1.1 87 8), S1)
def f_X10_setCount (F : Nat) (S : si_St) : Option (Int32 × si_St) :=
  Option.bind (si_pt S 87 0 0) fun S1 => some ((S1.1 87 10), S1)
def f_X10_isScale (F : Nat) (x1 : Int32) (S : si_St) : Option (Int32 × si_St) :=
  Option.bind (f_X10_within F (Int32.toInt64 x1) (0 : Int64) (Int32.toInt64 ((S.1 87 3) - 1)) S) fun q1 => Option.bind (si_bz q1.1) fun v2 => some (v2, q1.2)
def f_X10_trader_h23 (F : Nat) (t0 : Int32) (S : si_St) : Option (Int32 × si_St) :=
  some (t0, S)
def f_X10_trader (F : Nat) (x1 : Int32) (S : si_St) : Option (Int32 × si_St) :=
  Option.bind (si_pt S 87 0 0) fun S1 => Option.bind (f_X10_isScale F x1 S1) fun q2 => if q2.1 = 0 then (f_X10_trader_h23 F (-1) q2.2) else (Option.bind (si_rd q2.2 89 x1) fun v3 => f_X10_trader_h23 F v3 q2.2)
def f_X10_capacity_h23 (F : Nat) (t0 : Int32) (S : si_St) : Option (Int32 × si_St) :=
  some (t0, S)
def f_X10_capacity (F : Nat) (x1 : Int32) (S : si_St) : Option (Int32 × si_St) :=
  Option.bind (si_pt S 87 0 0) fun S1 => Option.bind (f_X10_isScale F x1 S1) fun q2 => if q2.1 = 0 then (f_X10_capacity_h23 F (-1) q2.2) else (Option.bind (si_rd q2.2 92 x1) fun v3 => f_X10_capacity_h23 F v3 q2.2)
def f_X10_base_h79 (F : Nat) (t0 : Int32) (S : si_St) : Option (Int32 × si_St) :=
  some (t0, S)
def f_X10_base_h40 (F : Nat) (x2 : Int32) (x3 : Int32) (t0 : Int32) (S : si_St) : Option (Int32 × si_St) :=
  if (t0 * x3) < x2 then (if ((4 * t0) * x3) < x2 then (f_X10_base_h79 F (((3 * x3) + 1) / 2) S) else (f_X10_base_h79 F x3 S)) else (f_X10_base_h79 F ((x3 + 1) / 2) S)
def f_X10_base (F : Nat) (x1 : Int32) (x2 : Int32) (S : si_St) : Option (Int32 × si_St) :=
  Option.bind (si_rd S 91 x1) fun v1 => Option.bind (si_rd S 90 x1) fun v2 => if v2 = 0 then (f_X10_base_h40 F x2 v1 5000 S) else (Option.bind (si_rd S 90 x1) fun v3 => if v3 = 1 then (f_X10_base_h40 F x2 v1 500 S) else (f_X10_base_h40 F x2 v1 50 S))
def f_X10_baseTolerance_h54 (F : Nat) (t0 : Int32) (S : si_St) : Option (Int32 × si_St) :=
  some (t0, S)
def f_X10_baseTolerance_h34 (F : Nat) (x1 : Int32) (x2 : Int32) (t0 : Int32) (S : si_St) : Option (Int32 × si_St) :=
  Option.bind (si_pt S 87 0 t0) fun S1 => if (S1.1 87 0) ≤ 0 then (Option.bind (f_X10_base F x1 x2 S1) fun q2 => f_X10_baseTolerance_h54 F q2.1 q2.2) else (f_X10_baseTolerance_h54 F 0 S1)
def f_X10_baseTolerance (F : Nat) (x1 : Int32) (x2 : Int32) (S : si_St) : Option (Int32 × si_St) :=
  Option.bind (f_X10_isScale F x1 S) fun q3 => if q3.1 = 0 then (f_X10_baseTolerance_h34 F x1 x2 1 q3.2) else (Option.bind (si_rd q3.2 92 x1) fun v4 => Option.bind (f_X10_within F (Int32.toInt64 x2) (0 : Int64) (Int32.toInt64 v4) q3.2) fun q5 => if q5.1 = 0 then (f_X10_baseTolerance_h34 F x1 x2 2 q5.2) else (f_X10_baseTolerance_h34 F x1 x2 0 q5.2))
def f_X10_massValue_h31 (F : Nat) (t0 : Int32) (S : si_St) : Option (Int32 × si_St) :=
  some (t0, S)
def f_X10_massValue (F : Nat) (x1 : Int32) (S : si_St) : Option (Int32 × si_St) :=
  Option.bind (si_pt S 87 0 0) fun S1 => Option.bind (f_X10_within F (Int32.toInt64 x1) (0 : Int64) (Int32.toInt64 ((S1.1 87 8) - 1)) S1) fun q2 => if q2.1 = 0 then (f_X10_massValue_h31 F (-1) q2.2) else (Option.bind (si_rd q2.2 93 x1) fun v3 => f_X10_massValue_h31 F v3 q2.2)
def f_X10_sumOf_h32 (F : Nat) (r4 : Int32 → Int32 → Int32 → si_St → Option (Int32 × si_St)) (x1 : Int32) (x3 : Int32) (t0 : Int32) (t1 : Int32) (S : si_St) : Option (Int32 × si_St) :=
  Option.bind (some (t1 + t0)) fun v1 => Option.bind (some (x3 + 1)) fun v2 => r4 x1 v1 v2 S
def f_X10_sumOf_h4 (F : Nat) (r4 : Int32 → Int32 → Int32 → si_St → Option (Int32 × si_St)) (x1 : Int32) (x2 : Int32) (x3 : Int32) (S : si_St) : Option (Int32 × si_St) :=
  if (S.1 87 8) ≤ x3 then (some (x2, S)) else (if ((x1 >>> (x3 &&& 31)) &&& 1) = 1 then (Option.bind (si_rd S 93 x3) fun v3 => f_X10_sumOf_h32 F r4 x1 x3 v3 x2 S) else (f_X10_sumOf_h32 F r4 x1 x3 0 x2 S))
def f_X10_sumOf_l4 (F : Nat) : Nat → Int32 → Int32 → Int32 → si_St → Option (Int32 × si_St)
 | 0 => fun _ _ _ _ => none
 | n + 1 => fun x1 x2 x3 S => f_X10_sumOf_h4 F (f_X10_sumOf_l4 F n) x1 x2 x3 S
def f_X10_sumOf (F : Nat) (x1 : Int32) (S : si_St) : Option (Int32 × si_St) :=
  f_X10_sumOf_l4 F F x1 0 0 S
def f_X10_fewestMasses_h54 (F : Nat) (r16 : Int32 → Int32 → Int32 → si_St → Option (Int32 × si_St)) (x1 : Int32) (x2 : Int32) (x3 : Int32) (S : si_St) : Option (Int32 × si_St) :=
  Option.bind (some (x3 + 1)) fun v1 => r16 x1 x2 v1 S
def f_X10_fewestMasses_h52 (F : Nat) (r16 : Int32 → Int32 → Int32 → si_St → Option (Int32 × si_St)) (x1 : Int32) (x3 : Int32) (S : si_St) : Option (Int32 × si_St) :=
  f_X10_fewestMasses_h54 F r16 x1 x3 x3 S
def f_X10_fewestMasses_h16 (F : Nat) (r16 : Int32 → Int32 → Int32 → si_St → Option (Int32 × si_St)) (x1 : Int32) (x2 : Int32) (x3 : Int32) (S : si_St) : Option (Int32 × si_St) :=
  if (1 <<< ((S.1 87 8) &&& 31)) ≤ x3 then (some (x2, S)) else (Option.bind (f_X10_sumOf F x3 S) fun q2 => if q2.1 = x1 then (if x2 = (-2) then (f_X10_fewestMasses_h52 F r16 x1 x3 q2.2) else (Option.bind (f_X10_bits F x3 q2.2) fun q3 => Option.bind (f_X10_bits F x2 q3.2) fun q4 => if q4.1 ≤ q3.1 then (f_X10_fewestMasses_h54 F r16 x1 x2 x3 q4.2) else (f_X10_fewestMasses_h52 F r16 x1 x3 q4.2))) else (f_X10_fewestMasses_h54 F r16 x1 x2 x3 q2.2))
def f_X10_fewestMasses_l16 (F : Nat) : Nat → Int32 → Int32 → Int32 → si_St → Option (Int32 × si_St)
 | 0 => fun _ _ _ _ => none
 | n + 1 => fun x1 x2 x3 S => f_X10_fewestMasses_h16 F (f_X10_fewestMasses_l16 F n) x1 x2 x3 S
def f_X10_fewestMasses (F : Nat) (x1 : Int32) (S : si_St) : Option (Int32 × si_St) :=
  Option.bind (si_pt S 87 0 0) fun S5 => if 0 ≤ x1 then (f_X10_fewestMasses_l16 F F x1 (-2) 0 S5) else (some ((-1), S5))
def f_X10_closestLoad_h50 (F : Nat) (r15 : Int32 → Int32 → Int32 → si_St → Option (Int32 × si_St)) (x1 : Int32) (x3 : Int32) (t0 : Int32) (S : si_St) : Option (Int32 × si_St) :=
  Option.bind (some (x3 + 1)) fun v1 => r15 x1 t0 v1 S
def f_X10_closestLoad_h49 (F : Nat) (r15 : Int32 → Int32 → Int32 → si_St → Option (Int32 × si_St)) (x1 : Int32) (x2 : Int32) (x3 : Int32) (S : si_St) : Option (Int32 × si_St) :=
  f_X10_closestLoad_h50 F r15 x1 x3 x2 S
def f_X10_closestLoad_h15 (F : Nat) (r15 : Int32 → Int32 → Int32 → si_St → Option (Int32 × si_St)) (x1 : Int32) (x2 : Int32) (x3 : Int32) (S : si_St) : Option (Int32 × si_St) :=
  if (1 <<< ((S.1 87 8) &&& 31)) ≤ x3 then (some (x2, S)) else (Option.bind (f_X10_sumOf F x3 S) fun q2 => if x1 < q2.1 then (f_X10_closestLoad_h49 F r15 x1 x2 x3 q2.2) else (if q2.1 ≤ x2 then (f_X10_closestLoad_h49 F r15 x1 x2 x3 q2.2) else (f_X10_closestLoad_h50 F r15 x1 x3 q2.1 q2.2)))
def f_X10_closestLoad_l15 (F : Nat) : Nat → Int32 → Int32 → Int32 → si_St → Option (Int32 × si_St)
 | 0 => fun _ _ _ _ => none
 | n + 1 => fun x1 x2 x3 S => f_X10_closestLoad_h15 F (f_X10_closestLoad_l15 F n) x1 x2 x3 S
def f_X10_closestLoad (F : Nat) (x1 : Int32) (S : si_St) : Option (Int32 × si_St) :=
  Option.bind (si_pt S 87 0 0) fun S3 => if 0 ≤ x1 then (f_X10_closestLoad_l15 F F x1 0 0 S3) else (some ((-1), S3))
def f_X10_twoPans_h144 (F : Nat) (r52 : Int32 → Int32 → Int32 → Int32 → Int32 → si_St → Option (Int32 × si_St)) (x1 : Int32) (x2 : Int32) (x3 : Int32) (x4 : Int32) (x5 : Int32) (S : si_St) : Option (Int32 × si_St) :=
  Option.bind (some (x5 + 1)) fun v1 => r52 x1 x2 x3 x4 v1 S
def f_X10_twoPans_h138 (F : Nat) (r52 : Int32 → Int32 → Int32 → Int32 → Int32 → si_St → Option (Int32 × si_St)) (r61 : Int32 → Int32 → Int32 → Int32 → Int32 → Int32 → si_St → Option (Int32 × si_St)) (x1 : Int32) (x2 : Int32) (x3 : Int32) (x4 : Int32) (x5 : Int32) (x6 : Int32) (S : si_St) : Option (Int32 × si_St) :=
  Option.bind (some (x6 + 1)) fun v2 => r61 x1 x2 x3 x4 x5 v2 S
def f_X10_twoPans_h61 (F : Nat) (r52 : Int32 → Int32 → Int32 → Int32 → Int32 → si_St → Option (Int32 × si_St)) (r61 : Int32 → Int32 → Int32 → Int32 → Int32 → Int32 → si_St → Option (Int32 × si_St)) (x1 : Int32) (x2 : Int32) (x3 : Int32) (x4 : Int32) (x5 : Int32) (x6 : Int32) (S : si_St) : Option (Int32 × si_St) :=
  if x2 ≤ x6 then (f_X10_twoPans_h144 F r52 x1 x2 x3 x4 x5 S) else (Option.bind (si_rd S 106 x5) fun v3 => if v3 < x1 then (f_X10_twoPans_h144 F r52 x1 x2 x3 x4 x5 S) else (if (x6 &&& x5) = 0 then (Option.bind (si_rd S 106 x5) fun v4 => Option.bind (si_rd S 106 x6) fun v5 => if (v4 - v5) = x1 then (Option.bind (f_X10_bits F (x6 ||| x5) S) fun q6 => if x4 ≤ q6.1 then (f_X10_twoPans_h138 F r52 r61 x1 x2 x3 x4 x5 x6 q6.2) else (Option.bind (f_X10_bits F (x6 ||| x5) q6.2) fun q7 => Option.bind (some (x5 + (1024 * x6))) fun v8 => f_X10_twoPans_h138 F r52 r61 x1 x2 v8 q7.1 x5 x6 q7.2)) else (f_X10_twoPans_h138 F r52 r61 x1 x2 x3 x4 x5 x6 S)) else (f_X10_twoPans_h138 F r52 r61 x1 x2 x3 x4 x5 x6 S)))
def f_X10_twoPans_l61 (F : Nat) (r52 : Int32 → Int32 → Int32 → Int32 → Int32 → si_St → Option (Int32 × si_St)) : Nat → Int32 → Int32 → Int32 → Int32 → Int32 → Int32 → si_St → Option (Int32 × si_St)
 | 0 => fun _ _ _ _ _ _ _ => none
 | n + 1 => fun x1 x2 x3 x4 x5 x6 S => f_X10_twoPans_h61 F r52 (f_X10_twoPans_l61 F r52 n) x1 x2 x3 x4 x5 x6 S
def f_X10_twoPans_h52 (F : Nat) (r52 : Int32 → Int32 → Int32 → Int32 → Int32 → si_St → Option (Int32 × si_St)) (x1 : Int32) (x2 : Int32) (x3 : Int32) (x4 : Int32) (x5 : Int32) (S : si_St) : Option (Int32 × si_St) :=
  if x2 ≤ x5 then (some (x3, S)) else (f_X10_twoPans_l61 F r52 F x1 x2 x3 x4 x5 0 S)
def f_X10_twoPans_l52 (F : Nat) : Nat → Int32 → Int32 → Int32 → Int32 → Int32 → si_St → Option (Int32 × si_St)
 | 0 => fun _ _ _ _ _ _ => none
 | n + 1 => fun x1 x2 x3 x4 x5 S => f_X10_twoPans_h52 F (f_X10_twoPans_l52 F n) x1 x2 x3 x4 x5 S
def f_X10_twoPans_h20 (F : Nat) (r20 : Int32 → Int32 → Int32 → si_St → Option (Int32 × si_St)) (x1 : Int32) (x2 : Int32) (x3 : Int32) (S : si_St) : Option (Int32 × si_St) :=
  if x2 ≤ x3 then (f_X10_twoPans_l52 F F x1 x2 (-2) 99 0 S) else (Option.bind (f_X10_sumOf F x3 S) fun q9 => Option.bind (si_wr q9.2 106 x3 q9.1) fun S10 => Option.bind (some (x3 + 1)) fun v11 => r20 x1 x2 v11 S10)
def f_X10_twoPans_l20 (F : Nat) : Nat → Int32 → Int32 → Int32 → si_St → Option (Int32 × si_St)
 | 0 => fun _ _ _ _ => none
 | n + 1 => fun x1 x2 x3 S => f_X10_twoPans_h20 F (f_X10_twoPans_l20 F n) x1 x2 x3 S
def f_X10_twoPans (F : Nat) (x1 : Int32) (S : si_St) : Option (Int32 × si_St) :=
  Option.bind (si_pt S 87 0 0) fun S12 => if 0 ≤ x1 then (Option.bind (some (1 <<< ((S12.1 87 8) &&& 31))) fun v13 => f_X10_twoPans_l20 F F x1 v13 0 S12) else (some ((-1), S12))
def f_X10_isVisit (F : Nat) (x1 : Int32) (S : si_St) : Option (Int32 × si_St) :=
  Option.bind (si_rd S 88 0) fun v1 => Option.bind (f_X10_within F (Int32.toInt64 x1) (0 : Int64) (Int32.toInt64 (v1 - 1)) S) fun q2 => Option.bind (si_bz q2.1) fun v3 => some (v3, q2.2)
def f_X10_keeps_h42 (F : Nat) (S : si_St) : Option (si_St) :=
  Option.bind (f_X10_copies F 88 110 0 (677 * (S.1 87 41)) 677 S) fun S1 => Option.bind (si_pt S1 87 41 ((S1.1 87 41) + 1)) fun S2 => some S2
def f_X10_keeps (F : Nat) (S : si_St) : Option (si_St) :=
  if (S.1 87 41) = 12 then (Option.bind (si_pt S 87 41 ((S.1 87 41) - 1)) fun S3 => Option.bind (f_X10_copies F 110 110 677 0 (677 * (S3.1 87 41)) S3) fun S4 => f_X10_keeps_h42 F S4) else (f_X10_keeps_h42 F S)
def f_X10_startVisit_h25 (F : Nat) (S : si_St) : Option (Int32 × si_St) :=
  some ((-1), S)
def f_X10_startVisit_h136 (F : Nat) (r35 : Int32 → Int32 → Int32 → Int32 → Int32 → si_St → Option (Int32 × si_St)) (x1 : Int32) (x2 : Int32) (x3 : Int32) (x4 : Int32) (x5 : Int32) (S : si_St) : Option (Int32 × si_St) :=
  Option.bind (some (x5 + 1)) fun v1 => r35 x1 x2 x3 x4 v1 S
def f_X10_startVisit_h134 (F : Nat) (r35 : Int32 → Int32 → Int32 → Int32 → Int32 → si_St → Option (Int32 × si_St)) (x1 : Int32) (x2 : Int32) (x3 : Int32) (x5 : Int32) (t0 : Int32) (S : si_St) : Option (Int32 × si_St) :=
  f_X10_startVisit_h136 F r35 x1 x2 x3 t0 x5 S
def f_X10_startVisit_h132 (F : Nat) (r35 : Int32 → Int32 → Int32 → Int32 → Int32 → si_St → Option (Int32 × si_St)) (x1 : Int32) (x2 : Int32) (x3 : Int32) (x4 : Int32) (x5 : Int32) (S : si_St) : Option (Int32 × si_St) :=
  f_X10_startVisit_h134 F r35 x1 x2 x3 x5 x4 S
def f_X10_startVisit_h100 (F : Nat) (r35 : Int32 → Int32 → Int32 → Int32 → Int32 → si_St → Option (Int32 × si_St)) (x1 : Int32) (x2 : Int32) (x4 : Int32) (x5 : Int32) (t0 : Int32) (S : si_St) : Option (Int32 × si_St) :=
  Option.bind (si_rd S 88 (61 + x5)) fun v2 => if v2 = 1 then (Option.bind (si_rd S 88 (91 + x5)) fun v3 => if v3 = 0 then (f_X10_startVisit_h134 F r35 x1 x2 t0 x5 1 S) else (f_X10_startVisit_h132 F r35 x1 x2 t0 x4 x5 S)) else (f_X10_startVisit_h132 F r35 x1 x2 t0 x4 x5 S)
def f_X10_startVisit_h95 (F : Nat) (r35 : Int32 → Int32 → Int32 → Int32 → Int32 → si_St → Option (Int32 × si_St)) (x1 : Int32) (x2 : Int32) (x4 : Int32) (x5 : Int32) (S : si_St) : Option (Int32 × si_St) :=
  f_X10_startVisit_h100 F r35 x1 x2 x4 x5 1 S
def f_X10_startVisit_h35 (F : Nat) (r35 : Int32 → Int32 → Int32 → Int32 → Int32 → si_St → Option (Int32 × si_St)) (x1 : Int32) (x2 : Int32) (x3 : Int32) (x4 : Int32) (x5 : Int32) (S : si_St) : Option (Int32 × si_St) :=
  Option.bind (si_rd S 88 0) fun v4 => if v4 ≤ x5 then (if x3 = 0 then (Option.bind (si_rd S 88 0) fun v5 => if v5 = 30 then (some ((-3), S)) else (Option.bind (f_X10_keeps F S) fun S6 => Option.bind (si_wr S6 88 (1 + v5) x1) fun S7 => Option.bind (si_wr S7 88 (31 + v5) x2) fun S8 => Option.bind (si_wr S8 88 (61 + v5) 0) fun S9 => Option.bind (si_wr S9 88 (91 + v5) 0) fun S10 => Option.bind (si_wr S10 88 (121 + v5) x4) fun S11 => Option.bind (si_wr S11 88 (151 + v5) 0) fun S12 => Option.bind (si_rd S12 88 0) fun v13 => Option.bind (si_wr S12 88 0 (v13 + 1)) fun S14 => some (v5, S14))) else (some ((-2), S))) else (Option.bind (si_rd S 88 (1 + x5)) fun v15 => if v15 = x1 then (Option.bind (si_rd S 88 (31 + x5)) fun v16 => if v16 ≤ x2 then (if x3 = 0 then (Option.bind (si_rd S 88 (61 + x5)) fun v17 => if v17 = 0 then (f_X10_startVisit_h95 F r35 x1 x2 x4 x5 S) else (f_X10_startVisit_h100 F r35 x1 x2 x4 x5 0 S)) else (f_X10_startVisit_h95 F r35 x1 x2 x4 x5 S)) else (some ((-1), S))) else (f_X10_startVisit_h136 F r35 x1 x2 x3 x4 x5 S))
def f_X10_startVisit_l35 (F : Nat) : Nat → Int32 → Int32 → Int32 → Int32 → Int32 → si_St → Option (Int32 × si_St)
 | 0 => fun _ _ _ _ _ _ => none
 | n + 1 => fun x1 x2 x3 x4 x5 S => f_X10_startVisit_h35 F (f_X10_startVisit_l35 F n) x1 x2 x3 x4 x5 S
def f_X10_startVisit (F : Nat) (x1 : Int32) (x2 : Int32) (S : si_St) : Option (Int32 × si_St) :=
  Option.bind (si_pt S 87 0 0) fun S18 => Option.bind (f_X10_isScale F x1 S18) fun q19 => if q19.1 = 0 then (f_X10_startVisit_h25 F q19.2) else (Option.bind (f_X10_within F (Int32.toInt64 x2) (0 : Int64) (9999 : Int64) q19.2) fun q20 => if q20.1 = 0 then (f_X10_startVisit_h25 F q20.2) else (f_X10_startVisit_l35 F F x1 x2 0 0 0 q20.2))
def f_X10_visitCount (F : Nat) (S : si_St) : Option (Int32 × si_St) :=
  Option.bind (si_pt S 87 0 0) fun S1 => Option.bind (si_rd S1 88 0) fun v2 => some (v2, S1)
def f_X10_visitScale_h25 (F : Nat) (t0 : Int32) (S : si_St) : Option (Int32 × si_St) :=
  some (t0, S)
def f_X10_visitScale (F : Nat) (x1 : Int32) (S : si_St) : Option (Int32 × si_St) :=
  Option.bind (si_pt S 87 0 0) fun S1 => Option.bind (f_X10_isVisit F x1 S1) fun q2 => if q2.1 = 0 then (f_X10_visitScale_h25 F (-1) q2.2) else (Option.bind (si_rd q2.2 88 (1 + x1)) fun v3 => f_X10_visitScale_h25 F v3 q2.2)
def f_X10_isInService_h26 (F : Nat) (t0 : Int32) (S : si_St) : Option (Int32 × si_St) :=
  some (t0, S)
def f_X10_isInService (F : Nat) (x1 : Int32) (S : si_St) : Option (Int32 × si_St) :=
  Option.bind (si_pt S 87 0 0) fun S1 => Option.bind (f_X10_isVisit F x1 S1) fun q2 => if q2.1 = 0 then (f_X10_isInService_h26 F (-1) q2.2) else (Option.bind (si_rd q2.2 88 (121 + x1)) fun v3 => f_X10_isInService_h26 F v3 q2.2)
def f_X10_record_h66 (F : Nat) (S : si_St) : Option (Int32 × si_St) :=
  some ((-1), S)
def f_X10_record (F : Nat) (x1 : Int32) (x2 : Int32) (x3 : Int32) (S : si_St) : Option (Int32 × si_St) :=
  Option.bind (si_pt S 87 0 0) fun S1 => Option.bind (f_X10_isVisit F x1 S1) fun q2 => if q2.1 = 0 then (f_X10_record_h66 F q2.2) else (Option.bind (f_X10_within F (Int32.toInt64 x2) (0 : Int64) (Int32.toInt64 ((1 <<< ((q2.2.1 87 8) &&& 31)) - 1)) q2.2) fun q3 => if q3.1 = 0 then (f_X10_record_h66 F q3.2) else (Option.bind (f_X10_sumOf F x2 q3.2) fun q4 => Option.bind (si_rd q4.2 88 (1 + x1)) fun v5 => Option.bind (si_rd q4.2 92 v5) fun v6 => if v6 < q4.1 then (f_X10_record_h66 F q4.2) else (Option.bind (f_X10_within F (Int32.toInt64 x3) (-1999999 : Int64) (1999999 : Int64) q4.2) fun q7 => if q7.1 = 0 then (f_X10_record_h66 F q7.2) else (Option.bind (si_rd q7.2 88 (61 + x1)) fun v8 => if v8 = 1 then (some ((-2), q7.2)) else (Option.bind (si_rd q7.2 88 (151 + x1)) fun v9 => if v9 = 8 then (some ((-3), q7.2)) else (Option.bind (f_X10_keeps F q7.2) fun S10 => Option.bind (si_wr S10 88 ((181 + (8 * x1)) + v9) x2) fun S11 => Option.bind (si_wr S11 88 ((421 + (8 * x1)) + v9) x3) fun S12 => Option.bind (si_rd S12 88 (151 + x1)) fun v13 => Option.bind (si_wr S12 88 (151 + x1) (v13 + 1)) fun S14 => some (v9, S14)))))))
def f_X10_testCount_h27 (F : Nat) (t0 : Int32) (S : si_St) : Option (Int32 × si_St) :=
  some (t0, S)
def f_X10_testCount (F : Nat) (x1 : Int32) (S : si_St) : Option (Int32 × si_St) :=
  Option.bind (si_pt S 87 0 0) fun S1 => Option.bind (f_X10_isVisit F x1 S1) fun q2 => if q2.1 = 0 then (f_X10_testCount_h27 F (-1) q2.2) else (Option.bind (si_rd q2.2 88 (151 + x1)) fun v3 => f_X10_testCount_h27 F v3 q2.2)
def f_X10_isTest_h35 (F : Nat) (t0 : Int32) (S : si_St) : Option (Int32 × si_St) :=
  Option.bind (si_bz t0) fun v1 => some (v1, S)
def f_X10_isTest_h34 (F : Nat) (S : si_St) : Option (Int32 × si_St) :=
  f_X10_isTest_h35 F 0 S
def f_X10_isTest (F : Nat) (x1 : Int32) (x2 : Int32) (S : si_St) : Option (Int32 × si_St) :=
  Option.bind (f_X10_isVisit F x1 S) fun q2 => if q2.1 = 0 then (f_X10_isTest_h34 F q2.2) else (Option.bind (si_rd q2.2 88 (151 + x1)) fun v3 => Option.bind (f_X10_within F (Int32.toInt64 x2) (0 : Int64) (Int32.toInt64 (v3 - 1)) q2.2) fun q4 => if q4.1 = 0 then (f_X10_isTest_h34 F q4.2) else (f_X10_isTest_h35 F 1 q4.2))
def f_X10_loadOf (F : Nat) (x1 : Int32) (x2 : Int32) (S : si_St) : Option (Int32 × si_St) :=
  Option.bind (si_rd S 88 ((181 + (8 * x1)) + x2)) fun v1 => Option.bind (f_X10_sumOf F v1 S) fun q2 => some (q2.1, q2.2)
def f_X10_errorOf (F : Nat) (x1 : Int32) (x2 : Int32) (S : si_St) : Option (Int32 × si_St) :=
  Option.bind (si_rd S 88 ((421 + (8 * x1)) + x2)) fun v1 => Option.bind (f_X10_loadOf F x1 x2 S) fun q2 => some ((v1 - q2.1), q2.2)
def f_X10_toleranceOf (F : Nat) (x1 : Int32) (x2 : Int32) (S : si_St) : Option (Int32 × si_St) :=
  Option.bind (si_rd S 88 (1 + x1)) fun v1 => Option.bind (f_X10_loadOf F x1 x2 S) fun q2 => Option.bind (f_X10_base F v1 q2.1 q2.2) fun q3 => Option.bind (si_rd q3.2 88 (121 + x1)) fun v4 => some ((q3.1 * (1 + v4)), q3.2)
def f_X10_testLoad_h35 (F : Nat) (t0 : Int32) (S : si_St) : Option (Int32 × si_St) :=
  some (t0, S)
def f_X10_testLoad_h15 (F : Nat) (x1 : Int32) (x2 : Int32) (t0 : Int32) (S : si_St) : Option (Int32 × si_St) :=
  Option.bind (si_pt S 87 0 t0) fun S1 => if (S1.1 87 0) ≤ 0 then (Option.bind (f_X10_loadOf F x1 x2 S1) fun q2 => f_X10_testLoad_h35 F q2.1 q2.2) else (f_X10_testLoad_h35 F 0 S1)
def f_X10_testLoad (F : Nat) (x1 : Int32) (x2 : Int32) (S : si_St) : Option (Int32 × si_St) :=
  Option.bind (f_X10_isTest F x1 x2 S) fun q3 => if q3.1 = 0 then (f_X10_testLoad_h15 F x1 x2 1 q3.2) else (f_X10_testLoad_h15 F x1 x2 0 q3.2)
def f_X10_testError_h35 (F : Nat) (t0 : Int32) (S : si_St) : Option (Int32 × si_St) :=
  some (t0, S)
def f_X10_testError_h15 (F : Nat) (x1 : Int32) (x2 : Int32) (t0 : Int32) (S : si_St) : Option (Int32 × si_St) :=
  Option.bind (si_pt S 87 0 t0) fun S1 => if (S1.1 87 0) ≤ 0 then (Option.bind (f_X10_errorOf F x1 x2 S1) fun q2 => f_X10_testError_h35 F q2.1 q2.2) else (f_X10_testError_h35 F 0 S1)
def f_X10_testError (F : Nat) (x1 : Int32) (x2 : Int32) (S : si_St) : Option (Int32 × si_St) :=
  Option.bind (f_X10_isTest F x1 x2 S) fun q3 => if q3.1 = 0 then (f_X10_testError_h15 F x1 x2 1 q3.2) else (f_X10_testError_h15 F x1 x2 0 q3.2)
def f_X10_testPasses_h48 (F : Nat) (t0 : Int32) (S : si_St) : Option (Int32 × si_St) :=
  Option.bind (si_bz t0) fun v1 => some (v1, S)
def f_X10_testPasses_h47 (F : Nat) (S : si_St) : Option (Int32 × si_St) :=
  f_X10_testPasses_h48 F 0 S
def f_X10_testPasses_h15 (F : Nat) (x1 : Int32) (x2 : Int32) (t0 : Int32) (S : si_St) : Option (Int32 × si_St) :=
  Option.bind (si_pt S 87 0 t0) fun S2 => if (S2.1 87 0) = 0 then (Option.bind (f_X10_errorOf F x1 x2 S2) fun q3 => Option.bind (f_X10_size F q3.1 q3.2) fun q4 => Option.bind (f_X10_toleranceOf F x1 x2 q4.2) fun q5 => if q5.1 < q4.1 then (f_X10_testPasses_h47 F q5.2) else (f_X10_testPasses_h48 F 1 q5.2)) else (f_X10_testPasses_h47 F S2)
def f_X10_testPasses (F : Nat) (x1 : Int32) (x2 : Int32) (S : si_St) : Option (Int32 × si_St) :=
  Option.bind (f_X10_isTest F x1 x2 S) fun q6 => if q6.1 = 0 then (f_X10_testPasses_h15 F x1 x2 1 q6.2) else (f_X10_testPasses_h15 F x1 x2 0 q6.2)
def f_X10_verdictOf_h281 (F : Nat) (t0 : Int32) (S : si_St) : Option (Int32 × si_St) :=
  some (t0, S)
def f_X10_verdictOf_h224 (F : Nat) (r17 : Int32 → Int32 → Int32 → Int32 → Int32 → Int32 → Int32 → Int32 → si_St → Option (Int32 × si_St)) (r139 : Int32 → Int32 → Int32 → Int32 → Int32 → Int32 → Int32 → Int32 → Int32 → Int32 → si_St → Option (Int32 × si_St)) (x1 : Int32) (x2 : Int32) (x3 : Int32) (x4 : Int32) (x5 : Int32) (x6 : Int32) (x7 : Int32) (x8 : Int32) (x9 : Int32) (x10 : Int32) (S : si_St) : Option (Int32 × si_St) :=
  Option.bind (some (x10 + 1)) fun v1 => r139 x1 x2 x3 x4 x5 x6 x7 x8 x9 v1 S
def f_X10_verdictOf_h222 (F : Nat) (r17 : Int32 → Int32 → Int32 → Int32 → Int32 → Int32 → Int32 → Int32 → si_St → Option (Int32 × si_St)) (r139 : Int32 → Int32 → Int32 → Int32 → Int32 → Int32 → Int32 → Int32 → Int32 → Int32 → si_St → Option (Int32 × si_St)) (x1 : Int32) (x2 : Int32) (x3 : Int32) (x4 : Int32) (x5 : Int32) (x6 : Int32) (x8 : Int32) (x9 : Int32) (x10 : Int32) (t0 : Int32) (S : si_St) : Option (Int32 × si_St) :=
  f_X10_verdictOf_h224 F r17 r139 x1 x2 x3 x4 x5 x6 t0 x8 x9 x10 S
def f_X10_verdictOf_h221 (F : Nat) (r17 : Int32 → Int32 → Int32 → Int32 → Int32 → Int32 → Int32 → Int32 → si_St → Option (Int32 × si_St)) (r139 : Int32 → Int32 → Int32 → Int32 → Int32 → Int32 → Int32 → Int32 → Int32 → Int32 → si_St → Option (Int32 × si_St)) (x1 : Int32) (x2 : Int32) (x3 : Int32) (x4 : Int32) (x5 : Int32) (x6 : Int32) (x8 : Int32) (x9 : Int32) (x10 : Int32) (S : si_St) : Option (Int32 × si_St) :=
  f_X10_verdictOf_h222 F r17 r139 x1 x2 x3 x4 x5 x6 x8 x9 x10 0 S
def f_X10_verdictOf_h182 (F : Nat) (r17 : Int32 → Int32 → Int32 → Int32 → Int32 → Int32 → Int32 → Int32 → si_St → Option (Int32 × si_St)) (r139 : Int32 → Int32 → Int32 → Int32 → Int32 → Int32 → Int32 → Int32 → Int32 → Int32 → si_St → Option (Int32 × si_St)) (x1 : Int32) (x2 : Int32) (x3 : Int32) (x4 : Int32) (x6 : Int32) (x7 : Int32) (x8 : Int32) (x9 : Int32) (x10 : Int32) (t0 : Int32) (S : si_St) : Option (Int32 × si_St) :=
  if x7 = 0 then (f_X10_verdictOf_h221 F r17 r139 x1 x2 x3 x4 t0 x6 x8 x9 x10 S) else (Option.bind (f_X10_errorOf F x1 x8 S) fun q2 => Option.bind (f_X10_errorOf F x1 x10 q2.2) fun q3 => Option.bind (f_X10_size F (q2.1 - q3.1) q3.2) fun q4 => Option.bind (f_X10_toleranceOf F x1 x8 q4.2) fun q5 => if q5.1 < q4.1 then (f_X10_verdictOf_h221 F r17 r139 x1 x2 x3 x4 t0 x6 x8 x9 x10 q5.2) else (f_X10_verdictOf_h222 F r17 r139 x1 x2 x3 x4 t0 x6 x8 x9 x10 1 q5.2))
def f_X10_verdictOf_h177 (F : Nat) (r17 : Int32 → Int32 → Int32 → Int32 → Int32 → Int32 → Int32 → Int32 → si_St → Option (Int32 × si_St)) (r139 : Int32 → Int32 → Int32 → Int32 → Int32 → Int32 → Int32 → Int32 → Int32 → Int32 → si_St → Option (Int32 × si_St)) (x1 : Int32) (x2 : Int32) (x3 : Int32) (x4 : Int32) (x6 : Int32) (x7 : Int32) (x8 : Int32) (x9 : Int32) (x10 : Int32) (S : si_St) : Option (Int32 × si_St) :=
  f_X10_verdictOf_h182 F r17 r139 x1 x2 x3 x4 x6 x7 x8 x9 x10 1 S
def f_X10_verdictOf_h139 (F : Nat) (r17 : Int32 → Int32 → Int32 → Int32 → Int32 → Int32 → Int32 → Int32 → si_St → Option (Int32 × si_St)) (r139 : Int32 → Int32 → Int32 → Int32 → Int32 → Int32 → Int32 → Int32 → Int32 → Int32 → si_St → Option (Int32 × si_St)) (x1 : Int32) (x2 : Int32) (x3 : Int32) (x4 : Int32) (x5 : Int32) (x6 : Int32) (x7 : Int32) (x8 : Int32) (x9 : Int32) (x10 : Int32) (S : si_St) : Option (Int32 × si_St) :=
  if x8 ≤ x10 then (Option.bind (some (x8 + 1)) fun v6 => r17 x1 x2 x3 x4 x5 x6 x7 v6 S) else (Option.bind (si_rd S 88 ((181 + (8 * x1)) + x10)) fun v7 => if v7 = x9 then (if x5 = 0 then (if x9 = 0 then (f_X10_verdictOf_h182 F r17 r139 x1 x2 x3 x4 x6 x7 x8 x9 x10 0 S) else (f_X10_verdictOf_h177 F r17 r139 x1 x2 x3 x4 x6 x7 x8 x9 x10 S)) else (f_X10_verdictOf_h177 F r17 r139 x1 x2 x3 x4 x6 x7 x8 x9 x10 S)) else (f_X10_verdictOf_h224 F r17 r139 x1 x2 x3 x4 x5 x6 x7 x8 x9 x10 S))
def f_X10_verdictOf_l139 (F : Nat) (r17 : Int32 → Int32 → Int32 → Int32 → Int32 → Int32 → Int32 → Int32 → si_St → Option (Int32 × si_St)) : Nat → Int32 → Int32 → Int32 → Int32 → Int32 → Int32 → Int32 → Int32 → Int32 → Int32 → si_St → Option (Int32 × si_St)
 | 0 => fun _ _ _ _ _ _ _ _ _ _ _ => none
 | n + 1 => fun x1 x2 x3 x4 x5 x6 x7 x8 x9 x10 S => f_X10_verdictOf_h139 F r17 (f_X10_verdictOf_l139 F r17 n) x1 x2 x3 x4 x5 x6 x7 x8 x9 x10 S
def f_X10_verdictOf_h134 (F : Nat) (r17 : Int32 → Int32 → Int32 → Int32 → Int32 → Int32 → Int32 → Int32 → si_St → Option (Int32 × si_St)) (x1 : Int32) (x2 : Int32) (x3 : Int32) (x4 : Int32) (x5 : Int32) (x7 : Int32) (x8 : Int32) (x9 : Int32) (t0 : Int32) (S : si_St) : Option (Int32 × si_St) :=
  f_X10_verdictOf_l139 F r17 F x1 x2 x3 x4 x5 t0 x7 x8 x9 0 S
def f_X10_verdictOf_h133 (F : Nat) (r17 : Int32 → Int32 → Int32 → Int32 → Int32 → Int32 → Int32 → Int32 → si_St → Option (Int32 × si_St)) (x1 : Int32) (x2 : Int32) (x3 : Int32) (x4 : Int32) (x5 : Int32) (x7 : Int32) (x8 : Int32) (x9 : Int32) (S : si_St) : Option (Int32 × si_St) :=
  f_X10_verdictOf_h134 F r17 x1 x2 x3 x4 x5 x7 x8 x9 0 S
def f_X10_verdictOf_h100 (F : Nat) (r17 : Int32 → Int32 → Int32 → Int32 → Int32 → Int32 → Int32 → Int32 → si_St → Option (Int32 × si_St)) (x1 : Int32) (x2 : Int32) (x3 : Int32) (x5 : Int32) (x6 : Int32) (x7 : Int32) (x8 : Int32) (x9 : Int32) (t0 : Int32) (S : si_St) : Option (Int32 × si_St) :=
  if x6 = 0 then (f_X10_verdictOf_h133 F r17 x1 x2 x3 t0 x5 x7 x8 x9 S) else (Option.bind (f_X10_errorOf F x1 x8 S) fun q8 => Option.bind (f_X10_size F (q8.1 - x2) q8.2) fun q9 => Option.bind (f_X10_toleranceOf F x1 x8 q9.2) fun q10 => if q10.1 < q9.1 then (f_X10_verdictOf_h133 F r17 x1 x2 x3 t0 x5 x7 x8 x9 q10.2) else (f_X10_verdictOf_h134 F r17 x1 x2 x3 t0 x5 x7 x8 x9 1 q10.2))
def f_X10_verdictOf_h95 (F : Nat) (r17 : Int32 → Int32 → Int32 → Int32 → Int32 → Int32 → Int32 → Int32 → si_St → Option (Int32 × si_St)) (x1 : Int32) (x2 : Int32) (x3 : Int32) (x5 : Int32) (x6 : Int32) (x7 : Int32) (x8 : Int32) (x9 : Int32) (S : si_St) : Option (Int32 × si_St) :=
  f_X10_verdictOf_h100 F r17 x1 x2 x3 x5 x6 x7 x8 x9 1 S
def f_X10_verdictOf_h64 (F : Nat) (r17 : Int32 → Int32 → Int32 → Int32 → Int32 → Int32 → Int32 → Int32 → si_St → Option (Int32 × si_St)) (x1 : Int32) (x2 : Int32) (x4 : Int32) (x5 : Int32) (x6 : Int32) (x7 : Int32) (x8 : Int32) (x9 : Int32) (t0 : Int32) (S : si_St) : Option (Int32 × si_St) :=
  if x4 = 0 then (Option.bind (f_X10_loadOf F x1 x8 S) fun q11 => Option.bind (si_rd q11.2 88 (1 + x1)) fun v12 => Option.bind (si_rd q11.2 92 v12) fun v13 => if (2 * q11.1) < v13 then (f_X10_verdictOf_h100 F r17 x1 x2 t0 x5 x6 x7 x8 x9 0 q11.2) else (f_X10_verdictOf_h95 F r17 x1 x2 t0 x5 x6 x7 x8 x9 q11.2)) else (f_X10_verdictOf_h95 F r17 x1 x2 t0 x5 x6 x7 x8 x9 S)
def f_X10_verdictOf_h59 (F : Nat) (r17 : Int32 → Int32 → Int32 → Int32 → Int32 → Int32 → Int32 → Int32 → si_St → Option (Int32 × si_St)) (x1 : Int32) (x2 : Int32) (x4 : Int32) (x5 : Int32) (x6 : Int32) (x7 : Int32) (x8 : Int32) (x9 : Int32) (S : si_St) : Option (Int32 × si_St) :=
  f_X10_verdictOf_h64 F r17 x1 x2 x4 x5 x6 x7 x8 x9 1 S
def f_X10_verdictOf_h17 (F : Nat) (r17 : Int32 → Int32 → Int32 → Int32 → Int32 → Int32 → Int32 → Int32 → si_St → Option (Int32 × si_St)) (x1 : Int32) (x2 : Int32) (x3 : Int32) (x4 : Int32) (x5 : Int32) (x6 : Int32) (x7 : Int32) (x8 : Int32) (S : si_St) : Option (Int32 × si_St) :=
  Option.bind (si_rd S 88 (151 + x1)) fun v14 => if v14 ≤ x8 then (if x3 = 0 then (f_X10_verdictOf_h281 F 1 S) else (if x4 = 0 then (f_X10_verdictOf_h281 F 2 S) else (if x5 = 0 then (f_X10_verdictOf_h281 F 3 S) else (if x6 = 0 then (f_X10_verdictOf_h281 F 4 S) else (if x7 = 0 then (f_X10_verdictOf_h281 F 5 S) else (f_X10_verdictOf_h281 F 0 S)))))) else (Option.bind (si_rd S 88 ((181 + (8 * x1)) + x8)) fun v15 => if x3 = 0 then (if v15 = 0 then (f_X10_verdictOf_h59 F r17 x1 x2 x4 x5 x6 x7 x8 v15 S) else (f_X10_verdictOf_h64 F r17 x1 x2 x4 x5 x6 x7 x8 v15 0 S)) else (f_X10_verdictOf_h59 F r17 x1 x2 x4 x5 x6 x7 x8 v15 S))
def f_X10_verdictOf_l17 (F : Nat) : Nat → Int32 → Int32 → Int32 → Int32 → Int32 → Int32 → Int32 → Int32 → si_St → Option (Int32 × si_St)
 | 0 => fun _ _ _ _ _ _ _ _ _ => none
 | n + 1 => fun x1 x2 x3 x4 x5 x6 x7 x8 S => f_X10_verdictOf_h17 F (f_X10_verdictOf_l17 F n) x1 x2 x3 x4 x5 x6 x7 x8 S
def f_X10_verdictOf (F : Nat) (x1 : Int32) (x2 : Int32) (S : si_St) : Option (Int32 × si_St) :=
  f_X10_verdictOf_l17 F F x1 x2 0 0 0 1 1 0 S
def f_X10_verdict_h23 (F : Nat) (t0 : Int32) (S : si_St) : Option (Int32 × si_St) :=
  some (t0, S)
def f_X10_verdict (F : Nat) (x1 : Int32) (S : si_St) : Option (Int32 × si_St) :=
  Option.bind (si_pt S 87 0 0) fun S1 => Option.bind (f_X10_isVisit F x1 S1) fun q2 => if q2.1 = 0 then (f_X10_verdict_h23 F (-1) q2.2) else (Option.bind (f_X10_verdictOf F x1 0 q2.2) fun q3 => f_X10_verdict_h23 F q3.1 q3.2)
def f_X10_adjustmentOf_h61 (F : Nat) (r12 : Int32 → Int32 → Int32 → Int32 → si_St → Option (Int32 × si_St)) (x1 : Int32) (x2 : Int32) (x4 : Int32) (t0 : Int32) (S : si_St) : Option (Int32 × si_St) :=
  Option.bind (some (x4 + 1)) fun v1 => r12 x1 x2 t0 v1 S
def f_X10_adjustmentOf_h48 (F : Nat) (r12 : Int32 → Int32 → Int32 → Int32 → si_St → Option (Int32 × si_St)) (x1 : Int32) (x3 : Int32) (x4 : Int32) (x5 : Int32) (t0 : Int32) (S : si_St) : Option (Int32 × si_St) :=
  if x5 ≤ x3 then (f_X10_adjustmentOf_h61 F r12 x1 t0 x4 x3 S) else (f_X10_adjustmentOf_h61 F r12 x1 t0 x4 x5 S)
def f_X10_adjustmentOf_h12 (F : Nat) (r12 : Int32 → Int32 → Int32 → Int32 → si_St → Option (Int32 × si_St)) (x1 : Int32) (x2 : Int32) (x3 : Int32) (x4 : Int32) (S : si_St) : Option (Int32 × si_St) :=
  Option.bind (si_rd S 88 (151 + x1)) fun v2 => if v2 ≤ x4 then (some (((x2 + x3) >>> (1 &&& 31)), S)) else (Option.bind (f_X10_errorOf F x1 x4 S) fun q3 => if x2 ≤ q3.1 then (f_X10_adjustmentOf_h48 F r12 x1 x3 x4 q3.1 x2 q3.2) else (f_X10_adjustmentOf_h48 F r12 x1 x3 x4 q3.1 q3.1 q3.2))
def f_X10_adjustmentOf_l12 (F : Nat) : Nat → Int32 → Int32 → Int32 → Int32 → si_St → Option (Int32 × si_St)
 | 0 => fun _ _ _ _ _ => none
 | n + 1 => fun x1 x2 x3 x4 S => f_X10_adjustmentOf_h12 F (f_X10_adjustmentOf_l12 F n) x1 x2 x3 x4 S
def f_X10_adjustmentOf (F : Nat) (x1 : Int32) (S : si_St) : Option (Int32 × si_St) :=
  Option.bind (f_X10_errorOf F x1 0 S) fun q4 => f_X10_adjustmentOf_l12 F F x1 q4.1 q4.1 1 q4.2
def f_X10_adjustment_h50 (F : Nat) (t0 : Int32) (S : si_St) : Option (Int32 × si_St) :=
  some (t0, S)
def f_X10_adjustment_h31 (F : Nat) (x1 : Int32) (t0 : Int32) (S : si_St) : Option (Int32 × si_St) :=
  Option.bind (si_pt S 87 0 t0) fun S1 => if (S1.1 87 0) ≤ 0 then (Option.bind (f_X10_adjustmentOf F x1 S1) fun q2 => f_X10_adjustment_h50 F q2.1 q2.2) else (f_X10_adjustment_h50 F 0 S1)
def f_X10_adjustment (F : Nat) (x1 : Int32) (S : si_St) : Option (Int32 × si_St) :=
  Option.bind (f_X10_isVisit F x1 S) fun q3 => if q3.1 = 0 then (f_X10_adjustment_h31 F x1 1 q3.2) else (Option.bind (si_rd q3.2 88 (151 + x1)) fun v4 => if v4 = 0 then (f_X10_adjustment_h31 F x1 2 q3.2) else (f_X10_adjustment_h31 F x1 0 q3.2))
def f_X10_adjustedVerdict_h42 (F : Nat) (t0 : Int32) (S : si_St) : Option (Int32 × si_St) :=
  some (t0, S)
def f_X10_adjustedVerdict (F : Nat) (x1 : Int32) (S : si_St) : Option (Int32 × si_St) :=
  Option.bind (si_pt S 87 0 0) fun S1 => Option.bind (f_X10_isVisit F x1 S1) fun q2 => if q2.1 = 0 then (some ((-1), q2.2)) else (Option.bind (si_rd q2.2 88 (151 + x1)) fun v3 => if v3 = 0 then (f_X10_adjustedVerdict_h42 F 1 q2.2) else (Option.bind (f_X10_adjustmentOf F x1 q2.2) fun q4 => Option.bind (f_X10_verdictOf F x1 q4.1 q4.2) fun q5 => f_X10_adjustedVerdict_h42 F q5.1 q5.2))
def f_X10_closeVisit (F : Nat) (x1 : Int32) (S : si_St) : Option (Int32 × si_St) :=
  Option.bind (si_pt S 87 0 0) fun S1 => Option.bind (f_X10_isVisit F x1 S1) fun q2 => if q2.1 = 0 then (some ((-1), q2.2)) else (Option.bind (si_rd q2.2 88 (61 + x1)) fun v3 => if v3 = 1 then (some ((-2), q2.2)) else (Option.bind (f_X10_keeps F q2.2) fun S4 => Option.bind (si_wr S4 88 (61 + x1) 1) fun S5 => Option.bind (f_X10_verdictOf F x1 0 S5) fun q6 => Option.bind (si_wr q6.2 88 (91 + x1) q6.1) fun S7 => Option.bind (si_rd S7 88 (91 + x1)) fun v8 => some (v8, S7)))
def f_X10_isClosed_h26 (F : Nat) (t0 : Int32) (S : si_St) : Option (Int32 × si_St) :=
  some (t0, S)
def f_X10_isClosed (F : Nat) (x1 : Int32) (S : si_St) : Option (Int32 × si_St) :=
  Option.bind (si_pt S 87 0 0) fun S1 => Option.bind (f_X10_isVisit F x1 S1) fun q2 => if q2.1 = 0 then (f_X10_isClosed_h26 F (-1) q2.2) else (Option.bind (si_rd q2.2 88 (61 + x1)) fun v3 => f_X10_isClosed_h26 F v3 q2.2)
abbrev rm_X10_errorPosition : Room := { frames := 0, cells := 0, slots := 0, locals := 0 }
set_option maxHeartbeats 4000000 in
set_option maxRecDepth 100000 in
theorem c_X10_errorPosition (l : Launch) (E : si_Ev) (F : Nat) (S : si_St) (o : Int32 × si_St) (hf : f_X10_errorPosition F S = some o) : si_Mi l E yX10_errorPosition cX10_errorPosition 1 (some .int) rm_X10_errorPosition [.ref (E.2.1 87)] S o := by
  refine si_ofWi (plainFor_of_name (by decide +kernel)) (Nat.le_of_ble_eq_true rfl) ?_
  intro p e s m args below meth c ls Q A X hw hA hl hret
  have hl : lv_has ls 1 [(0, .ref (E.2.1 87))] := hl
  unfold f_X10_errorPosition at hf
  refine lv_aload_n X.1 X.2.1 dX10_errorPosition_0 rfl (lv_at hl 0 rfl) ?_
  refine lv_iconst (v := 0) X.1 X.2.1 dX10_errorPosition_1 (by decide) ?_
  obtain ⟨S1, eS1, hf⟩ := si_ob hf
  refine si_ptI X hw si_cl10 0 (by decide) gf_RX10_1 rfl rfl rfl rfl rfl eS1 dX10_errorPosition_2 (fun H locs hw => ?_)
  refine lv_aload_n X.1 X.2.1 dX10_errorPosition_5 rfl (lv_at hl 0 rfl) ?_
  refine si_getI X hw si_cl10 22 (by decide) gf_RX10_46 rfl rfl rfl dX10_errorPosition_6 ?_
  exact hret _ _ _ _ _ _ hf hw dX10_errorPosition_9
abbrev rm_X10_traderCount : Room := { frames := 0, cells := 0, slots := 0, locals := 0 }
set_option maxHeartbeats 4000000 in
set_option maxRecDepth 100000 in
theorem c_X10_traderCount (l : Launch) (E : si_Ev) (F : Nat) (S : si_St) (o : Int32 × si_St) (hf : f_X10_traderCount F S = some o) : si_Mi l E yX10_traderCount cX10_traderCount 1 (some .int) rm_X10_traderCount [.ref (E.2.1 87)] S o := by
  refine si_ofWi (plainFor_of_name (by decide +kernel)) (Nat.le_of_ble_eq_true rfl) ?_
  intro p e s m args below meth c ls Q A X hw hA hl hret
  have hl : lv_has ls 1 [(0, .ref (E.2.1 87))] := hl
  unfold f_X10_traderCount at hf
  refine lv_aload_n X.1 X.2.1 dX10_traderCount_0 rfl (lv_at hl 0 rfl) ?_
  refine lv_iconst (v := 0) X.1 X.2.1 dX10_traderCount_1 (by decide) ?_
  obtain ⟨S1, eS1, hf⟩ := si_ob hf
  refine si_ptI X hw si_cl10 0 (by decide) gf_RX10_1 rfl rfl rfl rfl rfl eS1 dX10_traderCount_2 (fun H locs hw => ?_)
  refine lv_aload_n X.1 X.2.1 dX10_traderCount_5 rfl (lv_at hl 0 rfl) ?_
  refine si_getI X hw si_cl10 2 (by decide) gf_RX10_215 rfl rfl rfl dX10_traderCount_6 ?_
  exact hret _ _ _ _ _ _ hf hw dX10_traderCount_9
abbrev rm_X10_scaleCount : Room := { frames := 0, cells := 0, slots := 0, locals := 0 }
set_option maxHeartbeats 4000000 in
set_option maxRecDepth 100000 in
theorem c_X10_scaleCount (l : Launch) (E : si_Ev) (F : Nat) (S : si_St) (o : Int32 × si_St) (hf : f_X10_scaleCount F S = some o) : si_Mi l E yX10_scaleCount cX10_scaleCount 1 (some .int) rm_X10_scaleCount [.ref (E.2.1 87)] S o := by
  refine si_ofWi (plainFor_of_name (by decide +kernel)) (Nat.le_of_ble_eq_true rfl) ?_
  intro p e s m args below meth c ls Q A X hw hA hl hret
  have hl : lv_has ls 1 [(0, .ref (E.2.1 87))] := hl
  unfold f_X10_scaleCount at hf
  refine lv_aload_n X.1 X.2.1 dX10_scaleCount_0 rfl (lv_at hl 0 rfl) ?_
  refine lv_iconst (v := 0) X.1 X.2.1 dX10_scaleCount_1 (by decide) ?_
  obtain ⟨S1, eS1, hf⟩ := si_ob hf
  refine si_ptI X hw si_cl10 0 (by decide) gf_RX10_1 rfl rfl rfl rfl rfl eS1 dX10_scaleCount_2 (fun H locs hw => ?_)
  refine lv_aload_n X.1 X.2.1 dX10_scaleCount_5 rfl (lv_at hl 0 rfl) ?_
  refine si_getI X hw si_cl10 3 (by decide) gf_RX10_218 rfl rfl rfl dX10_scaleCount_6 ?_
  exact hret _ _ _ _ _ _ hf hw dX10_scaleCount_9
abbrev rm_X10_massCount : Room := { frames := 0, cells := 0, slots := 0, locals := 0 }
set_option maxHeartbeats 4000000 in
set_option maxRecDepth 100000 in
theorem c_X10_massCount (l : Launch) (E : si_Ev) (F : Nat) (S : si_St) (o : Int32 × si_St) (hf : f_X10_massCount F S = some o) : si_Mi l E yX10_massCount cX10_massCount 1 (some .int) rm_X10_massCount [.ref (E.2.1 87)] S o := by
  refine si_ofWi (plainFor_of_name (by decide +kernel)) (Nat.le_of_ble_eq_true rfl) ?_
  intro p e s m args below meth c ls Q A X hw hA hl hret
  have hl : lv_has ls 1 [(0, .ref (E.2.1 87))] := hl
  unfold f_X10_massCount at hf
  refine lv_aload_n X.1 X.2.1 dX10_massCount_0 rfl (lv_at hl 0 rfl) ?_
  refine lv_iconst (v := 0) X.1 X.2.1 dX10_massCount_1 (by decide) ?_
  obtain ⟨S1, eS1, hf⟩ := si_ob hf
  refine si_ptI X hw si_cl10 0 (by decide) gf_RX10_1 rfl rfl rfl rfl rfl eS1 dX10_massCount_2 (fun H locs hw => ?_)
  refine lv_aload_n X.1 X.2.1 dX10_massCount_5 rfl (lv_at hl 0 rfl) ?_
  refine si_getI X hw si_cl10 8 (by decide) gf_RX10_225 rfl rfl rfl dX10_massCount_6 ?_
  exact hret _ _ _ _ _ _ hf hw dX10_massCount_9
abbrev rm_X10_setCount : Room := { frames := 0, cells := 0, slots := 0, locals := 0 }
set_option maxHeartbeats 4000000 in
set_option maxRecDepth 100000 in
theorem c_X10_setCount (l : Launch) (E : si_Ev) (F : Nat) (S : si_St) (o : Int32 × si_St) (hf : f_X10_setCount F S = some o) : si_Mi l E yX10_setCount cX10_setCount 1 (some .int) rm_X10_setCount [.ref (E.2.1 87)] S o := by
  refine si_ofWi (plainFor_of_name (by decide +kernel)) (Nat.le_of_ble_eq_true rfl) ?_
  intro p e s m args below meth c ls Q A X hw hA hl hret
  have hl : lv_has ls 1 [(0, .ref (E.2.1 87))] := hl
  unfold f_X10_setCount at hf
  refine lv_aload_n X.1 X.2.1 dX10_setCount_0 rfl (lv_at hl 0 rfl) ?_
  refine lv_iconst (v := 0) X.1 X.2.1 dX10_setCount_1 (by decide) ?_
  obtain ⟨S1, eS1, hf⟩ := si_ob hf
  refine si_ptI X hw si_cl10 0 (by decide) gf_RX10_1 rfl rfl rfl rfl rfl eS1 dX10_setCount_2 (fun H locs hw => ?_)
  refine lv_aload_n X.1 X.2.1 dX10_setCount_5 rfl (lv_at hl 0 rfl) ?_
  refine si_getI X hw si_cl10 10 (by decide) gf_RX10_228 rfl rfl rfl dX10_setCount_6 ?_
  exact hret _ _ _ _ _ _ hf hw dX10_setCount_9
abbrev rm_X10_isScale : Room := { frames := 1, cells := 0, slots := 0, locals := 25 }
set_option maxHeartbeats 4000000 in
set_option maxRecDepth 100000 in
theorem c_X10_isScale (l : Launch) (E : si_Ev) (F : Nat) (x1 : Int32) (S : si_St) (o : Int32 × si_St) (hf : f_X10_isScale F x1 S = some o) : si_Mi l E yX10_isScale cX10_isScale 2 (some .boolean) rm_X10_isScale [.ref (E.2.1 87), .int x1] S o := by
  refine si_ofWz (plainFor_of_name (by decide +kernel)) (Nat.le_of_ble_eq_true rfl) ?_
  intro p e s m args below meth c ls Q A X hw hA hl hret
  have hl : lv_has ls 2 [(0, .ref (E.2.1 87)), (1, .int x1)] := hl
  unfold f_X10_isScale at hf
  refine lv_iload_n X.1 X.2.1 dX10_isScale_0 rfl (lv_at hl 1 rfl) ?_
  refine lv_i2l (v := (Int32.toInt64 x1)) X.1 X.2.1 dX10_isScale_1 rfl ?_
  refine lv_lconst (v := (0 : Int64)) X.1 X.2.1 dX10_isScale_2 (by decide) ?_
  refine lv_aload_n X.1 X.2.1 dX10_isScale_3 rfl (lv_at hl 0 rfl) ?_
  refine si_getI X hw si_cl10 3 (by decide) gf_RX10_218 rfl rfl rfl dX10_isScale_4 ?_
  refine lv_iconst (v := 1) X.1 X.2.1 dX10_isScale_7 (by decide) ?_
  refine lv_isub X.1 X.2.1 dX10_isScale_8 ?_
  refine lv_i2l (v := (Int32.toInt64 ((S.1 87 3) - 1))) X.1 X.2.1 dX10_isScale_9 rfl ?_
  obtain ⟨q1, eq1, hf⟩ := si_ob hf
  refine si_cSi [.long (Int32.toInt64 x1), .long (0 : Int64), .long (Int32.toInt64 ((S.1 87 3) - 1))] cal_X10_within gm_RX10_124 X hw hA hl.1 (c_X10_within l E F (Int32.toInt64 x1) (0 : Int64) (Int32.toInt64 ((S.1 87 3) - 1)) S q1 eq1) ⟨⟨rfl, rfl⟩, Nat.le_of_ble_eq_true rfl, Nat.le_of_ble_eq_true rfl⟩ rfl rfl (Nat.le_of_ble_eq_true rfl) ⟨Nat.zero_le _, Nat.zero_le _⟩ dX10_isScale_10 (fun H locs hw => ?_)
  obtain ⟨v2, ev2, hf⟩ := si_ob hf
  exact hret _ _ _ _ _ _ (si_bzf ev2 hf) (si_nz (si_bz_inv ev2).1) hw dX10_isScale_13
abbrev rm_X10_trader : Room := { frames := 2, cells := 0, slots := 0, locals := 46 }
set_option maxHeartbeats 4000000 in
set_option maxRecDepth 100000 in
theorem c_X10_trader (l : Launch) (E : si_Ev) (F : Nat) (x1 : Int32) (S : si_St) (o : Int32 × si_St) (hf : f_X10_trader F x1 S = some o) : si_Mi l E yX10_trader cX10_trader 2 (some .int) rm_X10_trader [.ref (E.2.1 87), .int x1] S o := by
  refine si_ofWi (plainFor_of_name (by decide +kernel)) (Nat.le_of_ble_eq_true rfl) ?_
  intro p e s m args below meth c ls Q A X hw hA hl hret
  have hl : lv_has ls 2 [(0, .ref (E.2.1 87)), (1, .int x1)] := hl
  have B23 : ∀ (t0 : Int32) (S : si_St) (H : Heap) (locs : List Loc) (ls : Array Slot) , f_X10_trader_h23 F t0 S = some o → si_Ws E A s.heap S H locs → lv_has ls 2 [] → W p l e rm_X10_trader s m args below meth c H locs 0 0 Q (F0 m 23 ls [.int t0]) := by
    intro t0  S H locs ls  hf hw hl
    unfold f_X10_trader_h23 at hf
    exact hret _ _ _ _ _ _ hf hw dX10_trader_23
  unfold f_X10_trader at hf
  refine lv_aload_n X.1 X.2.1 dX10_trader_0 rfl (lv_at hl 0 rfl) ?_
  refine lv_iconst (v := 0) X.1 X.2.1 dX10_trader_1 (by decide) ?_
  obtain ⟨S1, eS1, hf⟩ := si_ob hf
  refine si_ptI X hw si_cl10 0 (by decide) gf_RX10_1 rfl rfl rfl rfl rfl eS1 dX10_trader_2 (fun H locs hw => ?_)
  refine lv_aload_n X.1 X.2.1 dX10_trader_5 rfl (lv_at hl 0 rfl) ?_
  refine lv_iload_n X.1 X.2.1 dX10_trader_6 rfl (lv_at hl 1 rfl) ?_
  obtain ⟨q2, eq2, hf⟩ := si_ob hf
  refine si_cVi [.int x1] cal_X10_isScale gm_RX10_234 X hw hA hl.1 (c_X10_isScale l E F x1 S1 q2 eq2) si_cl10 rfl ⟨⟨rfl, rfl⟩, Nat.le_of_ble_eq_true rfl, Nat.le_of_ble_eq_true rfl⟩ rfl rfl (Nat.le_of_ble_eq_true rfl) ⟨Nat.zero_le _, Nat.zero_le _⟩ dX10_trader_7 (fun H locs hw => ?_)
  refine lv_if_eq (tgt := 22) X.1 X.2.1 dX10_trader_10 (by decide) (fun c10 => ?_) (fun c10 => ?_)
  · have hf := si_ip c10 hf
    refine lv_iconst (v := (-1)) X.1 X.2.1 dX10_trader_22 (by decide) ?_
    exact B23 _ _ _ _ _ hf hw (lv_sub hl [] rfl)
  · have hf := si_in c10 hf
    refine lv_aload_n X.1 X.2.1 dX10_trader_13 rfl (lv_at hl 0 rfl) ?_
    refine si_getR (k' := 89) (d := 2) X hw si_cl10 4 (by decide) gf_RX10_17 rfl rfl rfl (by decide) rfl dX10_trader_14 ?_
    refine lv_iload_n X.1 X.2.1 dX10_trader_17 rfl (lv_at hl 1 rfl) ?_
    obtain ⟨v3, ev3, hf⟩ := si_ob hf
    refine si_iald X hw rfl ev3 dX10_trader_18 ?_
    refine lv_goto (tgt := 23) X.1 X.2.1 dX10_trader_19 (by decide) ?_
    exact B23 _ _ _ _ _ hf hw (lv_sub hl [] rfl)
abbrev rm_X10_capacity : Room := { frames := 2, cells := 0, slots := 0, locals := 46 }
set_option maxHeartbeats 4000000 in
set_option maxRecDepth 100000 in
theorem c_X10_capacity (l : Launch) (E : si_Ev) (F : Nat) (x1 : Int32) (S : si_St) (o : Int32 × si_St) (hf : f_X10_capacity F x1 S = some o) : si_Mi l E yX10_capacity cX10_capacity 2 (some .int) rm_X10_capacity [.ref (E.2.1 87), .int x1] S o := by
  refine si_ofWi (plainFor_of_name (by decide +kernel)) (Nat.le_of_ble_eq_true rfl) ?_
  intro p e s m args below meth c ls Q A X hw hA hl hret
  have hl : lv_has ls 2 [(0, .ref (E.2.1 87)), (1, .int x1)] := hl
  have B23 : ∀ (t0 : Int32) (S : si_St) (H : Heap) (locs : List Loc) (ls : Array Slot) , f_X10_capacity_h23 F t0 S = some o → si_Ws E A s.heap S H locs → lv_has ls 2 [] → W p l e rm_X10_capacity s m args below meth c H locs 0 0 Q (F0 m 23 ls [.int t0]) := by
    intro t0  S H locs ls  hf hw hl
    unfold f_X10_capacity_h23 at hf
    exact hret _ _ _ _ _ _ hf hw dX10_capacity_23
  unfold f_X10_capacity at hf
  refine lv_aload_n X.1 X.2.1 dX10_capacity_0 rfl (lv_at hl 0 rfl) ?_
  refine lv_iconst (v := 0) X.1 X.2.1 dX10_capacity_1 (by decide) ?_
  obtain ⟨S1, eS1, hf⟩ := si_ob hf
  refine si_ptI X hw si_cl10 0 (by decide) gf_RX10_1 rfl rfl rfl rfl rfl eS1 dX10_capacity_2 (fun H locs hw => ?_)
  refine lv_aload_n X.1 X.2.1 dX10_capacity_5 rfl (lv_at hl 0 rfl) ?_
  refine lv_iload_n X.1 X.2.1 dX10_capacity_6 rfl (lv_at hl 1 rfl) ?_
  obtain ⟨q2, eq2, hf⟩ := si_ob hf
  refine si_cVi [.int x1] cal_X10_isScale gm_RX10_234 X hw hA hl.1 (c_X10_isScale l E F x1 S1 q2 eq2) si_cl10 rfl ⟨⟨rfl, rfl⟩, Nat.le_of_ble_eq_true rfl, Nat.le_of_ble_eq_true rfl⟩ rfl rfl (Nat.le_of_ble_eq_true rfl) ⟨Nat.zero_le _, Nat.zero_le _⟩ dX10_capacity_7 (fun H locs hw => ?_)
  refine lv_if_eq (tgt := 22) X.1 X.2.1 dX10_capacity_10 (by decide) (fun c10 => ?_) (fun c10 => ?_)
  · have hf := si_ip c10 hf
    refine lv_iconst (v := (-1)) X.1 X.2.1 dX10_capacity_22 (by decide) ?_
    exact B23 _ _ _ _ _ hf hw (lv_sub hl [] rfl)
  · have hf := si_in c10 hf
    refine lv_aload_n X.1 X.2.1 dX10_capacity_13 rfl (lv_at hl 0 rfl) ?_
    refine si_getR (k' := 92) (d := 5) X hw si_cl10 7 (by decide) gf_RX10_26 rfl rfl rfl (by decide) rfl dX10_capacity_14 ?_
    refine lv_iload_n X.1 X.2.1 dX10_capacity_17 rfl (lv_at hl 1 rfl) ?_
    obtain ⟨v3, ev3, hf⟩ := si_ob hf
    refine si_iald X hw rfl ev3 dX10_capacity_18 ?_
    refine lv_goto (tgt := 23) X.1 X.2.1 dX10_capacity_19 (by decide) ?_
    exact B23 _ _ _ _ _ hf hw (lv_sub hl [] rfl)
abbrev rm_X10_base : Room := { frames := 0, cells := 0, slots := 0, locals := 0 }
set_option maxHeartbeats 4000000 in
set_option maxRecDepth 100000 in
theorem c_X10_base (l : Launch) (E : si_Ev) (F : Nat) (x1 : Int32) (x2 : Int32) (S : si_St) (o : Int32 × si_St) (hf : f_X10_base F x1 x2 S = some o) : si_Mi l E yX10_base cX10_base 5 (some .int) rm_X10_base [.ref (E.2.1 87), .int x1, .int x2] S o := by
  refine si_ofWi (plainFor_of_name (by decide +kernel)) (Nat.le_of_ble_eq_true rfl) ?_
  intro p e s m args below meth c ls Q A X hw hA hl hret
  have hl : lv_has ls 5 [(0, .ref (E.2.1 87)), (1, .int x1), (2, .int x2)] := hl
  have B79 : ∀ (t0 : Int32) (S : si_St) (H : Heap) (locs : List Loc) (ls : Array Slot) , f_X10_base_h79 F t0 S = some o → si_Ws E A s.heap S H locs → lv_has ls 5 [] → W p l e rm_X10_base s m args below meth c H locs 0 0 Q (F0 m 79 ls [.int t0]) := by
    intro t0  S H locs ls  hf hw hl
    unfold f_X10_base_h79 at hf
    exact hret _ _ _ _ _ _ hf hw dX10_base_79
  have B40 : ∀ (x2 : Int32) (x3 : Int32) (t0 : Int32) (S : si_St) (H : Heap) (locs : List Loc) (ls : Array Slot) , f_X10_base_h40 F x2 x3 t0 S = some o → si_Ws E A s.heap S H locs → lv_has ls 5 [(2, .int x2), (3, .int x3)] → W p l e rm_X10_base s m args below meth c H locs 0 0 Q (F0 m 40 ls [.int t0]) := by
    intro x2 x3 t0  S H locs ls  hf hw hl
    unfold f_X10_base_h40 at hf
    refine lv_istore (lv' := [(4, .int t0), (2, .int x2), (3, .int x3)]) X.1 X.2.1 dX10_base_40 hl (by decide) rfl (fun ls hl => ?_)
    refine lv_iload_n X.1 X.2.1 dX10_base_42 rfl (lv_at hl 1 rfl) ?_
    refine lv_iload X.1 X.2.1 dX10_base_43 (lv_at hl 0 rfl) ?_
    refine lv_iload_n X.1 X.2.1 dX10_base_45 rfl (lv_at hl 2 rfl) ?_
    refine lv_imul X.1 X.2.1 dX10_base_46 ?_
    refine lv_icmp_gt (tgt := 58) X.1 X.2.1 dX10_base_47 (by decide) (fun c47 => ?_) (fun c47 => ?_)
    · have hf := si_ip c47 hf
      refine lv_iload_n X.1 X.2.1 dX10_base_58 rfl (lv_at hl 1 rfl) ?_
      refine lv_iconst (v := 4) X.1 X.2.1 dX10_base_59 (by decide) ?_
      refine lv_iload X.1 X.2.1 dX10_base_60 (lv_at hl 0 rfl) ?_
      refine lv_imul X.1 X.2.1 dX10_base_62 ?_
      refine lv_iload_n X.1 X.2.1 dX10_base_63 rfl (lv_at hl 2 rfl) ?_
      refine lv_imul X.1 X.2.1 dX10_base_64 ?_
      refine lv_icmp_gt (tgt := 72) X.1 X.2.1 dX10_base_65 (by decide) (fun c65 => ?_) (fun c65 => ?_)
      · have hf := si_ip c65 hf
        refine lv_iconst (v := 3) X.1 X.2.1 dX10_base_72 (by decide) ?_
        refine lv_iload_n X.1 X.2.1 dX10_base_73 rfl (lv_at hl 2 rfl) ?_
        refine lv_imul X.1 X.2.1 dX10_base_74 ?_
        refine lv_iconst (v := 1) X.1 X.2.1 dX10_base_75 (by decide) ?_
        refine lv_iadd X.1 X.2.1 dX10_base_76 ?_
        refine lv_iconst (v := 2) X.1 X.2.1 dX10_base_77 (by decide) ?_
        refine lv_idiv X.1 X.2.1 dX10_base_78 (by decide) ?_
        exact B79 _ _ _ _ _ hf hw (lv_sub hl [] rfl)
      · have hf := si_in c65 hf
        refine lv_iload_n X.1 X.2.1 dX10_base_68 rfl (lv_at hl 2 rfl) ?_
        refine lv_goto (tgt := 79) X.1 X.2.1 dX10_base_69 (by decide) ?_
        exact B79 _ _ _ _ _ hf hw (lv_sub hl [] rfl)
    · have hf := si_in c47 hf
      refine lv_iload_n X.1 X.2.1 dX10_base_50 rfl (lv_at hl 2 rfl) ?_
      refine lv_iconst (v := 1) X.1 X.2.1 dX10_base_51 (by decide) ?_
      refine lv_iadd X.1 X.2.1 dX10_base_52 ?_
      refine lv_iconst (v := 2) X.1 X.2.1 dX10_base_53 (by decide) ?_
      refine lv_idiv X.1 X.2.1 dX10_base_54 (by decide) ?_
      refine lv_goto (tgt := 79) X.1 X.2.1 dX10_base_55 (by decide) ?_
      exact B79 _ _ _ _ _ hf hw (lv_sub hl [] rfl)
  unfold f_X10_base at hf
  refine lv_aload_n X.1 X.2.1 dX10_base_0 rfl (lv_at hl 0 rfl) ?_
  refine si_getR (k' := 91) (d := 4) X hw si_cl10 6 (by decide) gf_RX10_23 rfl rfl rfl (by decide) rfl dX10_base_1 ?_
  refine lv_iload_n X.1 X.2.1 dX10_base_4 rfl (lv_at hl 1 rfl) ?_
  obtain ⟨v1, ev1, hf⟩ := si_ob hf
  refine si_iald X hw rfl ev1 dX10_base_5 ?_
  refine lv_istore_n (lv' := [(3, .int v1), (0, .ref (E.2.1 87)), (1, .int x1), (2, .int x2)]) X.1 X.2.1 dX10_base_6 rfl hl (by decide) rfl (fun ls hl => ?_)
  refine lv_aload_n X.1 X.2.1 dX10_base_7 rfl (lv_at hl 1 rfl) ?_
  refine si_getR (k' := 90) (d := 3) X hw si_cl10 5 (by decide) gf_RX10_20 rfl rfl rfl (by decide) rfl dX10_base_8 ?_
  refine lv_iload_n X.1 X.2.1 dX10_base_11 rfl (lv_at hl 2 rfl) ?_
  obtain ⟨v2, ev2, hf⟩ := si_ob hf
  refine si_iald X hw rfl ev2 dX10_base_12 ?_
  refine lv_if_ne (tgt := 22) X.1 X.2.1 dX10_base_13 (by decide) (fun c13 => ?_) (fun c13 => ?_)
  · have hf := si_in c13 hf
    refine lv_aload_n X.1 X.2.1 dX10_base_22 rfl (lv_at hl 1 rfl) ?_
    refine si_getR (k' := 90) (d := 3) X hw si_cl10 5 (by decide) gf_RX10_20 rfl rfl rfl (by decide) rfl dX10_base_23 ?_
    refine lv_iload_n X.1 X.2.1 dX10_base_26 rfl (lv_at hl 2 rfl) ?_
    obtain ⟨v3, ev3, hf⟩ := si_ob hf
    refine si_iald X hw rfl ev3 dX10_base_27 ?_
    refine lv_iconst (v := 1) X.1 X.2.1 dX10_base_28 (by decide) ?_
    refine lv_icmp_ne (tgt := 38) X.1 X.2.1 dX10_base_29 (by decide) (fun c29 => ?_) (fun c29 => ?_)
    · have hf := si_in c29 hf
      refine lv_bipush (v := 50) X.1 X.2.1 dX10_base_38 (by decide) ?_
      exact B40 _ _ _ _ _ _ _ hf hw (lv_sub hl [3, 0] rfl)
    · have hf := si_ip c29 hf
      refine lv_sipush (v := 500) X.1 X.2.1 dX10_base_32 (by decide) ?_
      refine lv_goto (tgt := 40) X.1 X.2.1 dX10_base_35 (by decide) ?_
      exact B40 _ _ _ _ _ _ _ hf hw (lv_sub hl [3, 0] rfl)
  · have hf := si_ip c13 hf
    refine lv_sipush (v := 5000) X.1 X.2.1 dX10_base_16 (by decide) ?_
    refine lv_goto (tgt := 40) X.1 X.2.1 dX10_base_19 (by decide) ?_
    exact B40 _ _ _ _ _ _ _ hf hw (lv_sub hl [3, 0] rfl)
abbrev rm_X10_baseTolerance : Room := { frames := 2, cells := 0, slots := 0, locals := 46 }
set_option maxHeartbeats 4000000 in
set_option maxRecDepth 100000 in
theorem c_X10_baseTolerance (l : Launch) (E : si_Ev) (F : Nat) (x1 : Int32) (x2 : Int32) (S : si_St) (o : Int32 × si_St) (hf : f_X10_baseTolerance F x1 x2 S = some o) : si_Mi l E yX10_baseTolerance cX10_baseTolerance 3 (some .int) rm_X10_baseTolerance [.ref (E.2.1 87), .int x1, .int x2] S o := by
  refine si_ofWi (plainFor_of_name (by decide +kernel)) (Nat.le_of_ble_eq_true rfl) ?_
  intro p e s m args below meth c ls Q A X hw hA hl hret
  have hl : lv_has ls 3 [(0, .ref (E.2.1 87)), (1, .int x1), (2, .int x2)] := hl
  have B54 : ∀ (t0 : Int32) (S : si_St) (H : Heap) (locs : List Loc) (ls : Array Slot) , f_X10_baseTolerance_h54 F t0 S = some o → si_Ws E A s.heap S H locs → lv_has ls 3 [] → W p l e rm_X10_baseTolerance s m args below meth c H locs 0 0 Q (F0 m 54 ls [.int t0]) := by
    intro t0  S H locs ls  hf hw hl
    unfold f_X10_baseTolerance_h54 at hf
    exact hret _ _ _ _ _ _ hf hw dX10_baseTolerance_54
  have B34 : ∀ (x1 : Int32) (x2 : Int32) (t0 : Int32) (S : si_St) (H : Heap) (locs : List Loc) (ls : Array Slot) , f_X10_baseTolerance_h34 F x1 x2 t0 S = some o → si_Ws E A s.heap S H locs → lv_has ls 3 [(0, .ref (E.2.1 87)), (1, .int x1), (2, .int x2)] → W p l e rm_X10_baseTolerance s m args below meth c H locs 0 0 Q (F0 m 34 ls [.int t0, .ref (E.2.1 87)]) := by
    intro x1 x2 t0  S H locs ls  hf hw hl
    unfold f_X10_baseTolerance_h34 at hf
    obtain ⟨S1, eS1, hf⟩ := si_ob hf
    refine si_ptI X hw si_cl10 0 (by decide) gf_RX10_1 rfl rfl rfl rfl rfl eS1 dX10_baseTolerance_34 (fun H locs hw => ?_)
    refine lv_aload_n X.1 X.2.1 dX10_baseTolerance_37 rfl (lv_at hl 0 rfl) ?_
    refine si_getI X hw si_cl10 0 (by decide) gf_RX10_1 rfl rfl rfl dX10_baseTolerance_38 ?_
    refine lv_if_le (tgt := 48) X.1 X.2.1 dX10_baseTolerance_41 (by decide) (fun c41 => ?_) (fun c41 => ?_)
    · have hf := si_ip c41 hf
      refine lv_aload_n X.1 X.2.1 dX10_baseTolerance_48 rfl (lv_at hl 0 rfl) ?_
      refine lv_iload_n X.1 X.2.1 dX10_baseTolerance_49 rfl (lv_at hl 1 rfl) ?_
      refine lv_iload_n X.1 X.2.1 dX10_baseTolerance_50 rfl (lv_at hl 2 rfl) ?_
      obtain ⟨q2, eq2, hf⟩ := si_ob hf
      refine si_cVi [.int x1, .int x2] cal_X10_base gm_RX10_237 X hw hA hl.1 (c_X10_base l E F x1 x2 S1 q2 eq2) si_cl10 rfl ⟨⟨rfl, rfl⟩, Nat.le_of_ble_eq_true rfl, Nat.le_of_ble_eq_true rfl⟩ rfl rfl (Nat.le_of_ble_eq_true rfl) ⟨Nat.zero_le _, Nat.zero_le _⟩ dX10_baseTolerance_51 (fun H locs hw => ?_)
      exact B54 _ _ _ _ _ hf hw (lv_sub hl [] rfl)
    · have hf := si_in c41 hf
      refine lv_iconst (v := 0) X.1 X.2.1 dX10_baseTolerance_44 (by decide) ?_
      refine lv_goto (tgt := 54) X.1 X.2.1 dX10_baseTolerance_45 (by decide) ?_
      exact B54 _ _ _ _ _ hf hw (lv_sub hl [] rfl)
  unfold f_X10_baseTolerance at hf
  refine lv_aload_n X.1 X.2.1 dX10_baseTolerance_0 rfl (lv_at hl 0 rfl) ?_
  refine lv_aload_n X.1 X.2.1 dX10_baseTolerance_1 rfl (lv_at hl 0 rfl) ?_
  refine lv_iload_n X.1 X.2.1 dX10_baseTolerance_2 rfl (lv_at hl 1 rfl) ?_
  obtain ⟨q3, eq3, hf⟩ := si_ob hf
  refine si_cVi [.int x1] cal_X10_isScale gm_RX10_234 X hw hA hl.1 (c_X10_isScale l E F x1 S q3 eq3) si_cl10 rfl ⟨⟨rfl, rfl⟩, Nat.le_of_ble_eq_true rfl, Nat.le_of_ble_eq_true rfl⟩ rfl rfl (Nat.le_of_ble_eq_true rfl) ⟨Nat.zero_le _, Nat.zero_le _⟩ dX10_baseTolerance_3 (fun H locs hw => ?_)
  refine lv_if_ne (tgt := 13) X.1 X.2.1 dX10_baseTolerance_6 (by decide) (fun c6 => ?_) (fun c6 => ?_)
  · have hf := si_in c6 hf
    refine lv_iload_n X.1 X.2.1 dX10_baseTolerance_13 rfl (lv_at hl 2 rfl) ?_
    refine lv_i2l (v := (Int32.toInt64 x2)) X.1 X.2.1 dX10_baseTolerance_14 rfl ?_
    refine lv_lconst (v := (0 : Int64)) X.1 X.2.1 dX10_baseTolerance_15 (by decide) ?_
    refine lv_aload_n X.1 X.2.1 dX10_baseTolerance_16 rfl (lv_at hl 0 rfl) ?_
    refine si_getR (k' := 92) (d := 5) X hw si_cl10 7 (by decide) gf_RX10_26 rfl rfl rfl (by decide) rfl dX10_baseTolerance_17 ?_
    refine lv_iload_n X.1 X.2.1 dX10_baseTolerance_20 rfl (lv_at hl 1 rfl) ?_
    obtain ⟨v4, ev4, hf⟩ := si_ob hf
    refine si_iald X hw rfl ev4 dX10_baseTolerance_21 ?_
    refine lv_i2l (v := (Int32.toInt64 v4)) X.1 X.2.1 dX10_baseTolerance_22 rfl ?_
    obtain ⟨q5, eq5, hf⟩ := si_ob hf
    refine si_cSi [.long (Int32.toInt64 x2), .long (0 : Int64), .long (Int32.toInt64 v4)] cal_X10_within gm_RX10_124 X hw hA hl.1 (c_X10_within l E F (Int32.toInt64 x2) (0 : Int64) (Int32.toInt64 v4) q3.2 q5 eq5) ⟨⟨rfl, rfl⟩, Nat.le_of_ble_eq_true rfl, Nat.le_of_ble_eq_true rfl⟩ rfl rfl (Nat.le_of_ble_eq_true rfl) ⟨Nat.zero_le _, Nat.zero_le _⟩ dX10_baseTolerance_23 (fun H locs hw => ?_)
    refine lv_if_ne (tgt := 33) X.1 X.2.1 dX10_baseTolerance_26 (by decide) (fun c26 => ?_) (fun c26 => ?_)
    · have hf := si_in c26 hf
      refine lv_iconst (v := 0) X.1 X.2.1 dX10_baseTolerance_33 (by decide) ?_
      exact B34 _ _ _ _ _ _ _ hf hw (lv_sub hl [0, 1, 2] rfl)
    · have hf := si_ip c26 hf
      refine lv_iconst (v := 2) X.1 X.2.1 dX10_baseTolerance_29 (by decide) ?_
      refine lv_goto (tgt := 34) X.1 X.2.1 dX10_baseTolerance_30 (by decide) ?_
      exact B34 _ _ _ _ _ _ _ hf hw (lv_sub hl [0, 1, 2] rfl)
  · have hf := si_ip c6 hf
    refine lv_iconst (v := 1) X.1 X.2.1 dX10_baseTolerance_9 (by decide) ?_
    refine lv_goto (tgt := 34) X.1 X.2.1 dX10_baseTolerance_10 (by decide) ?_
    exact B34 _ _ _ _ _ _ _ hf hw (lv_sub hl [0, 1, 2] rfl)
abbrev rm_X10_massValue : Room := { frames := 1, cells := 0, slots := 0, locals := 25 }
set_option maxHeartbeats 4000000 in
set_option maxRecDepth 100000 in
theorem c_X10_massValue (l : Launch) (E : si_Ev) (F : Nat) (x1 : Int32) (S : si_St) (o : Int32 × si_St) (hf : f_X10_massValue F x1 S = some o) : si_Mi l E yX10_massValue cX10_massValue 2 (some .int) rm_X10_massValue [.ref (E.2.1 87), .int x1] S o := by
  refine si_ofWi (plainFor_of_name (by decide +kernel)) (Nat.le_of_ble_eq_true rfl) ?_
  intro p e s m args below meth c ls Q A X hw hA hl hret
  have hl : lv_has ls 2 [(0, .ref (E.2.1 87)), (1, .int x1)] := hl
  have B31 : ∀ (t0 : Int32) (S : si_St) (H : Heap) (locs : List Loc) (ls : Array Slot) , f_X10_massValue_h31 F t0 S = some o → si_Ws E A s.heap S H locs → lv_has ls 2 [] → W p l e rm_X10_massValue s m args below meth c H locs 0 0 Q (F0 m 31 ls [.int t0]) := by
    intro t0  S H locs ls  hf hw hl
    unfold f_X10_massValue_h31 at hf
    exact hret _ _ _ _ _ _ hf hw dX10_massValue_31
  unfold f_X10_massValue at hf
  refine lv_aload_n X.1 X.2.1 dX10_massValue_0 rfl (lv_at hl 0 rfl) ?_
  refine lv_iconst (v := 0) X.1 X.2.1 dX10_massValue_1 (by decide) ?_
  obtain ⟨S1, eS1, hf⟩ := si_ob hf
  refine si_ptI X hw si_cl10 0 (by decide) gf_RX10_1 rfl rfl rfl rfl rfl eS1 dX10_massValue_2 (fun H locs hw => ?_)
  refine lv_iload_n X.1 X.2.1 dX10_massValue_5 rfl (lv_at hl 1 rfl) ?_
  refine lv_i2l (v := (Int32.toInt64 x1)) X.1 X.2.1 dX10_massValue_6 rfl ?_
  refine lv_lconst (v := (0 : Int64)) X.1 X.2.1 dX10_massValue_7 (by decide) ?_
  refine lv_aload_n X.1 X.2.1 dX10_massValue_8 rfl (lv_at hl 0 rfl) ?_
  refine si_getI X hw si_cl10 8 (by decide) gf_RX10_225 rfl rfl rfl dX10_massValue_9 ?_
  refine lv_iconst (v := 1) X.1 X.2.1 dX10_massValue_12 (by decide) ?_
  refine lv_isub X.1 X.2.1 dX10_massValue_13 ?_
  refine lv_i2l (v := (Int32.toInt64 ((S1.1 87 8) - 1))) X.1 X.2.1 dX10_massValue_14 rfl ?_
  obtain ⟨q2, eq2, hf⟩ := si_ob hf
  refine si_cSi [.long (Int32.toInt64 x1), .long (0 : Int64), .long (Int32.toInt64 ((S1.1 87 8) - 1))] cal_X10_within gm_RX10_124 X hw hA hl.1 (c_X10_within l E F (Int32.toInt64 x1) (0 : Int64) (Int32.toInt64 ((S1.1 87 8) - 1)) S1 q2 eq2) ⟨⟨rfl, rfl⟩, Nat.le_of_ble_eq_true rfl, Nat.le_of_ble_eq_true rfl⟩ rfl rfl (Nat.le_of_ble_eq_true rfl) ⟨Nat.zero_le _, Nat.zero_le _⟩ dX10_massValue_15 (fun H locs hw => ?_)
  refine lv_if_eq (tgt := 30) X.1 X.2.1 dX10_massValue_18 (by decide) (fun c18 => ?_) (fun c18 => ?_)
  · have hf := si_ip c18 hf
    refine lv_iconst (v := (-1)) X.1 X.2.1 dX10_massValue_30 (by decide) ?_
    exact B31 _ _ _ _ _ hf hw (lv_sub hl [] rfl)
  · have hf := si_in c18 hf
    refine lv_aload_n X.1 X.2.1 dX10_massValue_21 rfl (lv_at hl 0 rfl) ?_
    refine si_getR (k' := 93) (d := 6) X hw si_cl10 9 (by decide) gf_RX10_29 rfl rfl rfl (by decide) rfl dX10_massValue_22 ?_
    refine lv_iload_n X.1 X.2.1 dX10_massValue_25 rfl (lv_at hl 1 rfl) ?_
    obtain ⟨v3, ev3, hf⟩ := si_ob hf
    refine si_iald X hw rfl ev3 dX10_massValue_26 ?_
    refine lv_goto (tgt := 31) X.1 X.2.1 dX10_massValue_27 (by decide) ?_
    exact B31 _ _ _ _ _ hf hw (lv_sub hl [] rfl)
abbrev rm_X10_sumOf : Room := { frames := 0, cells := 0, slots := 0, locals := 0 }
set_option maxHeartbeats 4000000 in
set_option maxRecDepth 100000 in
theorem c_X10_sumOf (l : Launch) (E : si_Ev) (F : Nat) (x1 : Int32) (S : si_St) (o : Int32 × si_St) (hf : f_X10_sumOf F x1 S = some o) : si_Mi l E yX10_sumOf cX10_sumOf 4 (some .int) rm_X10_sumOf [.ref (E.2.1 87), .int x1] S o := by
  refine si_ofWi (plainFor_of_name (by decide +kernel)) (Nat.le_of_ble_eq_true rfl) ?_
  intro p e s m args below meth c ls Q A X hw hA hl hret
  have hl : lv_has ls 4 [(0, .ref (E.2.1 87)), (1, .int x1)] := hl
  have B4 : ∀ (n4 : Nat) (x1 : Int32) (x2 : Int32) (x3 : Int32) (S : si_St) (H : Heap) (locs : List Loc) (ls : Array Slot) , f_X10_sumOf_l4 F n4 x1 x2 x3 S = some o → si_Ws E A s.heap S H locs → lv_has ls 4 [(0, .ref (E.2.1 87)), (1, .int x1), (2, .int x2), (3, .int x3)] → W p l e rm_X10_sumOf s m args below meth c H locs 0 0 Q (F0 m 4 ls []) := by
    intro n4
    induction n4 with
    | zero => intro x1 x2 x3  S H locs ls  hf; cases hf
    | succ n4 ih4 =>
      have B32 : ∀ (x1 : Int32) (x3 : Int32) (t0 : Int32) (t1 : Int32) (S : si_St) (H : Heap) (locs : List Loc) (ls : Array Slot) , f_X10_sumOf_h32 F (f_X10_sumOf_l4 F n4) x1 x3 t0 t1 S = some o → si_Ws E A s.heap S H locs → lv_has ls 4 [(0, .ref (E.2.1 87)), (1, .int x1), (3, .int x3)] → W p l e rm_X10_sumOf s m args below meth c H locs 0 0 Q (F0 m 32 ls [.int t0, .int t1]) := by
        intro x1 x3 t0 t1  S H locs ls  hf hw hl
        unfold f_X10_sumOf_h32 at hf
        refine lv_iadd X.1 X.2.1 dX10_sumOf_32 ?_
        obtain ⟨v1, ev1, hf⟩ := si_ob hf
        refine si_nmI ev1 ?_
        refine lv_istore_n (lv' := [(2, .int v1), (0, .ref (E.2.1 87)), (1, .int x1), (3, .int x3)]) X.1 X.2.1 dX10_sumOf_33 rfl hl (by decide) rfl (fun ls hl => ?_)
        obtain ⟨v2, ev2, hf⟩ := si_ob hf
        refine lv_iinc (v := v2) (lv' := [(3, .int v2), (2, .int v1), (0, .ref (E.2.1 87)), (1, .int x1)]) X.1 X.2.1 dX10_sumOf_34 hl (k := 3) rfl (Option.some.inj ev2) (by decide) rfl (fun ls hl => ?_)
        refine lv_goto (tgt := 4) X.1 X.2.1 dX10_sumOf_37 (by decide) ?_
        exact ih4 _ _ _ _ _ _ _ hf hw (lv_sub hl [2, 3, 1, 0] rfl)
      intro x1 x2 x3  S H locs ls  hf hw hl
      have hf : f_X10_sumOf_h4 F (f_X10_sumOf_l4 F n4) x1 x2 x3 S = some o := hf
      unfold f_X10_sumOf_h4 at hf
      refine lv_iload_n X.1 X.2.1 dX10_sumOf_4 rfl (lv_at hl 3 rfl) ?_
      refine lv_aload_n X.1 X.2.1 dX10_sumOf_5 rfl (lv_at hl 0 rfl) ?_
      refine si_getI X hw si_cl10 8 (by decide) gf_RX10_225 rfl rfl rfl dX10_sumOf_6 ?_
      refine lv_icmp_ge (tgt := 40) X.1 X.2.1 dX10_sumOf_9 (by decide) (fun c9 => ?_) (fun c9 => ?_)
      · have hf := si_ip c9 hf
        refine lv_iload_n X.1 X.2.1 dX10_sumOf_40 rfl (lv_at hl 2 rfl) ?_
        exact hret _ _ _ _ _ _ hf hw dX10_sumOf_41
      · have hf := si_in c9 hf
        refine lv_iload_n X.1 X.2.1 dX10_sumOf_12 rfl (lv_at hl 2 rfl) ?_
        refine lv_iload_n X.1 X.2.1 dX10_sumOf_13 rfl (lv_at hl 1 rfl) ?_
        refine lv_iload_n X.1 X.2.1 dX10_sumOf_14 rfl (lv_at hl 3 rfl) ?_
        refine lv_ishr X.1 X.2.1 dX10_sumOf_15 ?_
        refine lv_iconst (v := 1) X.1 X.2.1 dX10_sumOf_16 (by decide) ?_
        refine lv_iand X.1 X.2.1 dX10_sumOf_17 ?_
        refine lv_iconst (v := 1) X.1 X.2.1 dX10_sumOf_18 (by decide) ?_
        refine lv_icmp_ne (tgt := 31) X.1 X.2.1 dX10_sumOf_19 (by decide) (fun c19 => ?_) (fun c19 => ?_)
        · have hf := si_in c19 hf
          refine lv_iconst (v := 0) X.1 X.2.1 dX10_sumOf_31 (by decide) ?_
          exact B32 _ _ _ _ _ _ _ _ hf hw (lv_sub hl [0, 1, 3] rfl)
        · have hf := si_ip c19 hf
          refine lv_aload_n X.1 X.2.1 dX10_sumOf_22 rfl (lv_at hl 0 rfl) ?_
          refine si_getR (k' := 93) (d := 6) X hw si_cl10 9 (by decide) gf_RX10_29 rfl rfl rfl (by decide) rfl dX10_sumOf_23 ?_
          refine lv_iload_n X.1 X.2.1 dX10_sumOf_26 rfl (lv_at hl 3 rfl) ?_
          obtain ⟨v3, ev3, hf⟩ := si_ob hf
          refine si_iald X hw rfl ev3 dX10_sumOf_27 ?_
          refine lv_goto (tgt := 32) X.1 X.2.1 dX10_sumOf_28 (by decide) ?_
          exact B32 _ _ _ _ _ _ _ _ hf hw (lv_sub hl [0, 1, 3] rfl)
  unfold f_X10_sumOf at hf
  refine lv_iconst (v := 0) X.1 X.2.1 dX10_sumOf_0 (by decide) ?_
  refine lv_istore_n (lv' := [(2, .int 0), (0, .ref (E.2.1 87)), (1, .int x1)]) X.1 X.2.1 dX10_sumOf_1 rfl hl (by decide) rfl (fun ls hl => ?_)
  refine lv_iconst (v := 0) X.1 X.2.1 dX10_sumOf_2 (by decide) ?_
  refine lv_istore_n (lv' := [(3, .int 0), (2, .int 0), (0, .ref (E.2.1 87)), (1, .int x1)]) X.1 X.2.1 dX10_sumOf_3 rfl hl (by decide) rfl (fun ls hl => ?_)
  exact B4 F _ _ _ _ _ _ _ hf hw (lv_sub hl [2, 3, 1, 0] rfl)
abbrev rm_X10_fewestMasses : Room := { frames := 1, cells := 0, slots := 0, locals := 23 }
set_option maxHeartbeats 4000000 in
set_option maxRecDepth 100000 in
theorem c_X10_fewestMasses (l : Launch) (E : si_Ev) (F : Nat) (x1 : Int32) (S : si_St) (o : Int32 × si_St) (hf : f_X10_fewestMasses F x1 S = some o) : si_Mi l E yX10_fewestMasses cX10_fewestMasses 4 (some .int) rm_X10_fewestMasses [.ref (E.2.1 87), .int x1] S o := by
  refine si_ofWi (plainFor_of_name (by decide +kernel)) (Nat.le_of_ble_eq_true rfl) ?_
  intro p e s m args below meth c ls Q A X hw hA hl hret
  have hl : lv_has ls 4 [(0, .ref (E.2.1 87)), (1, .int x1)] := hl
  have B16 : ∀ (n16 : Nat) (x1 : Int32) (x2 : Int32) (x3 : Int32) (S : si_St) (H : Heap) (locs : List Loc) (ls : Array Slot) , f_X10_fewestMasses_l16 F n16 x1 x2 x3 S = some o → si_Ws E A s.heap S H locs → lv_has ls 4 [(0, .ref (E.2.1 87)), (1, .int x1), (2, .int x2), (3, .int x3)] → W p l e rm_X10_fewestMasses s m args below meth c H locs 0 0 Q (F0 m 16 ls []) := by
    intro n16
    induction n16 with
    | zero => intro x1 x2 x3  S H locs ls  hf; cases hf
    | succ n16 ih16 =>
      have B54 : ∀ (x1 : Int32) (x2 : Int32) (x3 : Int32) (S : si_St) (H : Heap) (locs : List Loc) (ls : Array Slot) , f_X10_fewestMasses_h54 F (f_X10_fewestMasses_l16 F n16) x1 x2 x3 S = some o → si_Ws E A s.heap S H locs → lv_has ls 4 [(0, .ref (E.2.1 87)), (1, .int x1), (2, .int x2), (3, .int x3)] → W p l e rm_X10_fewestMasses s m args below meth c H locs 0 0 Q (F0 m 54 ls []) := by
        intro x1 x2 x3  S H locs ls  hf hw hl
        unfold f_X10_fewestMasses_h54 at hf
        obtain ⟨v1, ev1, hf⟩ := si_ob hf
        refine lv_iinc (v := v1) (lv' := [(3, .int v1), (0, .ref (E.2.1 87)), (1, .int x1), (2, .int x2)]) X.1 X.2.1 dX10_fewestMasses_54 hl (k := 3) rfl (Option.some.inj ev1) (by decide) rfl (fun ls hl => ?_)
        refine lv_goto (tgt := 16) X.1 X.2.1 dX10_fewestMasses_57 (by decide) ?_
        exact ih16 _ _ _ _ _ _ _ hf hw (lv_sub hl [1, 2, 3, 0] rfl)
      have B52 : ∀ (x1 : Int32) (x3 : Int32) (S : si_St) (H : Heap) (locs : List Loc) (ls : Array Slot) , f_X10_fewestMasses_h52 F (f_X10_fewestMasses_l16 F n16) x1 x3 S = some o → si_Ws E A s.heap S H locs → lv_has ls 4 [(0, .ref (E.2.1 87)), (1, .int x1), (3, .int x3)] → W p l e rm_X10_fewestMasses s m args below meth c H locs 0 0 Q (F0 m 52 ls []) := by
        intro x1 x3  S H locs ls  hf hw hl
        unfold f_X10_fewestMasses_h52 at hf
        refine lv_iload_n X.1 X.2.1 dX10_fewestMasses_52 rfl (lv_at hl 2 rfl) ?_
        refine lv_istore_n (lv' := [(2, .int x3), (0, .ref (E.2.1 87)), (1, .int x1), (3, .int x3)]) X.1 X.2.1 dX10_fewestMasses_53 rfl hl (by decide) rfl (fun ls hl => ?_)
        exact B54 _ _ _ _ _ _ _ hf hw (lv_sub hl [1, 2, 0, 3] rfl)
      intro x1 x2 x3  S H locs ls  hf hw hl
      have hf : f_X10_fewestMasses_h16 F (f_X10_fewestMasses_l16 F n16) x1 x2 x3 S = some o := hf
      unfold f_X10_fewestMasses_h16 at hf
      refine lv_iload_n X.1 X.2.1 dX10_fewestMasses_16 rfl (lv_at hl 3 rfl) ?_
      refine lv_iconst (v := 1) X.1 X.2.1 dX10_fewestMasses_17 (by decide) ?_
      refine lv_aload_n X.1 X.2.1 dX10_fewestMasses_18 rfl (lv_at hl 0 rfl) ?_
      refine si_getI X hw si_cl10 8 (by decide) gf_RX10_225 rfl rfl rfl dX10_fewestMasses_19 ?_
      refine lv_ishl X.1 X.2.1 dX10_fewestMasses_22 ?_
      refine lv_icmp_ge (tgt := 60) X.1 X.2.1 dX10_fewestMasses_23 (by decide) (fun c23 => ?_) (fun c23 => ?_)
      · have hf := si_ip c23 hf
        refine lv_iload_n X.1 X.2.1 dX10_fewestMasses_60 rfl (lv_at hl 2 rfl) ?_
        exact hret _ _ _ _ _ _ hf hw dX10_fewestMasses_61
      · have hf := si_in c23 hf
        refine lv_aload_n X.1 X.2.1 dX10_fewestMasses_26 rfl (lv_at hl 0 rfl) ?_
        refine lv_iload_n X.1 X.2.1 dX10_fewestMasses_27 rfl (lv_at hl 3 rfl) ?_
        obtain ⟨q2, eq2, hf⟩ := si_ob hf
        refine si_cVi [.int x3] cal_X10_sumOf gm_RX10_241 X hw hA hl.1 (c_X10_sumOf l E F x3 S q2 eq2) si_cl10 rfl ⟨⟨rfl, rfl⟩, Nat.le_of_ble_eq_true rfl, Nat.le_of_ble_eq_true rfl⟩ rfl rfl (Nat.le_of_ble_eq_true rfl) ⟨Nat.zero_le _, Nat.zero_le _⟩ dX10_fewestMasses_28 (fun H locs hw => ?_)
        refine lv_iload_n X.1 X.2.1 dX10_fewestMasses_31 rfl (lv_at hl 1 rfl) ?_
        refine lv_icmp_ne (tgt := 54) X.1 X.2.1 dX10_fewestMasses_32 (by decide) (fun c32 => ?_) (fun c32 => ?_)
        · have hf := si_in c32 hf
          exact B54 _ _ _ _ _ _ _ hf hw (lv_sub hl [0, 1, 2, 3] rfl)
        · have hf := si_ip c32 hf
          refine lv_iload_n X.1 X.2.1 dX10_fewestMasses_35 rfl (lv_at hl 2 rfl) ?_
          refine lv_bipush (v := (-2)) X.1 X.2.1 dX10_fewestMasses_36 (by decide) ?_
          refine lv_icmp_eq (tgt := 52) X.1 X.2.1 dX10_fewestMasses_38 (by decide) (fun c38 => ?_) (fun c38 => ?_)
          · have hf := si_ip c38 hf
            exact B52 _ _ _ _ _ _ hf hw (lv_sub hl [0, 1, 3] rfl)
          · have hf := si_in c38 hf
            refine lv_iload_n X.1 X.2.1 dX10_fewestMasses_41 rfl (lv_at hl 3 rfl) ?_
            obtain ⟨q3, eq3, hf⟩ := si_ob hf
            refine si_cSi [.int x3] cal_X10_bits gm_RX10_244 X hw hA hl.1 (c_X10_bits l E F x3 q2.2 q3 eq3) ⟨⟨rfl, rfl⟩, Nat.le_of_ble_eq_true rfl, Nat.le_of_ble_eq_true rfl⟩ rfl rfl (Nat.le_of_ble_eq_true rfl) ⟨Nat.zero_le _, Nat.zero_le _⟩ dX10_fewestMasses_42 (fun H locs hw => ?_)
            refine lv_iload_n X.1 X.2.1 dX10_fewestMasses_45 rfl (lv_at hl 2 rfl) ?_
            obtain ⟨q4, eq4, hf⟩ := si_ob hf
            refine si_cSi [.int x2] cal_X10_bits gm_RX10_244 X hw hA hl.1 (c_X10_bits l E F x2 q3.2 q4 eq4) ⟨⟨rfl, rfl⟩, Nat.le_of_ble_eq_true rfl, Nat.le_of_ble_eq_true rfl⟩ rfl rfl (Nat.le_of_ble_eq_true rfl) ⟨Nat.zero_le _, Nat.zero_le _⟩ dX10_fewestMasses_46 (fun H locs hw => ?_)
            refine lv_icmp_ge (tgt := 54) X.1 X.2.1 dX10_fewestMasses_49 (by decide) (fun c49 => ?_) (fun c49 => ?_)
            · have hf := si_ip c49 hf
              exact B54 _ _ _ _ _ _ _ hf hw (lv_sub hl [0, 1, 2, 3] rfl)
            · have hf := si_in c49 hf
              exact B52 _ _ _ _ _ _ hf hw (lv_sub hl [0, 1, 3] rfl)
  unfold f_X10_fewestMasses at hf
  refine lv_aload_n X.1 X.2.1 dX10_fewestMasses_0 rfl (lv_at hl 0 rfl) ?_
  refine lv_iconst (v := 0) X.1 X.2.1 dX10_fewestMasses_1 (by decide) ?_
  obtain ⟨S5, eS5, hf⟩ := si_ob hf
  refine si_ptI X hw si_cl10 0 (by decide) gf_RX10_1 rfl rfl rfl rfl rfl eS5 dX10_fewestMasses_2 (fun H locs hw => ?_)
  refine lv_iload_n X.1 X.2.1 dX10_fewestMasses_5 rfl (lv_at hl 1 rfl) ?_
  refine lv_if_ge (tgt := 11) X.1 X.2.1 dX10_fewestMasses_6 (by decide) (fun c6 => ?_) (fun c6 => ?_)
  · have hf := si_ip c6 hf
    refine lv_bipush (v := (-2)) X.1 X.2.1 dX10_fewestMasses_11 (by decide) ?_
    refine lv_istore_n (lv' := [(2, .int (-2)), (0, .ref (E.2.1 87)), (1, .int x1)]) X.1 X.2.1 dX10_fewestMasses_13 rfl hl (by decide) rfl (fun ls hl => ?_)
    refine lv_iconst (v := 0) X.1 X.2.1 dX10_fewestMasses_14 (by decide) ?_
    refine lv_istore_n (lv' := [(3, .int 0), (2, .int (-2)), (0, .ref (E.2.1 87)), (1, .int x1)]) X.1 X.2.1 dX10_fewestMasses_15 rfl hl (by decide) rfl (fun ls hl => ?_)
    exact B16 F _ _ _ _ _ _ _ hf hw (lv_sub hl [2, 3, 1, 0] rfl)
  · have hf := si_in c6 hf
    refine lv_iconst (v := (-1)) X.1 X.2.1 dX10_fewestMasses_9 (by decide) ?_
    exact hret _ _ _ _ _ _ hf hw dX10_fewestMasses_10
abbrev rm_X10_closestLoad : Room := { frames := 1, cells := 0, slots := 0, locals := 23 }
set_option maxHeartbeats 4000000 in
set_option maxRecDepth 100000 in
theorem c_X10_closestLoad (l : Launch) (E : si_Ev) (F : Nat) (x1 : Int32) (S : si_St) (o : Int32 × si_St) (hf : f_X10_closestLoad F x1 S = some o) : si_Mi l E yX10_closestLoad cX10_closestLoad 5 (some .int) rm_X10_closestLoad [.ref (E.2.1 87), .int x1] S o := by
  refine si_ofWi (plainFor_of_name (by decide +kernel)) (Nat.le_of_ble_eq_true rfl) ?_
  intro p e s m args below meth c ls Q A X hw hA hl hret
  have hl : lv_has ls 5 [(0, .ref (E.2.1 87)), (1, .int x1)] := hl
  have B15 : ∀ (n15 : Nat) (x1 : Int32) (x2 : Int32) (x3 : Int32) (S : si_St) (H : Heap) (locs : List Loc) (ls : Array Slot) , f_X10_closestLoad_l15 F n15 x1 x2 x3 S = some o → si_Ws E A s.heap S H locs → lv_has ls 5 [(0, .ref (E.2.1 87)), (1, .int x1), (2, .int x2), (3, .int x3)] → W p l e rm_X10_closestLoad s m args below meth c H locs 0 0 Q (F0 m 15 ls []) := by
    intro n15
    induction n15 with
    | zero => intro x1 x2 x3  S H locs ls  hf; cases hf
    | succ n15 ih15 =>
      have B50 : ∀ (x1 : Int32) (x3 : Int32) (t0 : Int32) (S : si_St) (H : Heap) (locs : List Loc) (ls : Array Slot) , f_X10_closestLoad_h50 F (f_X10_closestLoad_l15 F n15) x1 x3 t0 S = some o → si_Ws E A s.heap S H locs → lv_has ls 5 [(0, .ref (E.2.1 87)), (1, .int x1), (3, .int x3)] → W p l e rm_X10_closestLoad s m args below meth c H locs 0 0 Q (F0 m 50 ls [.int t0]) := by
        intro x1 x3 t0  S H locs ls  hf hw hl
        unfold f_X10_closestLoad_h50 at hf
        refine lv_istore_n (lv' := [(2, .int t0), (0, .ref (E.2.1 87)), (1, .int x1), (3, .int x3)]) X.1 X.2.1 dX10_closestLoad_50 rfl hl (by decide) rfl (fun ls hl => ?_)
        obtain ⟨v1, ev1, hf⟩ := si_ob hf
        refine lv_iinc (v := v1) (lv' := [(3, .int v1), (2, .int t0), (0, .ref (E.2.1 87)), (1, .int x1)]) X.1 X.2.1 dX10_closestLoad_51 hl (k := 3) rfl (Option.some.inj ev1) (by decide) rfl (fun ls hl => ?_)
        refine lv_goto (tgt := 15) X.1 X.2.1 dX10_closestLoad_54 (by decide) ?_
        exact ih15 _ _ _ _ _ _ _ hf hw (lv_sub hl [2, 3, 1, 0] rfl)
      have B49 : ∀ (x1 : Int32) (x2 : Int32) (x3 : Int32) (S : si_St) (H : Heap) (locs : List Loc) (ls : Array Slot) , f_X10_closestLoad_h49 F (f_X10_closestLoad_l15 F n15) x1 x2 x3 S = some o → si_Ws E A s.heap S H locs → lv_has ls 5 [(0, .ref (E.2.1 87)), (1, .int x1), (2, .int x2), (3, .int x3)] → W p l e rm_X10_closestLoad s m args below meth c H locs 0 0 Q (F0 m 49 ls []) := by
        intro x1 x2 x3  S H locs ls  hf hw hl
        unfold f_X10_closestLoad_h49 at hf
        refine lv_iload_n X.1 X.2.1 dX10_closestLoad_49 rfl (lv_at hl 2 rfl) ?_
        exact B50 _ _ _ _ _ _ _ hf hw (lv_sub hl [0, 1, 3] rfl)
      intro x1 x2 x3  S H locs ls  hf hw hl
      have hf : f_X10_closestLoad_h15 F (f_X10_closestLoad_l15 F n15) x1 x2 x3 S = some o := hf
      unfold f_X10_closestLoad_h15 at hf
      refine lv_iload_n X.1 X.2.1 dX10_closestLoad_15 rfl (lv_at hl 3 rfl) ?_
      refine lv_iconst (v := 1) X.1 X.2.1 dX10_closestLoad_16 (by decide) ?_
      refine lv_aload_n X.1 X.2.1 dX10_closestLoad_17 rfl (lv_at hl 0 rfl) ?_
      refine si_getI X hw si_cl10 8 (by decide) gf_RX10_225 rfl rfl rfl dX10_closestLoad_18 ?_
      refine lv_ishl X.1 X.2.1 dX10_closestLoad_21 ?_
      refine lv_icmp_ge (tgt := 57) X.1 X.2.1 dX10_closestLoad_22 (by decide) (fun c22 => ?_) (fun c22 => ?_)
      · have hf := si_ip c22 hf
        refine lv_iload_n X.1 X.2.1 dX10_closestLoad_57 rfl (lv_at hl 2 rfl) ?_
        exact hret _ _ _ _ _ _ hf hw dX10_closestLoad_58
      · have hf := si_in c22 hf
        refine lv_aload_n X.1 X.2.1 dX10_closestLoad_25 rfl (lv_at hl 0 rfl) ?_
        refine lv_iload_n X.1 X.2.1 dX10_closestLoad_26 rfl (lv_at hl 3 rfl) ?_
        obtain ⟨q2, eq2, hf⟩ := si_ob hf
        refine si_cVi [.int x3] cal_X10_sumOf gm_RX10_241 X hw hA hl.1 (c_X10_sumOf l E F x3 S q2 eq2) si_cl10 rfl ⟨⟨rfl, rfl⟩, Nat.le_of_ble_eq_true rfl, Nat.le_of_ble_eq_true rfl⟩ rfl rfl (Nat.le_of_ble_eq_true rfl) ⟨Nat.zero_le _, Nat.zero_le _⟩ dX10_closestLoad_27 (fun H locs hw => ?_)
        refine lv_istore (lv' := [(4, .int q2.1), (0, .ref (E.2.1 87)), (1, .int x1), (2, .int x2), (3, .int x3)]) X.1 X.2.1 dX10_closestLoad_30 hl (by decide) rfl (fun ls hl => ?_)
        refine lv_iload X.1 X.2.1 dX10_closestLoad_32 (lv_at hl 0 rfl) ?_
        refine lv_iload_n X.1 X.2.1 dX10_closestLoad_34 rfl (lv_at hl 2 rfl) ?_
        refine lv_icmp_gt (tgt := 49) X.1 X.2.1 dX10_closestLoad_35 (by decide) (fun c35 => ?_) (fun c35 => ?_)
        · have hf := si_ip c35 hf
          exact B49 _ _ _ _ _ _ _ hf hw (lv_sub hl [1, 2, 3, 4] rfl)
        · have hf := si_in c35 hf
          refine lv_iload X.1 X.2.1 dX10_closestLoad_38 (lv_at hl 0 rfl) ?_
          refine lv_iload_n X.1 X.2.1 dX10_closestLoad_40 rfl (lv_at hl 3 rfl) ?_
          refine lv_icmp_le (tgt := 49) X.1 X.2.1 dX10_closestLoad_41 (by decide) (fun c41 => ?_) (fun c41 => ?_)
          · have hf := si_ip c41 hf
            exact B49 _ _ _ _ _ _ _ hf hw (lv_sub hl [1, 2, 3, 4] rfl)
          · have hf := si_in c41 hf
            refine lv_iload X.1 X.2.1 dX10_closestLoad_44 (lv_at hl 0 rfl) ?_
            refine lv_goto (tgt := 50) X.1 X.2.1 dX10_closestLoad_46 (by decide) ?_
            exact B50 _ _ _ _ _ _ _ hf hw (lv_sub hl [1, 2, 4] rfl)
  unfold f_X10_closestLoad at hf
  refine lv_aload_n X.1 X.2.1 dX10_closestLoad_0 rfl (lv_at hl 0 rfl) ?_
  refine lv_iconst (v := 0) X.1 X.2.1 dX10_closestLoad_1 (by decide) ?_
  obtain ⟨S3, eS3, hf⟩ := si_ob hf
  refine si_ptI X hw si_cl10 0 (by decide) gf_RX10_1 rfl rfl rfl rfl rfl eS3 dX10_closestLoad_2 (fun H locs hw => ?_)
  refine lv_iload_n X.1 X.2.1 dX10_closestLoad_5 rfl (lv_at hl 1 rfl) ?_
  refine lv_if_ge (tgt := 11) X.1 X.2.1 dX10_closestLoad_6 (by decide) (fun c6 => ?_) (fun c6 => ?_)
  · have hf := si_ip c6 hf
    refine lv_iconst (v := 0) X.1 X.2.1 dX10_closestLoad_11 (by decide) ?_
    refine lv_istore_n (lv' := [(2, .int 0), (0, .ref (E.2.1 87)), (1, .int x1)]) X.1 X.2.1 dX10_closestLoad_12 rfl hl (by decide) rfl (fun ls hl => ?_)
    refine lv_iconst (v := 0) X.1 X.2.1 dX10_closestLoad_13 (by decide) ?_
    refine lv_istore_n (lv' := [(3, .int 0), (2, .int 0), (0, .ref (E.2.1 87)), (1, .int x1)]) X.1 X.2.1 dX10_closestLoad_14 rfl hl (by decide) rfl (fun ls hl => ?_)
    exact B15 F _ _ _ _ _ _ _ hf hw (lv_sub hl [2, 3, 1, 0] rfl)
  · have hf := si_in c6 hf
    refine lv_iconst (v := (-1)) X.1 X.2.1 dX10_closestLoad_9 (by decide) ?_
    exact hret _ _ _ _ _ _ hf hw dX10_closestLoad_10
abbrev rm_X10_twoPans : Room := { frames := 1, cells := 0, slots := 0, locals := 23 }
set_option maxHeartbeats 4000000 in
set_option maxRecDepth 100000 in
theorem c_X10_twoPans (l : Launch) (E : si_Ev) (F : Nat) (x1 : Int32) (S : si_St) (o : Int32 × si_St) (hf : f_X10_twoPans F x1 S = some o) : si_Mi l E yX10_twoPans cX10_twoPans 7 (some .int) rm_X10_twoPans [.ref (E.2.1 87), .int x1] S o := by
  refine si_ofWi (plainFor_of_name (by decide +kernel)) (Nat.le_of_ble_eq_true rfl) ?_
  intro p e s m args below meth c ls Q A X hw hA hl hret
  have hl : lv_has ls 7 [(0, .ref (E.2.1 87)), (1, .int x1)] := hl
  have B52 : ∀ (n52 : Nat) (x1 : Int32) (x2 : Int32) (x3 : Int32) (x4 : Int32) (x5 : Int32) (S : si_St) (H : Heap) (locs : List Loc) (ls : Array Slot) , f_X10_twoPans_l52 F n52 x1 x2 x3 x4 x5 S = some o → si_Ws E A s.heap S H locs → lv_has ls 7 [(0, .ref (E.2.1 87)), (1, .int x1), (2, .int x2), (3, .int x3), (4, .int x4), (5, .int x5)] → W p l e rm_X10_twoPans s m args below meth c H locs 0 0 Q (F0 m 52 ls []) := by
    intro n52
    induction n52 with
    | zero => intro x1 x2 x3 x4 x5  S H locs ls  hf; cases hf
    | succ n52 ih52 =>
      have B144 : ∀ (x1 : Int32) (x2 : Int32) (x3 : Int32) (x4 : Int32) (x5 : Int32) (S : si_St) (H : Heap) (locs : List Loc) (ls : Array Slot) , f_X10_twoPans_h144 F (f_X10_twoPans_l52 F n52) x1 x2 x3 x4 x5 S = some o → si_Ws E A s.heap S H locs → lv_has ls 7 [(0, .ref (E.2.1 87)), (1, .int x1), (2, .int x2), (3, .int x3), (4, .int x4), (5, .int x5)] → W p l e rm_X10_twoPans s m args below meth c H locs 0 0 Q (F0 m 144 ls []) := by
        intro x1 x2 x3 x4 x5  S H locs ls  hf hw hl
        unfold f_X10_twoPans_h144 at hf
        obtain ⟨v1, ev1, hf⟩ := si_ob hf
        refine lv_iinc (v := v1) (lv' := [(5, .int v1), (0, .ref (E.2.1 87)), (1, .int x1), (2, .int x2), (3, .int x3), (4, .int x4)]) X.1 X.2.1 dX10_twoPans_144 hl (k := 5) rfl (Option.some.inj ev1) (by decide) rfl (fun ls hl => ?_)
        refine lv_goto (tgt := 52) X.1 X.2.1 dX10_twoPans_147 (by decide) ?_
        exact ih52 _ _ _ _ _ _ _ _ _ hf hw (lv_sub hl [1, 2, 3, 4, 5, 0] rfl)
      have B61 : ∀ (n61 : Nat) (x1 : Int32) (x2 : Int32) (x3 : Int32) (x4 : Int32) (x5 : Int32) (x6 : Int32) (S : si_St) (H : Heap) (locs : List Loc) (ls : Array Slot) , f_X10_twoPans_l61 F (f_X10_twoPans_l52 F n52) n61 x1 x2 x3 x4 x5 x6 S = some o → si_Ws E A s.heap S H locs → lv_has ls 7 [(0, .ref (E.2.1 87)), (1, .int x1), (2, .int x2), (3, .int x3), (4, .int x4), (5, .int x5), (6, .int x6)] → W p l e rm_X10_twoPans s m args below meth c H locs 0 0 Q (F0 m 61 ls []) := by
        intro n61
        induction n61 with
        | zero => intro x1 x2 x3 x4 x5 x6  S H locs ls  hf; cases hf
        | succ n61 ih61 =>
          have B138 : ∀ (x1 : Int32) (x2 : Int32) (x3 : Int32) (x4 : Int32) (x5 : Int32) (x6 : Int32) (S : si_St) (H : Heap) (locs : List Loc) (ls : Array Slot) , f_X10_twoPans_h138 F (f_X10_twoPans_l52 F n52) (f_X10_twoPans_l61 F (f_X10_twoPans_l52 F n52) n61) x1 x2 x3 x4 x5 x6 S = some o → si_Ws E A s.heap S H locs → lv_has ls 7 [(0, .ref (E.2.1 87)), (1, .int x1), (2, .int x2), (3, .int x3), (4, .int x4), (5, .int x5), (6, .int x6)] → W p l e rm_X10_twoPans s m args below meth c H locs 0 0 Q (F0 m 138 ls []) := by
            intro x1 x2 x3 x4 x5 x6  S H locs ls  hf hw hl
            unfold f_X10_twoPans_h138 at hf
            obtain ⟨v2, ev2, hf⟩ := si_ob hf
            refine lv_iinc (v := v2) (lv' := [(6, .int v2), (0, .ref (E.2.1 87)), (1, .int x1), (2, .int x2), (3, .int x3), (4, .int x4), (5, .int x5)]) X.1 X.2.1 dX10_twoPans_138 hl (k := 6) rfl (Option.some.inj ev2) (by decide) rfl (fun ls hl => ?_)
            refine lv_goto (tgt := 61) X.1 X.2.1 dX10_twoPans_141 (by decide) ?_
            exact ih61 _ _ _ _ _ _ _ _ _ _ hf hw (lv_sub hl [1, 2, 3, 4, 5, 6, 0] rfl)
          intro x1 x2 x3 x4 x5 x6  S H locs ls  hf hw hl
          have hf : f_X10_twoPans_h61 F (f_X10_twoPans_l52 F n52) (f_X10_twoPans_l61 F (f_X10_twoPans_l52 F n52) n61) x1 x2 x3 x4 x5 x6 S = some o := hf
          unfold f_X10_twoPans_h61 at hf
          refine lv_iload X.1 X.2.1 dX10_twoPans_61 (lv_at hl 6 rfl) ?_
          refine lv_iload_n X.1 X.2.1 dX10_twoPans_63 rfl (lv_at hl 2 rfl) ?_
          refine lv_icmp_ge (tgt := 144) X.1 X.2.1 dX10_twoPans_64 (by decide) (fun c64 => ?_) (fun c64 => ?_)
          · have hf := si_ip c64 hf
            exact B144 _ _ _ _ _ _ _ _ _ hf hw (lv_sub hl [0, 1, 2, 3, 4, 5] rfl)
          · have hf := si_in c64 hf
            refine lv_aload_n X.1 X.2.1 dX10_twoPans_67 rfl (lv_at hl 0 rfl) ?_
            refine si_getR (k' := 106) (d := 19) X hw si_cl10 36 (by decide) gf_RX10_73 rfl rfl rfl (by decide) rfl dX10_twoPans_68 ?_
            refine lv_iload X.1 X.2.1 dX10_twoPans_71 (lv_at hl 5 rfl) ?_
            obtain ⟨v3, ev3, hf⟩ := si_ob hf
            refine si_iald X hw rfl ev3 dX10_twoPans_73 ?_
            refine lv_iload_n X.1 X.2.1 dX10_twoPans_74 rfl (lv_at hl 1 rfl) ?_
            refine lv_icmp_lt (tgt := 144) X.1 X.2.1 dX10_twoPans_75 (by decide) (fun c75 => ?_) (fun c75 => ?_)
            · have hf := si_ip c75 hf
              exact B144 _ _ _ _ _ _ _ _ _ hf hw (lv_sub hl [0, 1, 2, 3, 4, 5] rfl)
            · have hf := si_in c75 hf
              refine lv_iload X.1 X.2.1 dX10_twoPans_78 (lv_at hl 6 rfl) ?_
              refine lv_iload X.1 X.2.1 dX10_twoPans_80 (lv_at hl 5 rfl) ?_
              refine lv_iand X.1 X.2.1 dX10_twoPans_82 ?_
              refine lv_if_ne (tgt := 138) X.1 X.2.1 dX10_twoPans_83 (by decide) (fun c83 => ?_) (fun c83 => ?_)
              · have hf := si_in c83 hf
                exact B138 _ _ _ _ _ _ _ _ _ _ hf hw (lv_sub hl [0, 1, 2, 3, 4, 5, 6] rfl)
              · have hf := si_ip c83 hf
                refine lv_aload_n X.1 X.2.1 dX10_twoPans_86 rfl (lv_at hl 0 rfl) ?_
                refine si_getR (k' := 106) (d := 19) X hw si_cl10 36 (by decide) gf_RX10_73 rfl rfl rfl (by decide) rfl dX10_twoPans_87 ?_
                refine lv_iload X.1 X.2.1 dX10_twoPans_90 (lv_at hl 5 rfl) ?_
                obtain ⟨v4, ev4, hf⟩ := si_ob hf
                refine si_iald X hw rfl ev4 dX10_twoPans_92 ?_
                refine lv_aload_n X.1 X.2.1 dX10_twoPans_93 rfl (lv_at hl 0 rfl) ?_
                refine si_getR (k' := 106) (d := 19) X hw si_cl10 36 (by decide) gf_RX10_73 rfl rfl rfl (by decide) rfl dX10_twoPans_94 ?_
                refine lv_iload X.1 X.2.1 dX10_twoPans_97 (lv_at hl 6 rfl) ?_
                obtain ⟨v5, ev5, hf⟩ := si_ob hf
                refine si_iald X hw rfl ev5 dX10_twoPans_99 ?_
                refine lv_isub X.1 X.2.1 dX10_twoPans_100 ?_
                refine lv_iload_n X.1 X.2.1 dX10_twoPans_101 rfl (lv_at hl 1 rfl) ?_
                refine lv_icmp_ne (tgt := 138) X.1 X.2.1 dX10_twoPans_102 (by decide) (fun c102 => ?_) (fun c102 => ?_)
                · have hf := si_in c102 hf
                  exact B138 _ _ _ _ _ _ _ _ _ _ hf hw (lv_sub hl [0, 1, 2, 3, 4, 5, 6] rfl)
                · have hf := si_ip c102 hf
                  refine lv_iload X.1 X.2.1 dX10_twoPans_105 (lv_at hl 6 rfl) ?_
                  refine lv_iload X.1 X.2.1 dX10_twoPans_107 (lv_at hl 5 rfl) ?_
                  refine lv_ior X.1 X.2.1 dX10_twoPans_109 ?_
                  obtain ⟨q6, eq6, hf⟩ := si_ob hf
                  refine si_cSi [.int (x6 ||| x5)] cal_X10_bits gm_RX10_244 X hw hA hl.1 (c_X10_bits l E F (x6 ||| x5) S q6 eq6) ⟨⟨rfl, rfl⟩, Nat.le_of_ble_eq_true rfl, Nat.le_of_ble_eq_true rfl⟩ rfl rfl (Nat.le_of_ble_eq_true rfl) ⟨Nat.zero_le _, Nat.zero_le _⟩ dX10_twoPans_110 (fun H locs hw => ?_)
                  refine lv_iload X.1 X.2.1 dX10_twoPans_113 (lv_at hl 4 rfl) ?_
                  refine lv_icmp_ge (tgt := 138) X.1 X.2.1 dX10_twoPans_115 (by decide) (fun c115 => ?_) (fun c115 => ?_)
                  · have hf := si_ip c115 hf
                    exact B138 _ _ _ _ _ _ _ _ _ _ hf hw (lv_sub hl [0, 1, 2, 3, 4, 5, 6] rfl)
                  · have hf := si_in c115 hf
                    refine lv_iload X.1 X.2.1 dX10_twoPans_118 (lv_at hl 6 rfl) ?_
                    refine lv_iload X.1 X.2.1 dX10_twoPans_120 (lv_at hl 5 rfl) ?_
                    refine lv_ior X.1 X.2.1 dX10_twoPans_122 ?_
                    obtain ⟨q7, eq7, hf⟩ := si_ob hf
                    refine si_cSi [.int (x6 ||| x5)] cal_X10_bits gm_RX10_244 X hw hA hl.1 (c_X10_bits l E F (x6 ||| x5) q6.2 q7 eq7) ⟨⟨rfl, rfl⟩, Nat.le_of_ble_eq_true rfl, Nat.le_of_ble_eq_true rfl⟩ rfl rfl (Nat.le_of_ble_eq_true rfl) ⟨Nat.zero_le _, Nat.zero_le _⟩ dX10_twoPans_123 (fun H locs hw => ?_)
                    refine lv_istore (lv' := [(4, .int q7.1), (0, .ref (E.2.1 87)), (1, .int x1), (2, .int x2), (3, .int x3), (5, .int x5), (6, .int x6)]) X.1 X.2.1 dX10_twoPans_126 hl (by decide) rfl (fun ls hl => ?_)
                    refine lv_iload X.1 X.2.1 dX10_twoPans_128 (lv_at hl 5 rfl) ?_
                    refine lv_sipush (v := 1024) X.1 X.2.1 dX10_twoPans_130 (by decide) ?_
                    refine lv_iload X.1 X.2.1 dX10_twoPans_133 (lv_at hl 6 rfl) ?_
                    refine lv_imul X.1 X.2.1 dX10_twoPans_135 ?_
                    refine lv_iadd X.1 X.2.1 dX10_twoPans_136 ?_
                    obtain ⟨v8, ev8, hf⟩ := si_ob hf
                    refine si_nmI ev8 ?_
                    refine lv_istore_n (lv' := [(3, .int v8), (4, .int q7.1), (0, .ref (E.2.1 87)), (1, .int x1), (2, .int x2), (5, .int x5), (6, .int x6)]) X.1 X.2.1 dX10_twoPans_137 rfl hl (by decide) rfl (fun ls hl => ?_)
                    exact B138 _ _ _ _ _ _ _ _ _ _ hf hw (lv_sub hl [2, 3, 4, 0, 1, 5, 6] rfl)
      intro x1 x2 x3 x4 x5  S H locs ls  hf hw hl
      have hf : f_X10_twoPans_h52 F (f_X10_twoPans_l52 F n52) x1 x2 x3 x4 x5 S = some o := hf
      unfold f_X10_twoPans_h52 at hf
      refine lv_iload X.1 X.2.1 dX10_twoPans_52 (lv_at hl 5 rfl) ?_
      refine lv_iload_n X.1 X.2.1 dX10_twoPans_54 rfl (lv_at hl 2 rfl) ?_
      refine lv_icmp_ge (tgt := 150) X.1 X.2.1 dX10_twoPans_55 (by decide) (fun c55 => ?_) (fun c55 => ?_)
      · have hf := si_ip c55 hf
        refine lv_iload_n X.1 X.2.1 dX10_twoPans_150 rfl (lv_at hl 3 rfl) ?_
        exact hret _ _ _ _ _ _ hf hw dX10_twoPans_151
      · have hf := si_in c55 hf
        refine lv_iconst (v := 0) X.1 X.2.1 dX10_twoPans_58 (by decide) ?_
        refine lv_istore (lv' := [(6, .int 0), (0, .ref (E.2.1 87)), (1, .int x1), (2, .int x2), (3, .int x3), (4, .int x4), (5, .int x5)]) X.1 X.2.1 dX10_twoPans_59 hl (by decide) rfl (fun ls hl => ?_)
        exact B61 F _ _ _ _ _ _ _ _ _ _ hf hw (lv_sub hl [1, 2, 3, 4, 5, 6, 0] rfl)
  have B20 : ∀ (n20 : Nat) (x1 : Int32) (x2 : Int32) (x3 : Int32) (S : si_St) (H : Heap) (locs : List Loc) (ls : Array Slot) , f_X10_twoPans_l20 F n20 x1 x2 x3 S = some o → si_Ws E A s.heap S H locs → lv_has ls 7 [(0, .ref (E.2.1 87)), (1, .int x1), (2, .int x2), (3, .int x3)] → W p l e rm_X10_twoPans s m args below meth c H locs 0 0 Q (F0 m 20 ls []) := by
    intro n20
    induction n20 with
    | zero => intro x1 x2 x3  S H locs ls  hf; cases hf
    | succ n20 ih20 =>
      intro x1 x2 x3  S H locs ls  hf hw hl
      have hf : f_X10_twoPans_h20 F (f_X10_twoPans_l20 F n20) x1 x2 x3 S = some o := hf
      unfold f_X10_twoPans_h20 at hf
      refine lv_iload_n X.1 X.2.1 dX10_twoPans_20 rfl (lv_at hl 3 rfl) ?_
      refine lv_iload_n X.1 X.2.1 dX10_twoPans_21 rfl (lv_at hl 2 rfl) ?_
      refine lv_icmp_ge (tgt := 42) X.1 X.2.1 dX10_twoPans_22 (by decide) (fun c22 => ?_) (fun c22 => ?_)
      · have hf := si_ip c22 hf
        refine lv_bipush (v := (-2)) X.1 X.2.1 dX10_twoPans_42 (by decide) ?_
        refine lv_istore_n (lv' := [(3, .int (-2)), (0, .ref (E.2.1 87)), (1, .int x1), (2, .int x2)]) X.1 X.2.1 dX10_twoPans_44 rfl hl (by decide) rfl (fun ls hl => ?_)
        refine lv_bipush (v := 99) X.1 X.2.1 dX10_twoPans_45 (by decide) ?_
        refine lv_istore (lv' := [(4, .int 99), (3, .int (-2)), (0, .ref (E.2.1 87)), (1, .int x1), (2, .int x2)]) X.1 X.2.1 dX10_twoPans_47 hl (by decide) rfl (fun ls hl => ?_)
        refine lv_iconst (v := 0) X.1 X.2.1 dX10_twoPans_49 (by decide) ?_
        refine lv_istore (lv' := [(5, .int 0), (4, .int 99), (3, .int (-2)), (0, .ref (E.2.1 87)), (1, .int x1), (2, .int x2)]) X.1 X.2.1 dX10_twoPans_50 hl (by decide) rfl (fun ls hl => ?_)
        exact B52 F _ _ _ _ _ _ _ _ _ hf hw (lv_sub hl [3, 4, 5, 2, 1, 0] rfl)
      · have hf := si_in c22 hf
        refine lv_aload_n X.1 X.2.1 dX10_twoPans_25 rfl (lv_at hl 0 rfl) ?_
        refine si_getR (k' := 106) (d := 19) X hw si_cl10 36 (by decide) gf_RX10_73 rfl rfl rfl (by decide) rfl dX10_twoPans_26 ?_
        refine lv_iload_n X.1 X.2.1 dX10_twoPans_29 rfl (lv_at hl 3 rfl) ?_
        refine lv_aload_n X.1 X.2.1 dX10_twoPans_30 rfl (lv_at hl 0 rfl) ?_
        refine lv_iload_n X.1 X.2.1 dX10_twoPans_31 rfl (lv_at hl 3 rfl) ?_
        obtain ⟨q9, eq9, hf⟩ := si_ob hf
        refine si_cVi [.int x3] cal_X10_sumOf gm_RX10_241 X hw hA hl.1 (c_X10_sumOf l E F x3 S q9 eq9) si_cl10 rfl ⟨⟨rfl, rfl⟩, Nat.le_of_ble_eq_true rfl, Nat.le_of_ble_eq_true rfl⟩ rfl rfl (Nat.le_of_ble_eq_true rfl) ⟨Nat.zero_le _, Nat.zero_le _⟩ dX10_twoPans_32 (fun H locs hw => ?_)
        obtain ⟨S10, eS10, hf⟩ := si_ob hf
        refine si_iast X hw rfl eS10 dX10_twoPans_35 (fun H locs hw => ?_)
        obtain ⟨v11, ev11, hf⟩ := si_ob hf
        refine lv_iinc (v := v11) (lv' := [(3, .int v11), (0, .ref (E.2.1 87)), (1, .int x1), (2, .int x2)]) X.1 X.2.1 dX10_twoPans_36 hl (k := 3) rfl (Option.some.inj ev11) (by decide) rfl (fun ls hl => ?_)
        refine lv_goto (tgt := 20) X.1 X.2.1 dX10_twoPans_39 (by decide) ?_
        exact ih20 _ _ _ _ _ _ _ hf hw (lv_sub hl [1, 2, 3, 0] rfl)
  unfold f_X10_twoPans at hf
  refine lv_aload_n X.1 X.2.1 dX10_twoPans_0 rfl (lv_at hl 0 rfl) ?_
  refine lv_iconst (v := 0) X.1 X.2.1 dX10_twoPans_1 (by decide) ?_
  obtain ⟨S12, eS12, hf⟩ := si_ob hf
  refine si_ptI X hw si_cl10 0 (by decide) gf_RX10_1 rfl rfl rfl rfl rfl eS12 dX10_twoPans_2 (fun H locs hw => ?_)
  refine lv_iload_n X.1 X.2.1 dX10_twoPans_5 rfl (lv_at hl 1 rfl) ?_
  refine lv_if_ge (tgt := 11) X.1 X.2.1 dX10_twoPans_6 (by decide) (fun c6 => ?_) (fun c6 => ?_)
  · have hf := si_ip c6 hf
    refine lv_iconst (v := 1) X.1 X.2.1 dX10_twoPans_11 (by decide) ?_
    refine lv_aload_n X.1 X.2.1 dX10_twoPans_12 rfl (lv_at hl 0 rfl) ?_
    refine si_getI X hw si_cl10 8 (by decide) gf_RX10_225 rfl rfl rfl dX10_twoPans_13 ?_
    refine lv_ishl X.1 X.2.1 dX10_twoPans_16 ?_
    obtain ⟨v13, ev13, hf⟩ := si_ob hf
    refine si_nmI ev13 ?_
    refine lv_istore_n (lv' := [(2, .int v13), (0, .ref (E.2.1 87)), (1, .int x1)]) X.1 X.2.1 dX10_twoPans_17 rfl hl (by decide) rfl (fun ls hl => ?_)
    refine lv_iconst (v := 0) X.1 X.2.1 dX10_twoPans_18 (by decide) ?_
    refine lv_istore_n (lv' := [(3, .int 0), (2, .int v13), (0, .ref (E.2.1 87)), (1, .int x1)]) X.1 X.2.1 dX10_twoPans_19 rfl hl (by decide) rfl (fun ls hl => ?_)
    exact B20 F _ _ _ _ _ _ _ hf hw (lv_sub hl [2, 3, 1, 0] rfl)
  · have hf := si_in c6 hf
    refine lv_iconst (v := (-1)) X.1 X.2.1 dX10_twoPans_9 (by decide) ?_
    exact hret _ _ _ _ _ _ hf hw dX10_twoPans_10
abbrev rm_X10_isVisit : Room := { frames := 1, cells := 0, slots := 0, locals := 25 }
set_option maxHeartbeats 4000000 in
set_option maxRecDepth 100000 in
theorem c_X10_isVisit (l : Launch) (E : si_Ev) (F : Nat) (x1 : Int32) (S : si_St) (o : Int32 × si_St) (hf : f_X10_isVisit F x1 S = some o) : si_Mi l E yX10_isVisit cX10_isVisit 2 (some .boolean) rm_X10_isVisit [.ref (E.2.1 87), .int x1] S o := by
  refine si_ofWz (plainFor_of_name (by decide +kernel)) (Nat.le_of_ble_eq_true rfl) ?_
  intro p e s m args below meth c ls Q A X hw hA hl hret
  have hl : lv_has ls 2 [(0, .ref (E.2.1 87)), (1, .int x1)] := hl
  unfold f_X10_isVisit at hf
  refine lv_iload_n X.1 X.2.1 dX10_isVisit_0 rfl (lv_at hl 1 rfl) ?_
  refine lv_i2l (v := (Int32.toInt64 x1)) X.1 X.2.1 dX10_isVisit_1 rfl ?_
  refine lv_lconst (v := (0 : Int64)) X.1 X.2.1 dX10_isVisit_2 (by decide) ?_
  refine lv_aload_n X.1 X.2.1 dX10_isVisit_3 rfl (lv_at hl 0 rfl) ?_
  refine si_getR (k' := 88) (d := 1) X hw si_cl10 1 (by decide) gf_RX10_13 rfl rfl rfl (by decide) rfl dX10_isVisit_4 ?_
  refine lv_iconst (v := 0) X.1 X.2.1 dX10_isVisit_7 (by decide) ?_
  obtain ⟨v1, ev1, hf⟩ := si_ob hf
  refine si_iald X hw rfl ev1 dX10_isVisit_8 ?_
  refine lv_iconst (v := 1) X.1 X.2.1 dX10_isVisit_9 (by decide) ?_
  refine lv_isub X.1 X.2.1 dX10_isVisit_10 ?_
  refine lv_i2l (v := (Int32.toInt64 (v1 - 1))) X.1 X.2.1 dX10_isVisit_11 rfl ?_
  obtain ⟨q2, eq2, hf⟩ := si_ob hf
  refine si_cSi [.long (Int32.toInt64 x1), .long (0 : Int64), .long (Int32.toInt64 (v1 - 1))] cal_X10_within gm_RX10_124 X hw hA hl.1 (c_X10_within l E F (Int32.toInt64 x1) (0 : Int64) (Int32.toInt64 (v1 - 1)) S q2 eq2) ⟨⟨rfl, rfl⟩, Nat.le_of_ble_eq_true rfl, Nat.le_of_ble_eq_true rfl⟩ rfl rfl (Nat.le_of_ble_eq_true rfl) ⟨Nat.zero_le _, Nat.zero_le _⟩ dX10_isVisit_12 (fun H locs hw => ?_)
  obtain ⟨v3, ev3, hf⟩ := si_ob hf
  exact hret _ _ _ _ _ _ (si_bzf ev3 hf) (si_nz (si_bz_inv ev3).1) hw dX10_isVisit_15
abbrev rm_X10_keeps : Room := { frames := 1, cells := 0, slots := 0, locals := 25 }
set_option maxHeartbeats 4000000 in
set_option maxRecDepth 100000 in
theorem c_X10_keeps (l : Launch) (E : si_Ev) (F : Nat) (S : si_St) (o : si_St) (hf : f_X10_keeps F S = some o) : si_Mv l E yX10_keeps cX10_keeps 1 rm_X10_keeps [.ref (E.2.1 87)] S o := by
  refine si_ofWv (plainFor_of_name (by decide +kernel)) (Nat.le_of_ble_eq_true rfl) ?_
  intro p e s m args below meth c ls Q A X hw hA hl hret
  have hl : lv_has ls 1 [(0, .ref (E.2.1 87))] := hl
  have B42 : ∀ (S : si_St) (H : Heap) (locs : List Loc) (ls : Array Slot) , f_X10_keeps_h42 F S = some o → si_Ws E A s.heap S H locs → lv_has ls 1 [(0, .ref (E.2.1 87))] → W p l e rm_X10_keeps s m args below meth c H locs 0 0 Q (F0 m 42 ls []) := by
    intro   S H locs ls  hf hw hl
    unfold f_X10_keeps_h42 at hf
    refine lv_aload_n X.1 X.2.1 dX10_keeps_42 rfl (lv_at hl 0 rfl) ?_
    refine si_getR (k' := 88) (d := 1) X hw si_cl10 1 (by decide) gf_RX10_13 rfl rfl rfl (by decide) rfl dX10_keeps_43 ?_
    refine lv_iconst (v := 0) X.1 X.2.1 dX10_keeps_46 (by decide) ?_
    refine lv_aload_n X.1 X.2.1 dX10_keeps_47 rfl (lv_at hl 0 rfl) ?_
    refine si_getR (k' := 110) (d := 23) X hw si_cl10 42 (by decide) gf_RX10_85 rfl rfl rfl (by decide) rfl dX10_keeps_48 ?_
    refine lv_sipush (v := 677) X.1 X.2.1 dX10_keeps_51 (by decide) ?_
    refine lv_aload_n X.1 X.2.1 dX10_keeps_54 rfl (lv_at hl 0 rfl) ?_
    refine si_getI X hw si_cl10 41 (by decide) gf_RX10_231 rfl rfl rfl dX10_keeps_55 ?_
    refine lv_imul X.1 X.2.1 dX10_keeps_58 ?_
    refine lv_sipush (v := 677) X.1 X.2.1 dX10_keeps_59 (by decide) ?_
    obtain ⟨S1, eS1, hf⟩ := si_ob hf
    refine si_cSv [.ref (E.2.1 88), .int 0, .ref (E.2.1 110), .int (677 * (S.1 87 41)), .int 677] cal_X10_copies gm_RX10_221 X hw hA hl.1 (c_X10_copies l E F 88 110 rfl rfl 0 (677 * (S.1 87 41)) 677 S S1 eS1) ⟨⟨rfl, rfl⟩, Nat.le_of_ble_eq_true rfl, Nat.le_of_ble_eq_true rfl⟩ rfl rfl (Nat.le_of_ble_eq_true rfl) ⟨Nat.zero_le _, Nat.zero_le _⟩ dX10_keeps_62 (fun H locs hw => ?_)
    refine lv_aload_n X.1 X.2.1 dX10_keeps_65 rfl (lv_at hl 0 rfl) ?_
    refine lv_dup X.1 X.2.1 dX10_keeps_66 rfl ?_
    refine si_getI X hw si_cl10 41 (by decide) gf_RX10_231 rfl rfl rfl dX10_keeps_67 ?_
    refine lv_iconst (v := 1) X.1 X.2.1 dX10_keeps_70 (by decide) ?_
    refine lv_iadd X.1 X.2.1 dX10_keeps_71 ?_
    obtain ⟨S2, eS2, hf⟩ := si_ob hf
    refine si_ptI X hw si_cl10 41 (by decide) gf_RX10_231 rfl rfl rfl rfl rfl eS2 dX10_keeps_72 (fun H locs hw => ?_)
    exact hret _ _ _ _ _ hf hw dX10_keeps_75
  unfold f_X10_keeps at hf
  refine lv_aload_n X.1 X.2.1 dX10_keeps_0 rfl (lv_at hl 0 rfl) ?_
  refine si_getI X hw si_cl10 41 (by decide) gf_RX10_231 rfl rfl rfl dX10_keeps_1 ?_
  refine lv_bipush (v := 12) X.1 X.2.1 dX10_keeps_4 (by decide) ?_
  refine lv_icmp_ne (tgt := 42) X.1 X.2.1 dX10_keeps_6 (by decide) (fun c6 => ?_) (fun c6 => ?_)
  · have hf := si_in c6 hf
    exact B42 _ _ _ _ hf hw (lv_sub hl [0] rfl)
  · have hf := si_ip c6 hf
    refine lv_aload_n X.1 X.2.1 dX10_keeps_9 rfl (lv_at hl 0 rfl) ?_
    refine lv_dup X.1 X.2.1 dX10_keeps_10 rfl ?_
    refine si_getI X hw si_cl10 41 (by decide) gf_RX10_231 rfl rfl rfl dX10_keeps_11 ?_
    refine lv_iconst (v := 1) X.1 X.2.1 dX10_keeps_14 (by decide) ?_
    refine lv_isub X.1 X.2.1 dX10_keeps_15 ?_
    obtain ⟨S3, eS3, hf⟩ := si_ob hf
    refine si_ptI X hw si_cl10 41 (by decide) gf_RX10_231 rfl rfl rfl rfl rfl eS3 dX10_keeps_16 (fun H locs hw => ?_)
    refine lv_aload_n X.1 X.2.1 dX10_keeps_19 rfl (lv_at hl 0 rfl) ?_
    refine si_getR (k' := 110) (d := 23) X hw si_cl10 42 (by decide) gf_RX10_85 rfl rfl rfl (by decide) rfl dX10_keeps_20 ?_
    refine lv_sipush (v := 677) X.1 X.2.1 dX10_keeps_23 (by decide) ?_
    refine lv_aload_n X.1 X.2.1 dX10_keeps_26 rfl (lv_at hl 0 rfl) ?_
    refine si_getR (k' := 110) (d := 23) X hw si_cl10 42 (by decide) gf_RX10_85 rfl rfl rfl (by decide) rfl dX10_keeps_27 ?_
    refine lv_iconst (v := 0) X.1 X.2.1 dX10_keeps_30 (by decide) ?_
    refine lv_sipush (v := 677) X.1 X.2.1 dX10_keeps_31 (by decide) ?_
    refine lv_aload_n X.1 X.2.1 dX10_keeps_34 rfl (lv_at hl 0 rfl) ?_
    refine si_getI X hw si_cl10 41 (by decide) gf_RX10_231 rfl rfl rfl dX10_keeps_35 ?_
    refine lv_imul X.1 X.2.1 dX10_keeps_38 ?_
    obtain ⟨S4, eS4, hf⟩ := si_ob hf
    refine si_cSv [.ref (E.2.1 110), .int 677, .ref (E.2.1 110), .int 0, .int (677 * (S3.1 87 41))] cal_X10_copies gm_RX10_221 X hw hA hl.1 (c_X10_copies l E F 110 110 rfl rfl 677 0 (677 * (S3.1 87 41)) S3 S4 eS4) ⟨⟨rfl, rfl⟩, Nat.le_of_ble_eq_true rfl, Nat.le_of_ble_eq_true rfl⟩ rfl rfl (Nat.le_of_ble_eq_true rfl) ⟨Nat.zero_le _, Nat.zero_le _⟩ dX10_keeps_39 (fun H locs hw => ?_)
    exact B42 _ _ _ _ hf hw (lv_sub hl [0] rfl)
abbrev rm_X10_startVisit : Room := { frames := 2, cells := 0, slots := 0, locals := 46 }
set_option maxHeartbeats 4000000 in
set_option maxRecDepth 100000 in
theorem c_X10_startVisit (l : Launch) (E : si_Ev) (F : Nat) (x1 : Int32) (x2 : Int32) (S : si_St) (o : Int32 × si_St) (hf : f_X10_startVisit F x1 x2 S = some o) : si_Mi l E yX10_startVisit cX10_startVisit 6 (some .int) rm_X10_startVisit [.ref (E.2.1 87), .int x1, .int x2] S o := by
  refine si_ofWi (plainFor_of_name (by decide +kernel)) (Nat.le_of_ble_eq_true rfl) ?_
  intro p e s m args below meth c ls Q A X hw hA hl hret
  have hl : lv_has ls 6 [(0, .ref (E.2.1 87)), (1, .int x1), (2, .int x2)] := hl
  have B25 : ∀ (S : si_St) (H : Heap) (locs : List Loc) (ls : Array Slot) , f_X10_startVisit_h25 F S = some o → si_Ws E A s.heap S H locs → lv_has ls 6 [] → W p l e rm_X10_startVisit s m args below meth c H locs 0 0 Q (F0 m 25 ls []) := by
    intro   S H locs ls  hf hw hl
    unfold f_X10_startVisit_h25 at hf
    refine lv_iconst (v := (-1)) X.1 X.2.1 dX10_startVisit_25 (by decide) ?_
    exact hret _ _ _ _ _ _ hf hw dX10_startVisit_26
  have B35 : ∀ (n35 : Nat) (x1 : Int32) (x2 : Int32) (x3 : Int32) (x4 : Int32) (x5 : Int32) (S : si_St) (H : Heap) (locs : List Loc) (ls : Array Slot) , f_X10_startVisit_l35 F n35 x1 x2 x3 x4 x5 S = some o → si_Ws E A s.heap S H locs → lv_has ls 6 [(0, .ref (E.2.1 87)), (1, .int x1), (2, .int x2), (3, .int x3), (4, .int x4), (5, .int x5)] → W p l e rm_X10_startVisit s m args below meth c H locs 0 0 Q (F0 m 35 ls []) := by
    intro n35
    induction n35 with
    | zero => intro x1 x2 x3 x4 x5  S H locs ls  hf; cases hf
    | succ n35 ih35 =>
      have B136 : ∀ (x1 : Int32) (x2 : Int32) (x3 : Int32) (x4 : Int32) (x5 : Int32) (S : si_St) (H : Heap) (locs : List Loc) (ls : Array Slot) , f_X10_startVisit_h136 F (f_X10_startVisit_l35 F n35) x1 x2 x3 x4 x5 S = some o → si_Ws E A s.heap S H locs → lv_has ls 6 [(0, .ref (E.2.1 87)), (1, .int x1), (2, .int x2), (3, .int x3), (4, .int x4), (5, .int x5)] → W p l e rm_X10_startVisit s m args below meth c H locs 0 0 Q (F0 m 136 ls []) := by
        intro x1 x2 x3 x4 x5  S H locs ls  hf hw hl
        unfold f_X10_startVisit_h136 at hf
        obtain ⟨v1, ev1, hf⟩ := si_ob hf
        refine lv_iinc (v := v1) (lv' := [(5, .int v1), (0, .ref (E.2.1 87)), (1, .int x1), (2, .int x2), (3, .int x3), (4, .int x4)]) X.1 X.2.1 dX10_startVisit_136 hl (k := 5) rfl (Option.some.inj ev1) (by decide) rfl (fun ls hl => ?_)
        refine lv_goto (tgt := 35) X.1 X.2.1 dX10_startVisit_139 (by decide) ?_
        exact ih35 _ _ _ _ _ _ _ _ _ hf hw (lv_sub hl [1, 2, 3, 4, 5, 0] rfl)
      have B134 : ∀ (x1 : Int32) (x2 : Int32) (x3 : Int32) (x5 : Int32) (t0 : Int32) (S : si_St) (H : Heap) (locs : List Loc) (ls : Array Slot) , f_X10_startVisit_h134 F (f_X10_startVisit_l35 F n35) x1 x2 x3 x5 t0 S = some o → si_Ws E A s.heap S H locs → lv_has ls 6 [(0, .ref (E.2.1 87)), (1, .int x1), (2, .int x2), (3, .int x3), (5, .int x5)] → W p l e rm_X10_startVisit s m args below meth c H locs 0 0 Q (F0 m 134 ls [.int t0]) := by
        intro x1 x2 x3 x5 t0  S H locs ls  hf hw hl
        unfold f_X10_startVisit_h134 at hf
        refine lv_istore (lv' := [(4, .int t0), (0, .ref (E.2.1 87)), (1, .int x1), (2, .int x2), (3, .int x3), (5, .int x5)]) X.1 X.2.1 dX10_startVisit_134 hl (by decide) rfl (fun ls hl => ?_)
        exact B136 _ _ _ _ _ _ _ _ _ hf hw (lv_sub hl [1, 2, 3, 4, 0, 5] rfl)
      have B132 : ∀ (x1 : Int32) (x2 : Int32) (x3 : Int32) (x4 : Int32) (x5 : Int32) (S : si_St) (H : Heap) (locs : List Loc) (ls : Array Slot) , f_X10_startVisit_h132 F (f_X10_startVisit_l35 F n35) x1 x2 x3 x4 x5 S = some o → si_Ws E A s.heap S H locs → lv_has ls 6 [(0, .ref (E.2.1 87)), (1, .int x1), (2, .int x2), (3, .int x3), (4, .int x4), (5, .int x5)] → W p l e rm_X10_startVisit s m args below meth c H locs 0 0 Q (F0 m 132 ls []) := by
        intro x1 x2 x3 x4 x5  S H locs ls  hf hw hl
        unfold f_X10_startVisit_h132 at hf
        refine lv_iload X.1 X.2.1 dX10_startVisit_132 (lv_at hl 4 rfl) ?_
        exact B134 _ _ _ _ _ _ _ _ _ hf hw (lv_sub hl [0, 1, 2, 3, 5] rfl)
      have B100 : ∀ (x1 : Int32) (x2 : Int32) (x4 : Int32) (x5 : Int32) (t0 : Int32) (S : si_St) (H : Heap) (locs : List Loc) (ls : Array Slot) , f_X10_startVisit_h100 F (f_X10_startVisit_l35 F n35) x1 x2 x4 x5 t0 S = some o → si_Ws E A s.heap S H locs → lv_has ls 6 [(0, .ref (E.2.1 87)), (1, .int x1), (2, .int x2), (4, .int x4), (5, .int x5)] → W p l e rm_X10_startVisit s m args below meth c H locs 0 0 Q (F0 m 100 ls [.int t0]) := by
        intro x1 x2 x4 x5 t0  S H locs ls  hf hw hl
        unfold f_X10_startVisit_h100 at hf
        refine lv_istore_n (lv' := [(3, .int t0), (0, .ref (E.2.1 87)), (1, .int x1), (2, .int x2), (4, .int x4), (5, .int x5)]) X.1 X.2.1 dX10_startVisit_100 rfl hl (by decide) rfl (fun ls hl => ?_)
        refine lv_aload_n X.1 X.2.1 dX10_startVisit_101 rfl (lv_at hl 1 rfl) ?_
        refine si_getR (k' := 88) (d := 1) X hw si_cl10 1 (by decide) gf_RX10_13 rfl rfl rfl (by decide) rfl dX10_startVisit_102 ?_
        refine lv_bipush (v := 61) X.1 X.2.1 dX10_startVisit_105 (by decide) ?_
        refine lv_iload X.1 X.2.1 dX10_startVisit_107 (lv_at hl 5 rfl) ?_
        refine lv_iadd X.1 X.2.1 dX10_startVisit_109 ?_
        obtain ⟨v2, ev2, hf⟩ := si_ob hf
        refine si_iald X hw rfl ev2 dX10_startVisit_110 ?_
        refine lv_iconst (v := 1) X.1 X.2.1 dX10_startVisit_111 (by decide) ?_
        refine lv_icmp_ne (tgt := 132) X.1 X.2.1 dX10_startVisit_112 (by decide) (fun c112 => ?_) (fun c112 => ?_)
        · have hf := si_in c112 hf
          exact B132 _ _ _ _ _ _ _ _ _ hf hw (lv_sub hl [1, 2, 3, 0, 4, 5] rfl)
        · have hf := si_ip c112 hf
          refine lv_aload_n X.1 X.2.1 dX10_startVisit_115 rfl (lv_at hl 1 rfl) ?_
          refine si_getR (k' := 88) (d := 1) X hw si_cl10 1 (by decide) gf_RX10_13 rfl rfl rfl (by decide) rfl dX10_startVisit_116 ?_
          refine lv_bipush (v := 91) X.1 X.2.1 dX10_startVisit_119 (by decide) ?_
          refine lv_iload X.1 X.2.1 dX10_startVisit_121 (lv_at hl 5 rfl) ?_
          refine lv_iadd X.1 X.2.1 dX10_startVisit_123 ?_
          obtain ⟨v3, ev3, hf⟩ := si_ob hf
          refine si_iald X hw rfl ev3 dX10_startVisit_124 ?_
          refine lv_if_ne (tgt := 132) X.1 X.2.1 dX10_startVisit_125 (by decide) (fun c125 => ?_) (fun c125 => ?_)
          · have hf := si_in c125 hf
            exact B132 _ _ _ _ _ _ _ _ _ hf hw (lv_sub hl [1, 2, 3, 0, 4, 5] rfl)
          · have hf := si_ip c125 hf
            refine lv_iconst (v := 1) X.1 X.2.1 dX10_startVisit_128 (by decide) ?_
            refine lv_goto (tgt := 134) X.1 X.2.1 dX10_startVisit_129 (by decide) ?_
            exact B134 _ _ _ _ _ _ _ _ _ hf hw (lv_sub hl [1, 2, 3, 0, 5] rfl)
      have B95 : ∀ (x1 : Int32) (x2 : Int32) (x4 : Int32) (x5 : Int32) (S : si_St) (H : Heap) (locs : List Loc) (ls : Array Slot) , f_X10_startVisit_h95 F (f_X10_startVisit_l35 F n35) x1 x2 x4 x5 S = some o → si_Ws E A s.heap S H locs → lv_has ls 6 [(0, .ref (E.2.1 87)), (1, .int x1), (2, .int x2), (4, .int x4), (5, .int x5)] → W p l e rm_X10_startVisit s m args below meth c H locs 0 0 Q (F0 m 95 ls []) := by
        intro x1 x2 x4 x5  S H locs ls  hf hw hl
        unfold f_X10_startVisit_h95 at hf
        refine lv_iconst (v := 1) X.1 X.2.1 dX10_startVisit_95 (by decide) ?_
        refine lv_goto (tgt := 100) X.1 X.2.1 dX10_startVisit_96 (by decide) ?_
        exact B100 _ _ _ _ _ _ _ _ _ hf hw (lv_sub hl [0, 1, 2, 3, 4] rfl)
      intro x1 x2 x3 x4 x5  S H locs ls  hf hw hl
      have hf : f_X10_startVisit_h35 F (f_X10_startVisit_l35 F n35) x1 x2 x3 x4 x5 S = some o := hf
      unfold f_X10_startVisit_h35 at hf
      refine lv_iload X.1 X.2.1 dX10_startVisit_35 (lv_at hl 5 rfl) ?_
      refine lv_aload_n X.1 X.2.1 dX10_startVisit_37 rfl (lv_at hl 0 rfl) ?_
      refine si_getR (k' := 88) (d := 1) X hw si_cl10 1 (by decide) gf_RX10_13 rfl rfl rfl (by decide) rfl dX10_startVisit_38 ?_
      refine lv_iconst (v := 0) X.1 X.2.1 dX10_startVisit_41 (by decide) ?_
      obtain ⟨v4, ev4, hf⟩ := si_ob hf
      refine si_iald X hw rfl ev4 dX10_startVisit_42 ?_
      refine lv_icmp_ge (tgt := 142) X.1 X.2.1 dX10_startVisit_43 (by decide) (fun c43 => ?_) (fun c43 => ?_)
      · have hf := si_ip c43 hf
        refine lv_iload_n X.1 X.2.1 dX10_startVisit_142 rfl (lv_at hl 3 rfl) ?_
        refine lv_if_eq (tgt := 149) X.1 X.2.1 dX10_startVisit_143 (by decide) (fun c143 => ?_) (fun c143 => ?_)
        · have hf := si_ip c143 hf
          refine lv_aload_n X.1 X.2.1 dX10_startVisit_149 rfl (lv_at hl 0 rfl) ?_
          refine si_getR (k' := 88) (d := 1) X hw si_cl10 1 (by decide) gf_RX10_13 rfl rfl rfl (by decide) rfl dX10_startVisit_150 ?_
          refine lv_iconst (v := 0) X.1 X.2.1 dX10_startVisit_153 (by decide) ?_
          obtain ⟨v5, ev5, hf⟩ := si_ob hf
          refine si_iald X hw rfl ev5 dX10_startVisit_154 ?_
          refine lv_istore (lv' := [(5, .int v5), (0, .ref (E.2.1 87)), (1, .int x1), (2, .int x2), (3, .int x3), (4, .int x4)]) X.1 X.2.1 dX10_startVisit_155 hl (by decide) rfl (fun ls hl => ?_)
          refine lv_iload X.1 X.2.1 dX10_startVisit_157 (lv_at hl 0 rfl) ?_
          refine lv_bipush (v := 30) X.1 X.2.1 dX10_startVisit_159 (by decide) ?_
          refine lv_icmp_ne (tgt := 167) X.1 X.2.1 dX10_startVisit_161 (by decide) (fun c161 => ?_) (fun c161 => ?_)
          · have hf := si_in c161 hf
            refine lv_aload_n X.1 X.2.1 dX10_startVisit_167 rfl (lv_at hl 1 rfl) ?_
            obtain ⟨S6, eS6, hf⟩ := si_ob hf
            refine si_cVv [] cal_X10_keeps gm_RX10_249 X hw hA hl.1 (c_X10_keeps l E F S S6 eS6) si_cl10 rfl ⟨⟨rfl, rfl⟩, Nat.le_of_ble_eq_true rfl, Nat.le_of_ble_eq_true rfl⟩ rfl rfl (Nat.le_of_ble_eq_true rfl) ⟨Nat.zero_le _, Nat.zero_le _⟩ dX10_startVisit_168 (fun H locs hw => ?_)
            refine lv_aload_n X.1 X.2.1 dX10_startVisit_171 rfl (lv_at hl 1 rfl) ?_
            refine si_getR (k' := 88) (d := 1) X hw si_cl10 1 (by decide) gf_RX10_13 rfl rfl rfl (by decide) rfl dX10_startVisit_172 ?_
            refine lv_iconst (v := 1) X.1 X.2.1 dX10_startVisit_175 (by decide) ?_
            refine lv_iload X.1 X.2.1 dX10_startVisit_176 (lv_at hl 0 rfl) ?_
            refine lv_iadd X.1 X.2.1 dX10_startVisit_178 ?_
            refine lv_iload_n X.1 X.2.1 dX10_startVisit_179 rfl (lv_at hl 2 rfl) ?_
            obtain ⟨S7, eS7, hf⟩ := si_ob hf
            refine si_iast X hw rfl eS7 dX10_startVisit_180 (fun H locs hw => ?_)
            refine lv_aload_n X.1 X.2.1 dX10_startVisit_181 rfl (lv_at hl 1 rfl) ?_
            refine si_getR (k' := 88) (d := 1) X hw si_cl10 1 (by decide) gf_RX10_13 rfl rfl rfl (by decide) rfl dX10_startVisit_182 ?_
            refine lv_bipush (v := 31) X.1 X.2.1 dX10_startVisit_185 (by decide) ?_
            refine lv_iload X.1 X.2.1 dX10_startVisit_187 (lv_at hl 0 rfl) ?_
            refine lv_iadd X.1 X.2.1 dX10_startVisit_189 ?_
            refine lv_iload_n X.1 X.2.1 dX10_startVisit_190 rfl (lv_at hl 3 rfl) ?_
            obtain ⟨S8, eS8, hf⟩ := si_ob hf
            refine si_iast X hw rfl eS8 dX10_startVisit_191 (fun H locs hw => ?_)
            refine lv_aload_n X.1 X.2.1 dX10_startVisit_192 rfl (lv_at hl 1 rfl) ?_
            refine si_getR (k' := 88) (d := 1) X hw si_cl10 1 (by decide) gf_RX10_13 rfl rfl rfl (by decide) rfl dX10_startVisit_193 ?_
            refine lv_bipush (v := 61) X.1 X.2.1 dX10_startVisit_196 (by decide) ?_
            refine lv_iload X.1 X.2.1 dX10_startVisit_198 (lv_at hl 0 rfl) ?_
            refine lv_iadd X.1 X.2.1 dX10_startVisit_200 ?_
            refine lv_iconst (v := 0) X.1 X.2.1 dX10_startVisit_201 (by decide) ?_
            obtain ⟨S9, eS9, hf⟩ := si_ob hf
            refine si_iast X hw rfl eS9 dX10_startVisit_202 (fun H locs hw => ?_)
            refine lv_aload_n X.1 X.2.1 dX10_startVisit_203 rfl (lv_at hl 1 rfl) ?_
            refine si_getR (k' := 88) (d := 1) X hw si_cl10 1 (by decide) gf_RX10_13 rfl rfl rfl (by decide) rfl dX10_startVisit_204 ?_
            refine lv_bipush (v := 91) X.1 X.2.1 dX10_startVisit_207 (by decide) ?_
            refine lv_iload X.1 X.2.1 dX10_startVisit_209 (lv_at hl 0 rfl) ?_
            refine lv_iadd X.1 X.2.1 dX10_startVisit_211 ?_
            refine lv_iconst (v := 0) X.1 X.2.1 dX10_startVisit_212 (by decide) ?_
            obtain ⟨S10, eS10, hf⟩ := si_ob hf
            refine si_iast X hw rfl eS10 dX10_startVisit_213 (fun H locs hw => ?_)
            refine lv_aload_n X.1 X.2.1 dX10_startVisit_214 rfl (lv_at hl 1 rfl) ?_
            refine si_getR (k' := 88) (d := 1) X hw si_cl10 1 (by decide) gf_RX10_13 rfl rfl rfl (by decide) rfl dX10_startVisit_215 ?_
            refine lv_bipush (v := 121) X.1 X.2.1 dX10_startVisit_218 (by decide) ?_
            refine lv_iload X.1 X.2.1 dX10_startVisit_220 (lv_at hl 0 rfl) ?_
            refine lv_iadd X.1 X.2.1 dX10_startVisit_222 ?_
            refine lv_iload X.1 X.2.1 dX10_startVisit_223 (lv_at hl 5 rfl) ?_
            obtain ⟨S11, eS11, hf⟩ := si_ob hf
            refine si_iast X hw rfl eS11 dX10_startVisit_225 (fun H locs hw => ?_)
            refine lv_aload_n X.1 X.2.1 dX10_startVisit_226 rfl (lv_at hl 1 rfl) ?_
            refine si_getR (k' := 88) (d := 1) X hw si_cl10 1 (by decide) gf_RX10_13 rfl rfl rfl (by decide) rfl dX10_startVisit_227 ?_
            refine lv_sipush (v := 151) X.1 X.2.1 dX10_startVisit_230 (by decide) ?_
            refine lv_iload X.1 X.2.1 dX10_startVisit_233 (lv_at hl 0 rfl) ?_
            refine lv_iadd X.1 X.2.1 dX10_startVisit_235 ?_
            refine lv_iconst (v := 0) X.1 X.2.1 dX10_startVisit_236 (by decide) ?_
            obtain ⟨S12, eS12, hf⟩ := si_ob hf
            refine si_iast X hw rfl eS12 dX10_startVisit_237 (fun H locs hw => ?_)
            refine lv_aload_n X.1 X.2.1 dX10_startVisit_238 rfl (lv_at hl 1 rfl) ?_
            refine si_getR (k' := 88) (d := 1) X hw si_cl10 1 (by decide) gf_RX10_13 rfl rfl rfl (by decide) rfl dX10_startVisit_239 ?_
            refine lv_iconst (v := 0) X.1 X.2.1 dX10_startVisit_242 (by decide) ?_
            refine lv_dup2_11 X.1 X.2.1 dX10_startVisit_243 rfl rfl ?_
            obtain ⟨v13, ev13, hf⟩ := si_ob hf
            refine si_iald X hw rfl ev13 dX10_startVisit_244 ?_
            refine lv_iconst (v := 1) X.1 X.2.1 dX10_startVisit_245 (by decide) ?_
            refine lv_iadd X.1 X.2.1 dX10_startVisit_246 ?_
            obtain ⟨S14, eS14, hf⟩ := si_ob hf
            refine si_iast X hw rfl eS14 dX10_startVisit_247 (fun H locs hw => ?_)
            refine lv_iload X.1 X.2.1 dX10_startVisit_248 (lv_at hl 0 rfl) ?_
            exact hret _ _ _ _ _ _ hf hw dX10_startVisit_250
          · have hf := si_ip c161 hf
            refine lv_bipush (v := (-3)) X.1 X.2.1 dX10_startVisit_164 (by decide) ?_
            exact hret _ _ _ _ _ _ hf hw dX10_startVisit_166
        · have hf := si_in c143 hf
          refine lv_bipush (v := (-2)) X.1 X.2.1 dX10_startVisit_146 (by decide) ?_
          exact hret _ _ _ _ _ _ hf hw dX10_startVisit_148
      · have hf := si_in c43 hf
        refine lv_aload_n X.1 X.2.1 dX10_startVisit_46 rfl (lv_at hl 0 rfl) ?_
        refine si_getR (k' := 88) (d := 1) X hw si_cl10 1 (by decide) gf_RX10_13 rfl rfl rfl (by decide) rfl dX10_startVisit_47 ?_
        refine lv_iconst (v := 1) X.1 X.2.1 dX10_startVisit_50 (by decide) ?_
        refine lv_iload X.1 X.2.1 dX10_startVisit_51 (lv_at hl 5 rfl) ?_
        refine lv_iadd X.1 X.2.1 dX10_startVisit_53 ?_
        obtain ⟨v15, ev15, hf⟩ := si_ob hf
        refine si_iald X hw rfl ev15 dX10_startVisit_54 ?_
        refine lv_iload_n X.1 X.2.1 dX10_startVisit_55 rfl (lv_at hl 1 rfl) ?_
        refine lv_icmp_eq (tgt := 62) X.1 X.2.1 dX10_startVisit_56 (by decide) (fun c56 => ?_) (fun c56 => ?_)
        · have hf := si_ip c56 hf
          refine lv_aload_n X.1 X.2.1 dX10_startVisit_62 rfl (lv_at hl 0 rfl) ?_
          refine si_getR (k' := 88) (d := 1) X hw si_cl10 1 (by decide) gf_RX10_13 rfl rfl rfl (by decide) rfl dX10_startVisit_63 ?_
          refine lv_bipush (v := 31) X.1 X.2.1 dX10_startVisit_66 (by decide) ?_
          refine lv_iload X.1 X.2.1 dX10_startVisit_68 (lv_at hl 5 rfl) ?_
          refine lv_iadd X.1 X.2.1 dX10_startVisit_70 ?_
          obtain ⟨v16, ev16, hf⟩ := si_ob hf
          refine si_iald X hw rfl ev16 dX10_startVisit_71 ?_
          refine lv_iload_n X.1 X.2.1 dX10_startVisit_72 rfl (lv_at hl 2 rfl) ?_
          refine lv_icmp_le (tgt := 78) X.1 X.2.1 dX10_startVisit_73 (by decide) (fun c73 => ?_) (fun c73 => ?_)
          · have hf := si_ip c73 hf
            refine lv_iload_n X.1 X.2.1 dX10_startVisit_78 rfl (lv_at hl 3 rfl) ?_
            refine lv_if_ne (tgt := 95) X.1 X.2.1 dX10_startVisit_79 (by decide) (fun c79 => ?_) (fun c79 => ?_)
            · have hf := si_in c79 hf
              exact B95 _ _ _ _ _ _ _ _ hf hw (lv_sub hl [0, 1, 2, 4, 5] rfl)
            · have hf := si_ip c79 hf
              refine lv_aload_n X.1 X.2.1 dX10_startVisit_82 rfl (lv_at hl 0 rfl) ?_
              refine si_getR (k' := 88) (d := 1) X hw si_cl10 1 (by decide) gf_RX10_13 rfl rfl rfl (by decide) rfl dX10_startVisit_83 ?_
              refine lv_bipush (v := 61) X.1 X.2.1 dX10_startVisit_86 (by decide) ?_
              refine lv_iload X.1 X.2.1 dX10_startVisit_88 (lv_at hl 5 rfl) ?_
              refine lv_iadd X.1 X.2.1 dX10_startVisit_90 ?_
              obtain ⟨v17, ev17, hf⟩ := si_ob hf
              refine si_iald X hw rfl ev17 dX10_startVisit_91 ?_
              refine lv_if_ne (tgt := 99) X.1 X.2.1 dX10_startVisit_92 (by decide) (fun c92 => ?_) (fun c92 => ?_)
              · have hf := si_in c92 hf
                refine lv_iconst (v := 0) X.1 X.2.1 dX10_startVisit_99 (by decide) ?_
                exact B100 _ _ _ _ _ _ _ _ _ hf hw (lv_sub hl [0, 1, 2, 4, 5] rfl)
              · have hf := si_ip c92 hf
                exact B95 _ _ _ _ _ _ _ _ hf hw (lv_sub hl [0, 1, 2, 4, 5] rfl)
          · have hf := si_in c73 hf
            refine lv_iconst (v := (-1)) X.1 X.2.1 dX10_startVisit_76 (by decide) ?_
            exact hret _ _ _ _ _ _ hf hw dX10_startVisit_77
        · have hf := si_in c56 hf
          refine lv_goto (tgt := 136) X.1 X.2.1 dX10_startVisit_59 (by decide) ?_
          exact B136 _ _ _ _ _ _ _ _ _ hf hw (lv_sub hl [0, 1, 2, 3, 4, 5] rfl)
  unfold f_X10_startVisit at hf
  refine lv_aload_n X.1 X.2.1 dX10_startVisit_0 rfl (lv_at hl 0 rfl) ?_
  refine lv_iconst (v := 0) X.1 X.2.1 dX10_startVisit_1 (by decide) ?_
  obtain ⟨S18, eS18, hf⟩ := si_ob hf
  refine si_ptI X hw si_cl10 0 (by decide) gf_RX10_1 rfl rfl rfl rfl rfl eS18 dX10_startVisit_2 (fun H locs hw => ?_)
  refine lv_aload_n X.1 X.2.1 dX10_startVisit_5 rfl (lv_at hl 0 rfl) ?_
  refine lv_iload_n X.1 X.2.1 dX10_startVisit_6 rfl (lv_at hl 1 rfl) ?_
  obtain ⟨q19, eq19, hf⟩ := si_ob hf
  refine si_cVi [.int x1] cal_X10_isScale gm_RX10_234 X hw hA hl.1 (c_X10_isScale l E F x1 S18 q19 eq19) si_cl10 rfl ⟨⟨rfl, rfl⟩, Nat.le_of_ble_eq_true rfl, Nat.le_of_ble_eq_true rfl⟩ rfl rfl (Nat.le_of_ble_eq_true rfl) ⟨Nat.zero_le _, Nat.zero_le _⟩ dX10_startVisit_7 (fun H locs hw => ?_)
  refine lv_if_eq (tgt := 25) X.1 X.2.1 dX10_startVisit_10 (by decide) (fun c10 => ?_) (fun c10 => ?_)
  · have hf := si_ip c10 hf
    exact B25 _ _ _ _ hf hw (lv_sub hl [] rfl)
  · have hf := si_in c10 hf
    refine lv_iload_n X.1 X.2.1 dX10_startVisit_13 rfl (lv_at hl 2 rfl) ?_
    refine lv_i2l (v := (Int32.toInt64 x2)) X.1 X.2.1 dX10_startVisit_14 rfl ?_
    refine lv_lconst (v := (0 : Int64)) X.1 X.2.1 dX10_startVisit_15 (by decide) ?_
    refine lv_ldc2 (v := (9999 : Int64)) X.1 X.2.1 X.2.2.2.1 (si_wd X gk_RX10_247) dX10_startVisit_16 ?_
    obtain ⟨q20, eq20, hf⟩ := si_ob hf
    refine si_cSi [.long (Int32.toInt64 x2), .long (0 : Int64), .long (9999 : Int64)] cal_X10_within gm_RX10_124 X hw hA hl.1 (c_X10_within l E F (Int32.toInt64 x2) (0 : Int64) (9999 : Int64) q19.2 q20 eq20) ⟨⟨rfl, rfl⟩, Nat.le_of_ble_eq_true rfl, Nat.le_of_ble_eq_true rfl⟩ rfl rfl (Nat.le_of_ble_eq_true rfl) ⟨Nat.zero_le _, Nat.zero_le _⟩ dX10_startVisit_19 (fun H locs hw => ?_)
    refine lv_if_ne (tgt := 27) X.1 X.2.1 dX10_startVisit_22 (by decide) (fun c22 => ?_) (fun c22 => ?_)
    · have hf := si_in c22 hf
      refine lv_iconst (v := 0) X.1 X.2.1 dX10_startVisit_27 (by decide) ?_
      refine lv_istore_n (lv' := [(3, .int 0), (0, .ref (E.2.1 87)), (1, .int x1), (2, .int x2)]) X.1 X.2.1 dX10_startVisit_28 rfl hl (by decide) rfl (fun ls hl => ?_)
      refine lv_iconst (v := 0) X.1 X.2.1 dX10_startVisit_29 (by decide) ?_
      refine lv_istore (lv' := [(4, .int 0), (3, .int 0), (0, .ref (E.2.1 87)), (1, .int x1), (2, .int x2)]) X.1 X.2.1 dX10_startVisit_30 hl (by decide) rfl (fun ls hl => ?_)
      refine lv_iconst (v := 0) X.1 X.2.1 dX10_startVisit_32 (by decide) ?_
      refine lv_istore (lv' := [(5, .int 0), (4, .int 0), (3, .int 0), (0, .ref (E.2.1 87)), (1, .int x1), (2, .int x2)]) X.1 X.2.1 dX10_startVisit_33 hl (by decide) rfl (fun ls hl => ?_)
      exact B35 F _ _ _ _ _ _ _ _ _ hf hw (lv_sub hl [3, 4, 5, 2, 1, 0] rfl)
    · have hf := si_ip c22 hf
      exact B25 _ _ _ _ hf hw (lv_sub hl [] rfl)
abbrev rm_X10_visitCount : Room := { frames := 0, cells := 0, slots := 0, locals := 0 }
set_option maxHeartbeats 4000000 in
set_option maxRecDepth 100000 in
theorem c_X10_visitCount (l : Launch) (E : si_Ev) (F : Nat) (S : si_St) (o : Int32 × si_St) (hf : f_X10_visitCount F S = some o) : si_Mi l E yX10_visitCount cX10_visitCount 1 (some .int) rm_X10_visitCount [.ref (E.2.1 87)] S o := by
  refine si_ofWi (plainFor_of_name (by decide +kernel)) (Nat.le_of_ble_eq_true rfl) ?_
  intro p e s m args below meth c ls Q A X hw hA hl hret
  have hl : lv_has ls 1 [(0, .ref (E.2.1 87))] := hl
  unfold f_X10_visitCount at hf
  refine lv_aload_n X.1 X.2.1 dX10_visitCount_0 rfl (lv_at hl 0 rfl) ?_
  refine lv_iconst (v := 0) X.1 X.2.1 dX10_visitCount_1 (by decide) ?_
  obtain ⟨S1, eS1, hf⟩ := si_ob hf
  refine si_ptI X hw si_cl10 0 (by decide) gf_RX10_1 rfl rfl rfl rfl rfl eS1 dX10_visitCount_2 (fun H locs hw => ?_)
  refine lv_aload_n X.1 X.2.1 dX10_visitCount_5 rfl (lv_at hl 0 rfl) ?_
  refine si_getR (k' := 88) (d := 1) X hw si_cl10 1 (by decide) gf_RX10_13 rfl rfl rfl (by decide) rfl dX10_visitCount_6 ?_
  refine lv_iconst (v := 0) X.1 X.2.1 dX10_visitCount_9 (by decide) ?_
  obtain ⟨v2, ev2, hf⟩ := si_ob hf
  refine si_iald X hw rfl ev2 dX10_visitCount_10 ?_
  exact hret _ _ _ _ _ _ hf hw dX10_visitCount_11
abbrev rm_X10_visitScale : Room := { frames := 2, cells := 0, slots := 0, locals := 46 }
set_option maxHeartbeats 4000000 in
set_option maxRecDepth 100000 in
theorem c_X10_visitScale (l : Launch) (E : si_Ev) (F : Nat) (x1 : Int32) (S : si_St) (o : Int32 × si_St) (hf : f_X10_visitScale F x1 S = some o) : si_Mi l E yX10_visitScale cX10_visitScale 2 (some .int) rm_X10_visitScale [.ref (E.2.1 87), .int x1] S o := by
  refine si_ofWi (plainFor_of_name (by decide +kernel)) (Nat.le_of_ble_eq_true rfl) ?_
  intro p e s m args below meth c ls Q A X hw hA hl hret
  have hl : lv_has ls 2 [(0, .ref (E.2.1 87)), (1, .int x1)] := hl
  have B25 : ∀ (t0 : Int32) (S : si_St) (H : Heap) (locs : List Loc) (ls : Array Slot) , f_X10_visitScale_h25 F t0 S = some o → si_Ws E A s.heap S H locs → lv_has ls 2 [] → W p l e rm_X10_visitScale s m args below meth c H locs 0 0 Q (F0 m 25 ls [.int t0]) := by
    intro t0  S H locs ls  hf hw hl
    unfold f_X10_visitScale_h25 at hf
    exact hret _ _ _ _ _ _ hf hw dX10_visitScale_25
  unfold f_X10_visitScale at hf
  refine lv_aload_n X.1 X.2.1 dX10_visitScale_0 rfl (lv_at hl 0 rfl) ?_
  refine lv_iconst (v := 0) X.1 X.2.1 dX10_visitScale_1 (by decide) ?_
  obtain ⟨S1, eS1, hf⟩ := si_ob hf
  refine si_ptI X hw si_cl10 0 (by decide) gf_RX10_1 rfl rfl rfl rfl rfl eS1 dX10_visitScale_2 (fun H locs hw => ?_)
  refine lv_aload_n X.1 X.2.1 dX10_visitScale_5 rfl (lv_at hl 0 rfl) ?_
  refine lv_iload_n X.1 X.2.1 dX10_visitScale_6 rfl (lv_at hl 1 rfl) ?_
  obtain ⟨q2, eq2, hf⟩ := si_ob hf
  refine si_cVi [.int x1] cal_X10_isVisit gm_RX10_252 X hw hA hl.1 (c_X10_isVisit l E F x1 S1 q2 eq2) si_cl10 rfl ⟨⟨rfl, rfl⟩, Nat.le_of_ble_eq_true rfl, Nat.le_of_ble_eq_true rfl⟩ rfl rfl (Nat.le_of_ble_eq_true rfl) ⟨Nat.zero_le _, Nat.zero_le _⟩ dX10_visitScale_7 (fun H locs hw => ?_)
  refine lv_if_eq (tgt := 24) X.1 X.2.1 dX10_visitScale_10 (by decide) (fun c10 => ?_) (fun c10 => ?_)
  · have hf := si_ip c10 hf
    refine lv_iconst (v := (-1)) X.1 X.2.1 dX10_visitScale_24 (by decide) ?_
    exact B25 _ _ _ _ _ hf hw (lv_sub hl [] rfl)
  · have hf := si_in c10 hf
    refine lv_aload_n X.1 X.2.1 dX10_visitScale_13 rfl (lv_at hl 0 rfl) ?_
    refine si_getR (k' := 88) (d := 1) X hw si_cl10 1 (by decide) gf_RX10_13 rfl rfl rfl (by decide) rfl dX10_visitScale_14 ?_
    refine lv_iconst (v := 1) X.1 X.2.1 dX10_visitScale_17 (by decide) ?_
    refine lv_iload_n X.1 X.2.1 dX10_visitScale_18 rfl (lv_at hl 1 rfl) ?_
    refine lv_iadd X.1 X.2.1 dX10_visitScale_19 ?_
    obtain ⟨v3, ev3, hf⟩ := si_ob hf
    refine si_iald X hw rfl ev3 dX10_visitScale_20 ?_
    refine lv_goto (tgt := 25) X.1 X.2.1 dX10_visitScale_21 (by decide) ?_
    exact B25 _ _ _ _ _ hf hw (lv_sub hl [] rfl)
abbrev rm_X10_isInService : Room := { frames := 2, cells := 0, slots := 0, locals := 46 }
set_option maxHeartbeats 4000000 in
set_option maxRecDepth 100000 in
theorem c_X10_isInService (l : Launch) (E : si_Ev) (F : Nat) (x1 : Int32) (S : si_St) (o : Int32 × si_St) (hf : f_X10_isInService F x1 S = some o) : si_Mi l E yX10_isInService cX10_isInService 2 (some .int) rm_X10_isInService [.ref (E.2.1 87), .int x1] S o := by
  refine si_ofWi (plainFor_of_name (by decide +kernel)) (Nat.le_of_ble_eq_true rfl) ?_
  intro p e s m args below meth c ls Q A X hw hA hl hret
  have hl : lv_has ls 2 [(0, .ref (E.2.1 87)), (1, .int x1)] := hl
  have B26 : ∀ (t0 : Int32) (S : si_St) (H : Heap) (locs : List Loc) (ls : Array Slot) , f_X10_isInService_h26 F t0 S = some o → si_Ws E A s.heap S H locs → lv_has ls 2 [] → W p l e rm_X10_isInService s m args below meth c H locs 0 0 Q (F0 m 26 ls [.int t0]) := by
    intro t0  S H locs ls  hf hw hl
    unfold f_X10_isInService_h26 at hf
    exact hret _ _ _ _ _ _ hf hw dX10_isInService_26
  unfold f_X10_isInService at hf
  refine lv_aload_n X.1 X.2.1 dX10_isInService_0 rfl (lv_at hl 0 rfl) ?_
  refine lv_iconst (v := 0) X.1 X.2.1 dX10_isInService_1 (by decide) ?_
  obtain ⟨S1, eS1, hf⟩ := si_ob hf
  refine si_ptI X hw si_cl10 0 (by decide) gf_RX10_1 rfl rfl rfl rfl rfl eS1 dX10_isInService_2 (fun H locs hw => ?_)
  refine lv_aload_n X.1 X.2.1 dX10_isInService_5 rfl (lv_at hl 0 rfl) ?_
  refine lv_iload_n X.1 X.2.1 dX10_isInService_6 rfl (lv_at hl 1 rfl) ?_
  obtain ⟨q2, eq2, hf⟩ := si_ob hf
  refine si_cVi [.int x1] cal_X10_isVisit gm_RX10_252 X hw hA hl.1 (c_X10_isVisit l E F x1 S1 q2 eq2) si_cl10 rfl ⟨⟨rfl, rfl⟩, Nat.le_of_ble_eq_true rfl, Nat.le_of_ble_eq_true rfl⟩ rfl rfl (Nat.le_of_ble_eq_true rfl) ⟨Nat.zero_le _, Nat.zero_le _⟩ dX10_isInService_7 (fun H locs hw => ?_)
  refine lv_if_eq (tgt := 25) X.1 X.2.1 dX10_isInService_10 (by decide) (fun c10 => ?_) (fun c10 => ?_)
  · have hf := si_ip c10 hf
    refine lv_iconst (v := (-1)) X.1 X.2.1 dX10_isInService_25 (by decide) ?_
    exact B26 _ _ _ _ _ hf hw (lv_sub hl [] rfl)
  · have hf := si_in c10 hf
    refine lv_aload_n X.1 X.2.1 dX10_isInService_13 rfl (lv_at hl 0 rfl) ?_
    refine si_getR (k' := 88) (d := 1) X hw si_cl10 1 (by decide) gf_RX10_13 rfl rfl rfl (by decide) rfl dX10_isInService_14 ?_
    refine lv_bipush (v := 121) X.1 X.2.1 dX10_isInService_17 (by decide) ?_
    refine lv_iload_n X.1 X.2.1 dX10_isInService_19 rfl (lv_at hl 1 rfl) ?_
    refine lv_iadd X.1 X.2.1 dX10_isInService_20 ?_
    obtain ⟨v3, ev3, hf⟩ := si_ob hf
    refine si_iald X hw rfl ev3 dX10_isInService_21 ?_
    refine lv_goto (tgt := 26) X.1 X.2.1 dX10_isInService_22 (by decide) ?_
    exact B26 _ _ _ _ _ hf hw (lv_sub hl [] rfl)
abbrev rm_X10_record : Room := { frames := 2, cells := 0, slots := 0, locals := 46 }
set_option maxHeartbeats 4000000 in
set_option maxRecDepth 100000 in
theorem c_X10_record (l : Launch) (E : si_Ev) (F : Nat) (x1 : Int32) (x2 : Int32) (x3 : Int32) (S : si_St) (o : Int32 × si_St) (hf : f_X10_record F x1 x2 x3 S = some o) : si_Mi l E yX10_record cX10_record 5 (some .int) rm_X10_record [.ref (E.2.1 87), .int x1, .int x2, .int x3] S o := by
  refine si_ofWi (plainFor_of_name (by decide +kernel)) (Nat.le_of_ble_eq_true rfl) ?_
  intro p e s m args below meth c ls Q A X hw hA hl hret
  have hl : lv_has ls 5 [(0, .ref (E.2.1 87)), (1, .int x1), (2, .int x2), (3, .int x3)] := hl
  have B66 : ∀ (S : si_St) (H : Heap) (locs : List Loc) (ls : Array Slot) , f_X10_record_h66 F S = some o → si_Ws E A s.heap S H locs → lv_has ls 5 [] → W p l e rm_X10_record s m args below meth c H locs 0 0 Q (F0 m 66 ls []) := by
    intro   S H locs ls  hf hw hl
    unfold f_X10_record_h66 at hf
    refine lv_iconst (v := (-1)) X.1 X.2.1 dX10_record_66 (by decide) ?_
    exact hret _ _ _ _ _ _ hf hw dX10_record_67
  unfold f_X10_record at hf
  refine lv_aload_n X.1 X.2.1 dX10_record_0 rfl (lv_at hl 0 rfl) ?_
  refine lv_iconst (v := 0) X.1 X.2.1 dX10_record_1 (by decide) ?_
  obtain ⟨S1, eS1, hf⟩ := si_ob hf
  refine si_ptI X hw si_cl10 0 (by decide) gf_RX10_1 rfl rfl rfl rfl rfl eS1 dX10_record_2 (fun H locs hw => ?_)
  refine lv_aload_n X.1 X.2.1 dX10_record_5 rfl (lv_at hl 0 rfl) ?_
  refine lv_iload_n X.1 X.2.1 dX10_record_6 rfl (lv_at hl 1 rfl) ?_
  obtain ⟨q2, eq2, hf⟩ := si_ob hf
  refine si_cVi [.int x1] cal_X10_isVisit gm_RX10_252 X hw hA hl.1 (c_X10_isVisit l E F x1 S1 q2 eq2) si_cl10 rfl ⟨⟨rfl, rfl⟩, Nat.le_of_ble_eq_true rfl, Nat.le_of_ble_eq_true rfl⟩ rfl rfl (Nat.le_of_ble_eq_true rfl) ⟨Nat.zero_le _, Nat.zero_le _⟩ dX10_record_7 (fun H locs hw => ?_)
  refine lv_if_eq (tgt := 66) X.1 X.2.1 dX10_record_10 (by decide) (fun c10 => ?_) (fun c10 => ?_)
  · have hf := si_ip c10 hf
    exact B66 _ _ _ _ hf hw (lv_sub hl [] rfl)
  · have hf := si_in c10 hf
    refine lv_iload_n X.1 X.2.1 dX10_record_13 rfl (lv_at hl 2 rfl) ?_
    refine lv_i2l (v := (Int32.toInt64 x2)) X.1 X.2.1 dX10_record_14 rfl ?_
    refine lv_lconst (v := (0 : Int64)) X.1 X.2.1 dX10_record_15 (by decide) ?_
    refine lv_iconst (v := 1) X.1 X.2.1 dX10_record_16 (by decide) ?_
    refine lv_aload_n X.1 X.2.1 dX10_record_17 rfl (lv_at hl 0 rfl) ?_
    refine si_getI X hw si_cl10 8 (by decide) gf_RX10_225 rfl rfl rfl dX10_record_18 ?_
    refine lv_ishl X.1 X.2.1 dX10_record_21 ?_
    refine lv_iconst (v := 1) X.1 X.2.1 dX10_record_22 (by decide) ?_
    refine lv_isub X.1 X.2.1 dX10_record_23 ?_
    refine lv_i2l (v := (Int32.toInt64 ((1 <<< ((q2.2.1 87 8) &&& 31)) - 1))) X.1 X.2.1 dX10_record_24 rfl ?_
    obtain ⟨q3, eq3, hf⟩ := si_ob hf
    refine si_cSi [.long (Int32.toInt64 x2), .long (0 : Int64), .long (Int32.toInt64 ((1 <<< ((q2.2.1 87 8) &&& 31)) - 1))] cal_X10_within gm_RX10_124 X hw hA hl.1 (c_X10_within l E F (Int32.toInt64 x2) (0 : Int64) (Int32.toInt64 ((1 <<< ((q2.2.1 87 8) &&& 31)) - 1)) q2.2 q3 eq3) ⟨⟨rfl, rfl⟩, Nat.le_of_ble_eq_true rfl, Nat.le_of_ble_eq_true rfl⟩ rfl rfl (Nat.le_of_ble_eq_true rfl) ⟨Nat.zero_le _, Nat.zero_le _⟩ dX10_record_25 (fun H locs hw => ?_)
    refine lv_if_eq (tgt := 66) X.1 X.2.1 dX10_record_28 (by decide) (fun c28 => ?_) (fun c28 => ?_)
    · have hf := si_ip c28 hf
      exact B66 _ _ _ _ hf hw (lv_sub hl [] rfl)
    · have hf := si_in c28 hf
      refine lv_aload_n X.1 X.2.1 dX10_record_31 rfl (lv_at hl 0 rfl) ?_
      refine lv_iload_n X.1 X.2.1 dX10_record_32 rfl (lv_at hl 2 rfl) ?_
      obtain ⟨q4, eq4, hf⟩ := si_ob hf
      refine si_cVi [.int x2] cal_X10_sumOf gm_RX10_241 X hw hA hl.1 (c_X10_sumOf l E F x2 q3.2 q4 eq4) si_cl10 rfl ⟨⟨rfl, rfl⟩, Nat.le_of_ble_eq_true rfl, Nat.le_of_ble_eq_true rfl⟩ rfl rfl (Nat.le_of_ble_eq_true rfl) ⟨Nat.zero_le _, Nat.zero_le _⟩ dX10_record_33 (fun H locs hw => ?_)
      refine lv_aload_n X.1 X.2.1 dX10_record_36 rfl (lv_at hl 0 rfl) ?_
      refine si_getR (k' := 92) (d := 5) X hw si_cl10 7 (by decide) gf_RX10_26 rfl rfl rfl (by decide) rfl dX10_record_37 ?_
      refine lv_aload_n X.1 X.2.1 dX10_record_40 rfl (lv_at hl 0 rfl) ?_
      refine si_getR (k' := 88) (d := 1) X hw si_cl10 1 (by decide) gf_RX10_13 rfl rfl rfl (by decide) rfl dX10_record_41 ?_
      refine lv_iconst (v := 1) X.1 X.2.1 dX10_record_44 (by decide) ?_
      refine lv_iload_n X.1 X.2.1 dX10_record_45 rfl (lv_at hl 1 rfl) ?_
      refine lv_iadd X.1 X.2.1 dX10_record_46 ?_
      obtain ⟨v5, ev5, hf⟩ := si_ob hf
      refine si_iald X hw rfl ev5 dX10_record_47 ?_
      obtain ⟨v6, ev6, hf⟩ := si_ob hf
      refine si_iald X hw rfl ev6 dX10_record_48 ?_
      refine lv_icmp_gt (tgt := 66) X.1 X.2.1 dX10_record_49 (by decide) (fun c49 => ?_) (fun c49 => ?_)
      · have hf := si_ip c49 hf
        exact B66 _ _ _ _ hf hw (lv_sub hl [] rfl)
      · have hf := si_in c49 hf
        refine lv_iload_n X.1 X.2.1 dX10_record_52 rfl (lv_at hl 3 rfl) ?_
        refine lv_i2l (v := (Int32.toInt64 x3)) X.1 X.2.1 dX10_record_53 rfl ?_
        refine lv_ldc2 (v := (-1999999 : Int64)) X.1 X.2.1 X.2.2.2.1 (si_wd X gk_RX10_255) dX10_record_54 ?_
        refine lv_ldc2 (v := (1999999 : Int64)) X.1 X.2.1 X.2.2.2.1 (si_wd X gk_RX10_257) dX10_record_57 ?_
        obtain ⟨q7, eq7, hf⟩ := si_ob hf
        refine si_cSi [.long (Int32.toInt64 x3), .long (-1999999 : Int64), .long (1999999 : Int64)] cal_X10_within gm_RX10_124 X hw hA hl.1 (c_X10_within l E F (Int32.toInt64 x3) (-1999999 : Int64) (1999999 : Int64) q4.2 q7 eq7) ⟨⟨rfl, rfl⟩, Nat.le_of_ble_eq_true rfl, Nat.le_of_ble_eq_true rfl⟩ rfl rfl (Nat.le_of_ble_eq_true rfl) ⟨Nat.zero_le _, Nat.zero_le _⟩ dX10_record_60 (fun H locs hw => ?_)
        refine lv_if_ne (tgt := 68) X.1 X.2.1 dX10_record_63 (by decide) (fun c63 => ?_) (fun c63 => ?_)
        · have hf := si_in c63 hf
          refine lv_aload_n X.1 X.2.1 dX10_record_68 rfl (lv_at hl 0 rfl) ?_
          refine si_getR (k' := 88) (d := 1) X hw si_cl10 1 (by decide) gf_RX10_13 rfl rfl rfl (by decide) rfl dX10_record_69 ?_
          refine lv_bipush (v := 61) X.1 X.2.1 dX10_record_72 (by decide) ?_
          refine lv_iload_n X.1 X.2.1 dX10_record_74 rfl (lv_at hl 1 rfl) ?_
          refine lv_iadd X.1 X.2.1 dX10_record_75 ?_
          obtain ⟨v8, ev8, hf⟩ := si_ob hf
          refine si_iald X hw rfl ev8 dX10_record_76 ?_
          refine lv_iconst (v := 1) X.1 X.2.1 dX10_record_77 (by decide) ?_
          refine lv_icmp_ne (tgt := 84) X.1 X.2.1 dX10_record_78 (by decide) (fun c78 => ?_) (fun c78 => ?_)
          · have hf := si_in c78 hf
            refine lv_aload_n X.1 X.2.1 dX10_record_84 rfl (lv_at hl 0 rfl) ?_
            refine si_getR (k' := 88) (d := 1) X hw si_cl10 1 (by decide) gf_RX10_13 rfl rfl rfl (by decide) rfl dX10_record_85 ?_
            refine lv_sipush (v := 151) X.1 X.2.1 dX10_record_88 (by decide) ?_
            refine lv_iload_n X.1 X.2.1 dX10_record_91 rfl (lv_at hl 1 rfl) ?_
            refine lv_iadd X.1 X.2.1 dX10_record_92 ?_
            obtain ⟨v9, ev9, hf⟩ := si_ob hf
            refine si_iald X hw rfl ev9 dX10_record_93 ?_
            refine lv_istore (lv' := [(4, .int v9), (0, .ref (E.2.1 87)), (1, .int x1), (2, .int x2), (3, .int x3)]) X.1 X.2.1 dX10_record_94 hl (by decide) rfl (fun ls hl => ?_)
            refine lv_iload X.1 X.2.1 dX10_record_96 (lv_at hl 0 rfl) ?_
            refine lv_bipush (v := 8) X.1 X.2.1 dX10_record_98 (by decide) ?_
            refine lv_icmp_ne (tgt := 106) X.1 X.2.1 dX10_record_100 (by decide) (fun c100 => ?_) (fun c100 => ?_)
            · have hf := si_in c100 hf
              refine lv_aload_n X.1 X.2.1 dX10_record_106 rfl (lv_at hl 1 rfl) ?_
              obtain ⟨S10, eS10, hf⟩ := si_ob hf
              refine si_cVv [] cal_X10_keeps gm_RX10_249 X hw hA hl.1 (c_X10_keeps l E F q7.2 S10 eS10) si_cl10 rfl ⟨⟨rfl, rfl⟩, Nat.le_of_ble_eq_true rfl, Nat.le_of_ble_eq_true rfl⟩ rfl rfl (Nat.le_of_ble_eq_true rfl) ⟨Nat.zero_le _, Nat.zero_le _⟩ dX10_record_107 (fun H locs hw => ?_)
              refine lv_aload_n X.1 X.2.1 dX10_record_110 rfl (lv_at hl 1 rfl) ?_
              refine si_getR (k' := 88) (d := 1) X hw si_cl10 1 (by decide) gf_RX10_13 rfl rfl rfl (by decide) rfl dX10_record_111 ?_
              refine lv_sipush (v := 181) X.1 X.2.1 dX10_record_114 (by decide) ?_
              refine lv_bipush (v := 8) X.1 X.2.1 dX10_record_117 (by decide) ?_
              refine lv_iload_n X.1 X.2.1 dX10_record_119 rfl (lv_at hl 2 rfl) ?_
              refine lv_imul X.1 X.2.1 dX10_record_120 ?_
              refine lv_iadd X.1 X.2.1 dX10_record_121 ?_
              refine lv_iload X.1 X.2.1 dX10_record_122 (lv_at hl 0 rfl) ?_
              refine lv_iadd X.1 X.2.1 dX10_record_124 ?_
              refine lv_iload_n X.1 X.2.1 dX10_record_125 rfl (lv_at hl 3 rfl) ?_
              obtain ⟨S11, eS11, hf⟩ := si_ob hf
              refine si_iast X hw rfl eS11 dX10_record_126 (fun H locs hw => ?_)
              refine lv_aload_n X.1 X.2.1 dX10_record_127 rfl (lv_at hl 1 rfl) ?_
              refine si_getR (k' := 88) (d := 1) X hw si_cl10 1 (by decide) gf_RX10_13 rfl rfl rfl (by decide) rfl dX10_record_128 ?_
              refine lv_sipush (v := 421) X.1 X.2.1 dX10_record_131 (by decide) ?_
              refine lv_bipush (v := 8) X.1 X.2.1 dX10_record_134 (by decide) ?_
              refine lv_iload_n X.1 X.2.1 dX10_record_136 rfl (lv_at hl 2 rfl) ?_
              refine lv_imul X.1 X.2.1 dX10_record_137 ?_
              refine lv_iadd X.1 X.2.1 dX10_record_138 ?_
              refine lv_iload X.1 X.2.1 dX10_record_139 (lv_at hl 0 rfl) ?_
              refine lv_iadd X.1 X.2.1 dX10_record_141 ?_
              refine lv_iload_n X.1 X.2.1 dX10_record_142 rfl (lv_at hl 4 rfl) ?_
              obtain ⟨S12, eS12, hf⟩ := si_ob hf
              refine si_iast X hw rfl eS12 dX10_record_143 (fun H locs hw => ?_)
              refine lv_aload_n X.1 X.2.1 dX10_record_144 rfl (lv_at hl 1 rfl) ?_
              refine si_getR (k' := 88) (d := 1) X hw si_cl10 1 (by decide) gf_RX10_13 rfl rfl rfl (by decide) rfl dX10_record_145 ?_
              refine lv_sipush (v := 151) X.1 X.2.1 dX10_record_148 (by decide) ?_
              refine lv_iload_n X.1 X.2.1 dX10_record_151 rfl (lv_at hl 2 rfl) ?_
              refine lv_iadd X.1 X.2.1 dX10_record_152 ?_
              refine lv_dup2_11 X.1 X.2.1 dX10_record_153 rfl rfl ?_
              obtain ⟨v13, ev13, hf⟩ := si_ob hf
              refine si_iald X hw rfl ev13 dX10_record_154 ?_
              refine lv_iconst (v := 1) X.1 X.2.1 dX10_record_155 (by decide) ?_
              refine lv_iadd X.1 X.2.1 dX10_record_156 ?_
              obtain ⟨S14, eS14, hf⟩ := si_ob hf
              refine si_iast X hw rfl eS14 dX10_record_157 (fun H locs hw => ?_)
              refine lv_iload X.1 X.2.1 dX10_record_158 (lv_at hl 0 rfl) ?_
              exact hret _ _ _ _ _ _ hf hw dX10_record_160
            · have hf := si_ip c100 hf
              refine lv_bipush (v := (-3)) X.1 X.2.1 dX10_record_103 (by decide) ?_
              exact hret _ _ _ _ _ _ hf hw dX10_record_105
          · have hf := si_ip c78 hf
            refine lv_bipush (v := (-2)) X.1 X.2.1 dX10_record_81 (by decide) ?_
            exact hret _ _ _ _ _ _ hf hw dX10_record_83
        · have hf := si_ip c63 hf
          exact B66 _ _ _ _ hf hw (lv_sub hl [] rfl)
abbrev rm_X10_testCount : Room := { frames := 2, cells := 0, slots := 0, locals := 46 }
set_option maxHeartbeats 4000000 in
set_option maxRecDepth 100000 in
theorem c_X10_testCount (l : Launch) (E : si_Ev) (F : Nat) (x1 : Int32) (S : si_St) (o : Int32 × si_St) (hf : f_X10_testCount F x1 S = some o) : si_Mi l E yX10_testCount cX10_testCount 2 (some .int) rm_X10_testCount [.ref (E.2.1 87), .int x1] S o := by
  refine si_ofWi (plainFor_of_name (by decide +kernel)) (Nat.le_of_ble_eq_true rfl) ?_
  intro p e s m args below meth c ls Q A X hw hA hl hret
  have hl : lv_has ls 2 [(0, .ref (E.2.1 87)), (1, .int x1)] := hl
  have B27 : ∀ (t0 : Int32) (S : si_St) (H : Heap) (locs : List Loc) (ls : Array Slot) , f_X10_testCount_h27 F t0 S = some o → si_Ws E A s.heap S H locs → lv_has ls 2 [] → W p l e rm_X10_testCount s m args below meth c H locs 0 0 Q (F0 m 27 ls [.int t0]) := by
    intro t0  S H locs ls  hf hw hl
    unfold f_X10_testCount_h27 at hf
    exact hret _ _ _ _ _ _ hf hw dX10_testCount_27
  unfold f_X10_testCount at hf
  refine lv_aload_n X.1 X.2.1 dX10_testCount_0 rfl (lv_at hl 0 rfl) ?_
  refine lv_iconst (v := 0) X.1 X.2.1 dX10_testCount_1 (by decide) ?_
  obtain ⟨S1, eS1, hf⟩ := si_ob hf
  refine si_ptI X hw si_cl10 0 (by decide) gf_RX10_1 rfl rfl rfl rfl rfl eS1 dX10_testCount_2 (fun H locs hw => ?_)
  refine lv_aload_n X.1 X.2.1 dX10_testCount_5 rfl (lv_at hl 0 rfl) ?_
  refine lv_iload_n X.1 X.2.1 dX10_testCount_6 rfl (lv_at hl 1 rfl) ?_
  obtain ⟨q2, eq2, hf⟩ := si_ob hf
  refine si_cVi [.int x1] cal_X10_isVisit gm_RX10_252 X hw hA hl.1 (c_X10_isVisit l E F x1 S1 q2 eq2) si_cl10 rfl ⟨⟨rfl, rfl⟩, Nat.le_of_ble_eq_true rfl, Nat.le_of_ble_eq_true rfl⟩ rfl rfl (Nat.le_of_ble_eq_true rfl) ⟨Nat.zero_le _, Nat.zero_le _⟩ dX10_testCount_7 (fun H locs hw => ?_)
  refine lv_if_eq (tgt := 26) X.1 X.2.1 dX10_testCount_10 (by decide) (fun c10 => ?_) (fun c10 => ?_)
  · have hf := si_ip c10 hf
    refine lv_iconst (v := (-1)) X.1 X.2.1 dX10_testCount_26 (by decide) ?_
    exact B27 _ _ _ _ _ hf hw (lv_sub hl [] rfl)
  · have hf := si_in c10 hf
    refine lv_aload_n X.1 X.2.1 dX10_testCount_13 rfl (lv_at hl 0 rfl) ?_
    refine si_getR (k' := 88) (d := 1) X hw si_cl10 1 (by decide) gf_RX10_13 rfl rfl rfl (by decide) rfl dX10_testCount_14 ?_
    refine lv_sipush (v := 151) X.1 X.2.1 dX10_testCount_17 (by decide) ?_
    refine lv_iload_n X.1 X.2.1 dX10_testCount_20 rfl (lv_at hl 1 rfl) ?_
    refine lv_iadd X.1 X.2.1 dX10_testCount_21 ?_
    obtain ⟨v3, ev3, hf⟩ := si_ob hf
    refine si_iald X hw rfl ev3 dX10_testCount_22 ?_
    refine lv_goto (tgt := 27) X.1 X.2.1 dX10_testCount_23 (by decide) ?_
    exact B27 _ _ _ _ _ hf hw (lv_sub hl [] rfl)
abbrev rm_X10_isTest : Room := { frames := 2, cells := 0, slots := 0, locals := 46 }
set_option maxHeartbeats 4000000 in
set_option maxRecDepth 100000 in
theorem c_X10_isTest (l : Launch) (E : si_Ev) (F : Nat) (x1 : Int32) (x2 : Int32) (S : si_St) (o : Int32 × si_St) (hf : f_X10_isTest F x1 x2 S = some o) : si_Mi l E yX10_isTest cX10_isTest 3 (some .boolean) rm_X10_isTest [.ref (E.2.1 87), .int x1, .int x2] S o := by
  refine si_ofWz (plainFor_of_name (by decide +kernel)) (Nat.le_of_ble_eq_true rfl) ?_
  intro p e s m args below meth c ls Q A X hw hA hl hret
  have hl : lv_has ls 3 [(0, .ref (E.2.1 87)), (1, .int x1), (2, .int x2)] := hl
  have B35 : ∀ (t0 : Int32) (S : si_St) (H : Heap) (locs : List Loc) (ls : Array Slot) , f_X10_isTest_h35 F t0 S = some o → si_Ws E A s.heap S H locs → lv_has ls 3 [] → W p l e rm_X10_isTest s m args below meth c H locs 0 0 Q (F0 m 35 ls [.int t0]) := by
    intro t0  S H locs ls  hf hw hl
    unfold f_X10_isTest_h35 at hf
    obtain ⟨v1, ev1, hf⟩ := si_ob hf
    exact hret _ _ _ _ _ _ (si_bzf ev1 hf) (si_nz (si_bz_inv ev1).1) hw dX10_isTest_35
  have B34 : ∀ (S : si_St) (H : Heap) (locs : List Loc) (ls : Array Slot) , f_X10_isTest_h34 F S = some o → si_Ws E A s.heap S H locs → lv_has ls 3 [] → W p l e rm_X10_isTest s m args below meth c H locs 0 0 Q (F0 m 34 ls []) := by
    intro   S H locs ls  hf hw hl
    unfold f_X10_isTest_h34 at hf
    refine lv_iconst (v := 0) X.1 X.2.1 dX10_isTest_34 (by decide) ?_
    exact B35 _ _ _ _ _ hf hw (lv_sub hl [] rfl)
  unfold f_X10_isTest at hf
  refine lv_aload_n X.1 X.2.1 dX10_isTest_0 rfl (lv_at hl 0 rfl) ?_
  refine lv_iload_n X.1 X.2.1 dX10_isTest_1 rfl (lv_at hl 1 rfl) ?_
  obtain ⟨q2, eq2, hf⟩ := si_ob hf
  refine si_cVi [.int x1] cal_X10_isVisit gm_RX10_252 X hw hA hl.1 (c_X10_isVisit l E F x1 S q2 eq2) si_cl10 rfl ⟨⟨rfl, rfl⟩, Nat.le_of_ble_eq_true rfl, Nat.le_of_ble_eq_true rfl⟩ rfl rfl (Nat.le_of_ble_eq_true rfl) ⟨Nat.zero_le _, Nat.zero_le _⟩ dX10_isTest_2 (fun H locs hw => ?_)
  refine lv_if_eq (tgt := 34) X.1 X.2.1 dX10_isTest_5 (by decide) (fun c5 => ?_) (fun c5 => ?_)
  · have hf := si_ip c5 hf
    exact B34 _ _ _ _ hf hw (lv_sub hl [] rfl)
  · have hf := si_in c5 hf
    refine lv_iload_n X.1 X.2.1 dX10_isTest_8 rfl (lv_at hl 2 rfl) ?_
    refine lv_i2l (v := (Int32.toInt64 x2)) X.1 X.2.1 dX10_isTest_9 rfl ?_
    refine lv_lconst (v := (0 : Int64)) X.1 X.2.1 dX10_isTest_10 (by decide) ?_
    refine lv_aload_n X.1 X.2.1 dX10_isTest_11 rfl (lv_at hl 0 rfl) ?_
    refine si_getR (k' := 88) (d := 1) X hw si_cl10 1 (by decide) gf_RX10_13 rfl rfl rfl (by decide) rfl dX10_isTest_12 ?_
    refine lv_sipush (v := 151) X.1 X.2.1 dX10_isTest_15 (by decide) ?_
    refine lv_iload_n X.1 X.2.1 dX10_isTest_18 rfl (lv_at hl 1 rfl) ?_
    refine lv_iadd X.1 X.2.1 dX10_isTest_19 ?_
    obtain ⟨v3, ev3, hf⟩ := si_ob hf
    refine si_iald X hw rfl ev3 dX10_isTest_20 ?_
    refine lv_iconst (v := 1) X.1 X.2.1 dX10_isTest_21 (by decide) ?_
    refine lv_isub X.1 X.2.1 dX10_isTest_22 ?_
    refine lv_i2l (v := (Int32.toInt64 (v3 - 1))) X.1 X.2.1 dX10_isTest_23 rfl ?_
    obtain ⟨q4, eq4, hf⟩ := si_ob hf
    refine si_cSi [.long (Int32.toInt64 x2), .long (0 : Int64), .long (Int32.toInt64 (v3 - 1))] cal_X10_within gm_RX10_124 X hw hA hl.1 (c_X10_within l E F (Int32.toInt64 x2) (0 : Int64) (Int32.toInt64 (v3 - 1)) q2.2 q4 eq4) ⟨⟨rfl, rfl⟩, Nat.le_of_ble_eq_true rfl, Nat.le_of_ble_eq_true rfl⟩ rfl rfl (Nat.le_of_ble_eq_true rfl) ⟨Nat.zero_le _, Nat.zero_le _⟩ dX10_isTest_24 (fun H locs hw => ?_)
    refine lv_if_eq (tgt := 34) X.1 X.2.1 dX10_isTest_27 (by decide) (fun c27 => ?_) (fun c27 => ?_)
    · have hf := si_ip c27 hf
      exact B34 _ _ _ _ hf hw (lv_sub hl [] rfl)
    · have hf := si_in c27 hf
      refine lv_iconst (v := 1) X.1 X.2.1 dX10_isTest_30 (by decide) ?_
      refine lv_goto (tgt := 35) X.1 X.2.1 dX10_isTest_31 (by decide) ?_
      exact B35 _ _ _ _ _ hf hw (lv_sub hl [] rfl)
abbrev rm_X10_loadOf : Room := { frames := 1, cells := 0, slots := 0, locals := 23 }
set_option maxHeartbeats 4000000 in
set_option maxRecDepth 100000 in
theorem c_X10_loadOf (l : Launch) (E : si_Ev) (F : Nat) (x1 : Int32) (x2 : Int32) (S : si_St) (o : Int32 × si_St) (hf : f_X10_loadOf F x1 x2 S = some o) : si_Mi l E yX10_loadOf cX10_loadOf 3 (some .int) rm_X10_loadOf [.ref (E.2.1 87), .int x1, .int x2] S o := by
  refine si_ofWi (plainFor_of_name (by decide +kernel)) (Nat.le_of_ble_eq_true rfl) ?_
  intro p e s m args below meth c ls Q A X hw hA hl hret
  have hl : lv_has ls 3 [(0, .ref (E.2.1 87)), (1, .int x1), (2, .int x2)] := hl
  unfold f_X10_loadOf at hf
  refine lv_aload_n X.1 X.2.1 dX10_loadOf_0 rfl (lv_at hl 0 rfl) ?_
  refine lv_aload_n X.1 X.2.1 dX10_loadOf_1 rfl (lv_at hl 0 rfl) ?_
  refine si_getR (k' := 88) (d := 1) X hw si_cl10 1 (by decide) gf_RX10_13 rfl rfl rfl (by decide) rfl dX10_loadOf_2 ?_
  refine lv_sipush (v := 181) X.1 X.2.1 dX10_loadOf_5 (by decide) ?_
  refine lv_bipush (v := 8) X.1 X.2.1 dX10_loadOf_8 (by decide) ?_
  refine lv_iload_n X.1 X.2.1 dX10_loadOf_10 rfl (lv_at hl 1 rfl) ?_
  refine lv_imul X.1 X.2.1 dX10_loadOf_11 ?_
  refine lv_iadd X.1 X.2.1 dX10_loadOf_12 ?_
  refine lv_iload_n X.1 X.2.1 dX10_loadOf_13 rfl (lv_at hl 2 rfl) ?_
  refine lv_iadd X.1 X.2.1 dX10_loadOf_14 ?_
  obtain ⟨v1, ev1, hf⟩ := si_ob hf
  refine si_iald X hw rfl ev1 dX10_loadOf_15 ?_
  obtain ⟨q2, eq2, hf⟩ := si_ob hf
  refine si_cVi [.int v1] cal_X10_sumOf gm_RX10_241 X hw hA hl.1 (c_X10_sumOf l E F v1 S q2 eq2) si_cl10 rfl ⟨⟨rfl, rfl⟩, Nat.le_of_ble_eq_true rfl, Nat.le_of_ble_eq_true rfl⟩ rfl rfl (Nat.le_of_ble_eq_true rfl) ⟨Nat.zero_le _, Nat.zero_le _⟩ dX10_loadOf_16 (fun H locs hw => ?_)
  exact hret _ _ _ _ _ _ hf hw dX10_loadOf_19
abbrev rm_X10_errorOf : Room := { frames := 2, cells := 0, slots := 0, locals := 45 }
set_option maxHeartbeats 4000000 in
set_option maxRecDepth 100000 in
theorem c_X10_errorOf (l : Launch) (E : si_Ev) (F : Nat) (x1 : Int32) (x2 : Int32) (S : si_St) (o : Int32 × si_St) (hf : f_X10_errorOf F x1 x2 S = some o) : si_Mi l E yX10_errorOf cX10_errorOf 3 (some .int) rm_X10_errorOf [.ref (E.2.1 87), .int x1, .int x2] S o := by
  refine si_ofWi (plainFor_of_name (by decide +kernel)) (Nat.le_of_ble_eq_true rfl) ?_
  intro p e s m args below meth c ls Q A X hw hA hl hret
  have hl : lv_has ls 3 [(0, .ref (E.2.1 87)), (1, .int x1), (2, .int x2)] := hl
  unfold f_X10_errorOf at hf
  refine lv_aload_n X.1 X.2.1 dX10_errorOf_0 rfl (lv_at hl 0 rfl) ?_
  refine si_getR (k' := 88) (d := 1) X hw si_cl10 1 (by decide) gf_RX10_13 rfl rfl rfl (by decide) rfl dX10_errorOf_1 ?_
  refine lv_sipush (v := 421) X.1 X.2.1 dX10_errorOf_4 (by decide) ?_
  refine lv_bipush (v := 8) X.1 X.2.1 dX10_errorOf_7 (by decide) ?_
  refine lv_iload_n X.1 X.2.1 dX10_errorOf_9 rfl (lv_at hl 1 rfl) ?_
  refine lv_imul X.1 X.2.1 dX10_errorOf_10 ?_
  refine lv_iadd X.1 X.2.1 dX10_errorOf_11 ?_
  refine lv_iload_n X.1 X.2.1 dX10_errorOf_12 rfl (lv_at hl 2 rfl) ?_
  refine lv_iadd X.1 X.2.1 dX10_errorOf_13 ?_
  obtain ⟨v1, ev1, hf⟩ := si_ob hf
  refine si_iald X hw rfl ev1 dX10_errorOf_14 ?_
  refine lv_aload_n X.1 X.2.1 dX10_errorOf_15 rfl (lv_at hl 0 rfl) ?_
  refine lv_iload_n X.1 X.2.1 dX10_errorOf_16 rfl (lv_at hl 1 rfl) ?_
  refine lv_iload_n X.1 X.2.1 dX10_errorOf_17 rfl (lv_at hl 2 rfl) ?_
  obtain ⟨q2, eq2, hf⟩ := si_ob hf
  refine si_cVi [.int x1, .int x2] cal_X10_loadOf gm_RX10_259 X hw hA hl.1 (c_X10_loadOf l E F x1 x2 S q2 eq2) si_cl10 rfl ⟨⟨rfl, rfl⟩, Nat.le_of_ble_eq_true rfl, Nat.le_of_ble_eq_true rfl⟩ rfl rfl (Nat.le_of_ble_eq_true rfl) ⟨Nat.zero_le _, Nat.zero_le _⟩ dX10_errorOf_18 (fun H locs hw => ?_)
  refine lv_isub X.1 X.2.1 dX10_errorOf_21 ?_
  exact hret _ _ _ _ _ _ hf hw dX10_errorOf_22
abbrev rm_X10_toleranceOf : Room := { frames := 2, cells := 0, slots := 0, locals := 45 }
set_option maxHeartbeats 4000000 in
set_option maxRecDepth 100000 in
theorem c_X10_toleranceOf (l : Launch) (E : si_Ev) (F : Nat) (x1 : Int32) (x2 : Int32) (S : si_St) (o : Int32 × si_St) (hf : f_X10_toleranceOf F x1 x2 S = some o) : si_Mi l E yX10_toleranceOf cX10_toleranceOf 3 (some .int) rm_X10_toleranceOf [.ref (E.2.1 87), .int x1, .int x2] S o := by
  refine si_ofWi (plainFor_of_name (by decide +kernel)) (Nat.le_of_ble_eq_true rfl) ?_
  intro p e s m args below meth c ls Q A X hw hA hl hret
  have hl : lv_has ls 3 [(0, .ref (E.2.1 87)), (1, .int x1), (2, .int x2)] := hl
  unfold f_X10_toleranceOf at hf
  refine lv_aload_n X.1 X.2.1 dX10_toleranceOf_0 rfl (lv_at hl 0 rfl) ?_
  refine lv_aload_n X.1 X.2.1 dX10_toleranceOf_1 rfl (lv_at hl 0 rfl) ?_
  refine si_getR (k' := 88) (d := 1) X hw si_cl10 1 (by decide) gf_RX10_13 rfl rfl rfl (by decide) rfl dX10_toleranceOf_2 ?_
  refine lv_iconst (v := 1) X.1 X.2.1 dX10_toleranceOf_5 (by decide) ?_
  refine lv_iload_n X.1 X.2.1 dX10_toleranceOf_6 rfl (lv_at hl 1 rfl) ?_
  refine lv_iadd X.1 X.2.1 dX10_toleranceOf_7 ?_
  obtain ⟨v1, ev1, hf⟩ := si_ob hf
  refine si_iald X hw rfl ev1 dX10_toleranceOf_8 ?_
  refine lv_aload_n X.1 X.2.1 dX10_toleranceOf_9 rfl (lv_at hl 0 rfl) ?_
  refine lv_iload_n X.1 X.2.1 dX10_toleranceOf_10 rfl (lv_at hl 1 rfl) ?_
  refine lv_iload_n X.1 X.2.1 dX10_toleranceOf_11 rfl (lv_at hl 2 rfl) ?_
  obtain ⟨q2, eq2, hf⟩ := si_ob hf
  refine si_cVi [.int x1, .int x2] cal_X10_loadOf gm_RX10_259 X hw hA hl.1 (c_X10_loadOf l E F x1 x2 S q2 eq2) si_cl10 rfl ⟨⟨rfl, rfl⟩, Nat.le_of_ble_eq_true rfl, Nat.le_of_ble_eq_true rfl⟩ rfl rfl (Nat.le_of_ble_eq_true rfl) ⟨Nat.zero_le _, Nat.zero_le _⟩ dX10_toleranceOf_12 (fun H locs hw => ?_)
  obtain ⟨q3, eq3, hf⟩ := si_ob hf
  refine si_cVi [.int v1, .int q2.1] cal_X10_base gm_RX10_237 X hw hA hl.1 (c_X10_base l E F v1 q2.1 q2.2 q3 eq3) si_cl10 rfl ⟨⟨rfl, rfl⟩, Nat.le_of_ble_eq_true rfl, Nat.le_of_ble_eq_true rfl⟩ rfl rfl (Nat.le_of_ble_eq_true rfl) ⟨Nat.zero_le _, Nat.zero_le _⟩ dX10_toleranceOf_15 (fun H locs hw => ?_)
  refine lv_iconst (v := 1) X.1 X.2.1 dX10_toleranceOf_18 (by decide) ?_
  refine lv_aload_n X.1 X.2.1 dX10_toleranceOf_19 rfl (lv_at hl 0 rfl) ?_
  refine si_getR (k' := 88) (d := 1) X hw si_cl10 1 (by decide) gf_RX10_13 rfl rfl rfl (by decide) rfl dX10_toleranceOf_20 ?_
  refine lv_bipush (v := 121) X.1 X.2.1 dX10_toleranceOf_23 (by decide) ?_
  refine lv_iload_n X.1 X.2.1 dX10_toleranceOf_25 rfl (lv_at hl 1 rfl) ?_
  refine lv_iadd X.1 X.2.1 dX10_toleranceOf_26 ?_
  obtain ⟨v4, ev4, hf⟩ := si_ob hf
  refine si_iald X hw rfl ev4 dX10_toleranceOf_27 ?_
  refine lv_iadd X.1 X.2.1 dX10_toleranceOf_28 ?_
  refine lv_imul X.1 X.2.1 dX10_toleranceOf_29 ?_
  exact hret _ _ _ _ _ _ hf hw dX10_toleranceOf_30
abbrev rm_X10_testLoad : Room := { frames := 3, cells := 0, slots := 0, locals := 68 }
set_option maxHeartbeats 4000000 in
set_option maxRecDepth 100000 in
theorem c_X10_testLoad (l : Launch) (E : si_Ev) (F : Nat) (x1 : Int32) (x2 : Int32) (S : si_St) (o : Int32 × si_St) (hf : f_X10_testLoad F x1 x2 S = some o) : si_Mi l E yX10_testLoad cX10_testLoad 3 (some .int) rm_X10_testLoad [.ref (E.2.1 87), .int x1, .int x2] S o := by
  refine si_ofWi (plainFor_of_name (by decide +kernel)) (Nat.le_of_ble_eq_true rfl) ?_
  intro p e s m args below meth c ls Q A X hw hA hl hret
  have hl : lv_has ls 3 [(0, .ref (E.2.1 87)), (1, .int x1), (2, .int x2)] := hl
  have B35 : ∀ (t0 : Int32) (S : si_St) (H : Heap) (locs : List Loc) (ls : Array Slot) , f_X10_testLoad_h35 F t0 S = some o → si_Ws E A s.heap S H locs → lv_has ls 3 [] → W p l e rm_X10_testLoad s m args below meth c H locs 0 0 Q (F0 m 35 ls [.int t0]) := by
    intro t0  S H locs ls  hf hw hl
    unfold f_X10_testLoad_h35 at hf
    exact hret _ _ _ _ _ _ hf hw dX10_testLoad_35
  have B15 : ∀ (x1 : Int32) (x2 : Int32) (t0 : Int32) (S : si_St) (H : Heap) (locs : List Loc) (ls : Array Slot) , f_X10_testLoad_h15 F x1 x2 t0 S = some o → si_Ws E A s.heap S H locs → lv_has ls 3 [(0, .ref (E.2.1 87)), (1, .int x1), (2, .int x2)] → W p l e rm_X10_testLoad s m args below meth c H locs 0 0 Q (F0 m 15 ls [.int t0, .ref (E.2.1 87)]) := by
    intro x1 x2 t0  S H locs ls  hf hw hl
    unfold f_X10_testLoad_h15 at hf
    obtain ⟨S1, eS1, hf⟩ := si_ob hf
    refine si_ptI X hw si_cl10 0 (by decide) gf_RX10_1 rfl rfl rfl rfl rfl eS1 dX10_testLoad_15 (fun H locs hw => ?_)
    refine lv_aload_n X.1 X.2.1 dX10_testLoad_18 rfl (lv_at hl 0 rfl) ?_
    refine si_getI X hw si_cl10 0 (by decide) gf_RX10_1 rfl rfl rfl dX10_testLoad_19 ?_
    refine lv_if_le (tgt := 29) X.1 X.2.1 dX10_testLoad_22 (by decide) (fun c22 => ?_) (fun c22 => ?_)
    · have hf := si_ip c22 hf
      refine lv_aload_n X.1 X.2.1 dX10_testLoad_29 rfl (lv_at hl 0 rfl) ?_
      refine lv_iload_n X.1 X.2.1 dX10_testLoad_30 rfl (lv_at hl 1 rfl) ?_
      refine lv_iload_n X.1 X.2.1 dX10_testLoad_31 rfl (lv_at hl 2 rfl) ?_
      obtain ⟨q2, eq2, hf⟩ := si_ob hf
      refine si_cVi [.int x1, .int x2] cal_X10_loadOf gm_RX10_259 X hw hA hl.1 (c_X10_loadOf l E F x1 x2 S1 q2 eq2) si_cl10 rfl ⟨⟨rfl, rfl⟩, Nat.le_of_ble_eq_true rfl, Nat.le_of_ble_eq_true rfl⟩ rfl rfl (Nat.le_of_ble_eq_true rfl) ⟨Nat.zero_le _, Nat.zero_le _⟩ dX10_testLoad_32 (fun H locs hw => ?_)
      exact B35 _ _ _ _ _ hf hw (lv_sub hl [] rfl)
    · have hf := si_in c22 hf
      refine lv_iconst (v := 0) X.1 X.2.1 dX10_testLoad_25 (by decide) ?_
      refine lv_goto (tgt := 35) X.1 X.2.1 dX10_testLoad_26 (by decide) ?_
      exact B35 _ _ _ _ _ hf hw (lv_sub hl [] rfl)
  unfold f_X10_testLoad at hf
  refine lv_aload_n X.1 X.2.1 dX10_testLoad_0 rfl (lv_at hl 0 rfl) ?_
  refine lv_aload_n X.1 X.2.1 dX10_testLoad_1 rfl (lv_at hl 0 rfl) ?_
  refine lv_iload_n X.1 X.2.1 dX10_testLoad_2 rfl (lv_at hl 1 rfl) ?_
  refine lv_iload_n X.1 X.2.1 dX10_testLoad_3 rfl (lv_at hl 2 rfl) ?_
  obtain ⟨q3, eq3, hf⟩ := si_ob hf
  refine si_cVi [.int x1, .int x2] cal_X10_isTest gm_RX10_262 X hw hA hl.1 (c_X10_isTest l E F x1 x2 S q3 eq3) si_cl10 rfl ⟨⟨rfl, rfl⟩, Nat.le_of_ble_eq_true rfl, Nat.le_of_ble_eq_true rfl⟩ rfl rfl (Nat.le_of_ble_eq_true rfl) ⟨Nat.zero_le _, Nat.zero_le _⟩ dX10_testLoad_4 (fun H locs hw => ?_)
  refine lv_if_eq (tgt := 14) X.1 X.2.1 dX10_testLoad_7 (by decide) (fun c7 => ?_) (fun c7 => ?_)
  · have hf := si_ip c7 hf
    refine lv_iconst (v := 1) X.1 X.2.1 dX10_testLoad_14 (by decide) ?_
    exact B15 _ _ _ _ _ _ _ hf hw (lv_sub hl [0, 1, 2] rfl)
  · have hf := si_in c7 hf
    refine lv_iconst (v := 0) X.1 X.2.1 dX10_testLoad_10 (by decide) ?_
    refine lv_goto (tgt := 15) X.1 X.2.1 dX10_testLoad_11 (by decide) ?_
    exact B15 _ _ _ _ _ _ _ hf hw (lv_sub hl [0, 1, 2] rfl)
abbrev rm_X10_testError : Room := { frames := 3, cells := 0, slots := 0, locals := 68 }
set_option maxHeartbeats 4000000 in
set_option maxRecDepth 100000 in
theorem c_X10_testError (l : Launch) (E : si_Ev) (F : Nat) (x1 : Int32) (x2 : Int32) (S : si_St) (o : Int32 × si_St) (hf : f_X10_testError F x1 x2 S = some o) : si_Mi l E yX10_testError cX10_testError 3 (some .int) rm_X10_testError [.ref (E.2.1 87), .int x1, .int x2] S o := by
  refine si_ofWi (plainFor_of_name (by decide +kernel)) (Nat.le_of_ble_eq_true rfl) ?_
  intro p e s m args below meth c ls Q A X hw hA hl hret
  have hl : lv_has ls 3 [(0, .ref (E.2.1 87)), (1, .int x1), (2, .int x2)] := hl
  have B35 : ∀ (t0 : Int32) (S : si_St) (H : Heap) (locs : List Loc) (ls : Array Slot) , f_X10_testError_h35 F t0 S = some o → si_Ws E A s.heap S H locs → lv_has ls 3 [] → W p l e rm_X10_testError s m args below meth c H locs 0 0 Q (F0 m 35 ls [.int t0]) := by
    intro t0  S H locs ls  hf hw hl
    unfold f_X10_testError_h35 at hf
    exact hret _ _ _ _ _ _ hf hw dX10_testError_35
  have B15 : ∀ (x1 : Int32) (x2 : Int32) (t0 : Int32) (S : si_St) (H : Heap) (locs : List Loc) (ls : Array Slot) , f_X10_testError_h15 F x1 x2 t0 S = some o → si_Ws E A s.heap S H locs → lv_has ls 3 [(0, .ref (E.2.1 87)), (1, .int x1), (2, .int x2)] → W p l e rm_X10_testError s m args below meth c H locs 0 0 Q (F0 m 15 ls [.int t0, .ref (E.2.1 87)]) := by
    intro x1 x2 t0  S H locs ls  hf hw hl
    unfold f_X10_testError_h15 at hf
    obtain ⟨S1, eS1, hf⟩ := si_ob hf
    refine si_ptI X hw si_cl10 0 (by decide) gf_RX10_1 rfl rfl rfl rfl rfl eS1 dX10_testError_15 (fun H locs hw => ?_)
    refine lv_aload_n X.1 X.2.1 dX10_testError_18 rfl (lv_at hl 0 rfl) ?_
    refine si_getI X hw si_cl10 0 (by decide) gf_RX10_1 rfl rfl rfl dX10_testError_19 ?_
    refine lv_if_le (tgt := 29) X.1 X.2.1 dX10_testError_22 (by decide) (fun c22 => ?_) (fun c22 => ?_)
    · have hf := si_ip c22 hf
      refine lv_aload_n X.1 X.2.1 dX10_testError_29 rfl (lv_at hl 0 rfl) ?_
      refine lv_iload_n X.1 X.2.1 dX10_testError_30 rfl (lv_at hl 1 rfl) ?_
      refine lv_iload_n X.1 X.2.1 dX10_testError_31 rfl (lv_at hl 2 rfl) ?_
      obtain ⟨q2, eq2, hf⟩ := si_ob hf
      refine si_cVi [.int x1, .int x2] cal_X10_errorOf gm_RX10_265 X hw hA hl.1 (c_X10_errorOf l E F x1 x2 S1 q2 eq2) si_cl10 rfl ⟨⟨rfl, rfl⟩, Nat.le_of_ble_eq_true rfl, Nat.le_of_ble_eq_true rfl⟩ rfl rfl (Nat.le_of_ble_eq_true rfl) ⟨Nat.zero_le _, Nat.zero_le _⟩ dX10_testError_32 (fun H locs hw => ?_)
      exact B35 _ _ _ _ _ hf hw (lv_sub hl [] rfl)
    · have hf := si_in c22 hf
      refine lv_iconst (v := 0) X.1 X.2.1 dX10_testError_25 (by decide) ?_
      refine lv_goto (tgt := 35) X.1 X.2.1 dX10_testError_26 (by decide) ?_
      exact B35 _ _ _ _ _ hf hw (lv_sub hl [] rfl)
  unfold f_X10_testError at hf
  refine lv_aload_n X.1 X.2.1 dX10_testError_0 rfl (lv_at hl 0 rfl) ?_
  refine lv_aload_n X.1 X.2.1 dX10_testError_1 rfl (lv_at hl 0 rfl) ?_
  refine lv_iload_n X.1 X.2.1 dX10_testError_2 rfl (lv_at hl 1 rfl) ?_
  refine lv_iload_n X.1 X.2.1 dX10_testError_3 rfl (lv_at hl 2 rfl) ?_
  obtain ⟨q3, eq3, hf⟩ := si_ob hf
  refine si_cVi [.int x1, .int x2] cal_X10_isTest gm_RX10_262 X hw hA hl.1 (c_X10_isTest l E F x1 x2 S q3 eq3) si_cl10 rfl ⟨⟨rfl, rfl⟩, Nat.le_of_ble_eq_true rfl, Nat.le_of_ble_eq_true rfl⟩ rfl rfl (Nat.le_of_ble_eq_true rfl) ⟨Nat.zero_le _, Nat.zero_le _⟩ dX10_testError_4 (fun H locs hw => ?_)
  refine lv_if_eq (tgt := 14) X.1 X.2.1 dX10_testError_7 (by decide) (fun c7 => ?_) (fun c7 => ?_)
  · have hf := si_ip c7 hf
    refine lv_iconst (v := 1) X.1 X.2.1 dX10_testError_14 (by decide) ?_
    exact B15 _ _ _ _ _ _ _ hf hw (lv_sub hl [0, 1, 2] rfl)
  · have hf := si_in c7 hf
    refine lv_iconst (v := 0) X.1 X.2.1 dX10_testError_10 (by decide) ?_
    refine lv_goto (tgt := 15) X.1 X.2.1 dX10_testError_11 (by decide) ?_
    exact B15 _ _ _ _ _ _ _ hf hw (lv_sub hl [0, 1, 2] rfl)
abbrev rm_X10_testPasses : Room := { frames := 3, cells := 0, slots := 0, locals := 68 }
set_option maxHeartbeats 4000000 in
set_option maxRecDepth 100000 in
theorem c_X10_testPasses (l : Launch) (E : si_Ev) (F : Nat) (x1 : Int32) (x2 : Int32) (S : si_St) (o : Int32 × si_St) (hf : f_X10_testPasses F x1 x2 S = some o) : si_Mi l E yX10_testPasses cX10_testPasses 3 (some .boolean) rm_X10_testPasses [.ref (E.2.1 87), .int x1, .int x2] S o := by
  refine si_ofWz (plainFor_of_name (by decide +kernel)) (Nat.le_of_ble_eq_true rfl) ?_
  intro p e s m args below meth c ls Q A X hw hA hl hret
  have hl : lv_has ls 3 [(0, .ref (E.2.1 87)), (1, .int x1), (2, .int x2)] := hl
  have B48 : ∀ (t0 : Int32) (S : si_St) (H : Heap) (locs : List Loc) (ls : Array Slot) , f_X10_testPasses_h48 F t0 S = some o → si_Ws E A s.heap S H locs → lv_has ls 3 [] → W p l e rm_X10_testPasses s m args below meth c H locs 0 0 Q (F0 m 48 ls [.int t0]) := by
    intro t0  S H locs ls  hf hw hl
    unfold f_X10_testPasses_h48 at hf
    obtain ⟨v1, ev1, hf⟩ := si_ob hf
    exact hret _ _ _ _ _ _ (si_bzf ev1 hf) (si_nz (si_bz_inv ev1).1) hw dX10_testPasses_48
  have B47 : ∀ (S : si_St) (H : Heap) (locs : List Loc) (ls : Array Slot) , f_X10_testPasses_h47 F S = some o → si_Ws E A s.heap S H locs → lv_has ls 3 [] → W p l e rm_X10_testPasses s m args below meth c H locs 0 0 Q (F0 m 47 ls []) := by
    intro   S H locs ls  hf hw hl
    unfold f_X10_testPasses_h47 at hf
    refine lv_iconst (v := 0) X.1 X.2.1 dX10_testPasses_47 (by decide) ?_
    exact B48 _ _ _ _ _ hf hw (lv_sub hl [] rfl)
  have B15 : ∀ (x1 : Int32) (x2 : Int32) (t0 : Int32) (S : si_St) (H : Heap) (locs : List Loc) (ls : Array Slot) , f_X10_testPasses_h15 F x1 x2 t0 S = some o → si_Ws E A s.heap S H locs → lv_has ls 3 [(0, .ref (E.2.1 87)), (1, .int x1), (2, .int x2)] → W p l e rm_X10_testPasses s m args below meth c H locs 0 0 Q (F0 m 15 ls [.int t0, .ref (E.2.1 87)]) := by
    intro x1 x2 t0  S H locs ls  hf hw hl
    unfold f_X10_testPasses_h15 at hf
    obtain ⟨S2, eS2, hf⟩ := si_ob hf
    refine si_ptI X hw si_cl10 0 (by decide) gf_RX10_1 rfl rfl rfl rfl rfl eS2 dX10_testPasses_15 (fun H locs hw => ?_)
    refine lv_aload_n X.1 X.2.1 dX10_testPasses_18 rfl (lv_at hl 0 rfl) ?_
    refine si_getI X hw si_cl10 0 (by decide) gf_RX10_1 rfl rfl rfl dX10_testPasses_19 ?_
    refine lv_if_ne (tgt := 47) X.1 X.2.1 dX10_testPasses_22 (by decide) (fun c22 => ?_) (fun c22 => ?_)
    · have hf := si_in c22 hf
      exact B47 _ _ _ _ hf hw (lv_sub hl [] rfl)
    · have hf := si_ip c22 hf
      refine lv_aload_n X.1 X.2.1 dX10_testPasses_25 rfl (lv_at hl 0 rfl) ?_
      refine lv_iload_n X.1 X.2.1 dX10_testPasses_26 rfl (lv_at hl 1 rfl) ?_
      refine lv_iload_n X.1 X.2.1 dX10_testPasses_27 rfl (lv_at hl 2 rfl) ?_
      obtain ⟨q3, eq3, hf⟩ := si_ob hf
      refine si_cVi [.int x1, .int x2] cal_X10_errorOf gm_RX10_265 X hw hA hl.1 (c_X10_errorOf l E F x1 x2 S2 q3 eq3) si_cl10 rfl ⟨⟨rfl, rfl⟩, Nat.le_of_ble_eq_true rfl, Nat.le_of_ble_eq_true rfl⟩ rfl rfl (Nat.le_of_ble_eq_true rfl) ⟨Nat.zero_le _, Nat.zero_le _⟩ dX10_testPasses_28 (fun H locs hw => ?_)
      obtain ⟨q4, eq4, hf⟩ := si_ob hf
      refine si_cSi [.int q3.1] cal_X10_size gm_RX10_268 X hw hA hl.1 (c_X10_size l E F q3.1 q3.2 q4 eq4) ⟨⟨rfl, rfl⟩, Nat.le_of_ble_eq_true rfl, Nat.le_of_ble_eq_true rfl⟩ rfl rfl (Nat.le_of_ble_eq_true rfl) ⟨Nat.zero_le _, Nat.zero_le _⟩ dX10_testPasses_31 (fun H locs hw => ?_)
      refine lv_aload_n X.1 X.2.1 dX10_testPasses_34 rfl (lv_at hl 0 rfl) ?_
      refine lv_iload_n X.1 X.2.1 dX10_testPasses_35 rfl (lv_at hl 1 rfl) ?_
      refine lv_iload_n X.1 X.2.1 dX10_testPasses_36 rfl (lv_at hl 2 rfl) ?_
      obtain ⟨q5, eq5, hf⟩ := si_ob hf
      refine si_cVi [.int x1, .int x2] cal_X10_toleranceOf gm_RX10_271 X hw hA hl.1 (c_X10_toleranceOf l E F x1 x2 q4.2 q5 eq5) si_cl10 rfl ⟨⟨rfl, rfl⟩, Nat.le_of_ble_eq_true rfl, Nat.le_of_ble_eq_true rfl⟩ rfl rfl (Nat.le_of_ble_eq_true rfl) ⟨Nat.zero_le _, Nat.zero_le _⟩ dX10_testPasses_37 (fun H locs hw => ?_)
      refine lv_icmp_gt (tgt := 47) X.1 X.2.1 dX10_testPasses_40 (by decide) (fun c40 => ?_) (fun c40 => ?_)
      · have hf := si_ip c40 hf
        exact B47 _ _ _ _ hf hw (lv_sub hl [] rfl)
      · have hf := si_in c40 hf
        refine lv_iconst (v := 1) X.1 X.2.1 dX10_testPasses_43 (by decide) ?_
        refine lv_goto (tgt := 48) X.1 X.2.1 dX10_testPasses_44 (by decide) ?_
        exact B48 _ _ _ _ _ hf hw (lv_sub hl [] rfl)
  unfold f_X10_testPasses at hf
  refine lv_aload_n X.1 X.2.1 dX10_testPasses_0 rfl (lv_at hl 0 rfl) ?_
  refine lv_aload_n X.1 X.2.1 dX10_testPasses_1 rfl (lv_at hl 0 rfl) ?_
  refine lv_iload_n X.1 X.2.1 dX10_testPasses_2 rfl (lv_at hl 1 rfl) ?_
  refine lv_iload_n X.1 X.2.1 dX10_testPasses_3 rfl (lv_at hl 2 rfl) ?_
  obtain ⟨q6, eq6, hf⟩ := si_ob hf
  refine si_cVi [.int x1, .int x2] cal_X10_isTest gm_RX10_262 X hw hA hl.1 (c_X10_isTest l E F x1 x2 S q6 eq6) si_cl10 rfl ⟨⟨rfl, rfl⟩, Nat.le_of_ble_eq_true rfl, Nat.le_of_ble_eq_true rfl⟩ rfl rfl (Nat.le_of_ble_eq_true rfl) ⟨Nat.zero_le _, Nat.zero_le _⟩ dX10_testPasses_4 (fun H locs hw => ?_)
  refine lv_if_eq (tgt := 14) X.1 X.2.1 dX10_testPasses_7 (by decide) (fun c7 => ?_) (fun c7 => ?_)
  · have hf := si_ip c7 hf
    refine lv_iconst (v := 1) X.1 X.2.1 dX10_testPasses_14 (by decide) ?_
    exact B15 _ _ _ _ _ _ _ hf hw (lv_sub hl [0, 1, 2] rfl)
  · have hf := si_in c7 hf
    refine lv_iconst (v := 0) X.1 X.2.1 dX10_testPasses_10 (by decide) ?_
    refine lv_goto (tgt := 15) X.1 X.2.1 dX10_testPasses_11 (by decide) ?_
    exact B15 _ _ _ _ _ _ _ hf hw (lv_sub hl [0, 1, 2] rfl)
abbrev rm_X10_verdictOf : Room := { frames := 3, cells := 0, slots := 0, locals := 67 }
set_option maxHeartbeats 4000000 in
set_option maxRecDepth 100000 in
theorem c_X10_verdictOf (l : Launch) (E : si_Ev) (F : Nat) (x1 : Int32) (x2 : Int32) (S : si_St) (o : Int32 × si_St) (hf : f_X10_verdictOf F x1 x2 S = some o) : si_Mi l E yX10_verdictOf cX10_verdictOf 11 (some .int) rm_X10_verdictOf [.ref (E.2.1 87), .int x1, .int x2] S o := by
  refine si_ofWi (plainFor_of_name (by decide +kernel)) (Nat.le_of_ble_eq_true rfl) ?_
  intro p e s m args below meth c ls Q A X hw hA hl hret
  have hl : lv_has ls 11 [(0, .ref (E.2.1 87)), (1, .int x1), (2, .int x2)] := hl
  have B281 : ∀ (t0 : Int32) (S : si_St) (H : Heap) (locs : List Loc) (ls : Array Slot) , f_X10_verdictOf_h281 F t0 S = some o → si_Ws E A s.heap S H locs → lv_has ls 11 [] → W p l e rm_X10_verdictOf s m args below meth c H locs 0 0 Q (F0 m 281 ls [.int t0]) := by
    intro t0  S H locs ls  hf hw hl
    unfold f_X10_verdictOf_h281 at hf
    exact hret _ _ _ _ _ _ hf hw dX10_verdictOf_281
  have B17 : ∀ (n17 : Nat) (x1 : Int32) (x2 : Int32) (x3 : Int32) (x4 : Int32) (x5 : Int32) (x6 : Int32) (x7 : Int32) (x8 : Int32) (S : si_St) (H : Heap) (locs : List Loc) (ls : Array Slot) , f_X10_verdictOf_l17 F n17 x1 x2 x3 x4 x5 x6 x7 x8 S = some o → si_Ws E A s.heap S H locs → lv_has ls 11 [(0, .ref (E.2.1 87)), (1, .int x1), (2, .int x2), (3, .int x3), (4, .int x4), (5, .int x5), (6, .int x6), (7, .int x7), (8, .int x8)] → W p l e rm_X10_verdictOf s m args below meth c H locs 0 0 Q (F0 m 17 ls []) := by
    intro n17
    induction n17 with
    | zero => intro x1 x2 x3 x4 x5 x6 x7 x8  S H locs ls  hf; cases hf
    | succ n17 ih17 =>
      have B139 : ∀ (n139 : Nat) (x1 : Int32) (x2 : Int32) (x3 : Int32) (x4 : Int32) (x5 : Int32) (x6 : Int32) (x7 : Int32) (x8 : Int32) (x9 : Int32) (x10 : Int32) (S : si_St) (H : Heap) (locs : List Loc) (ls : Array Slot) , f_X10_verdictOf_l139 F (f_X10_verdictOf_l17 F n17) n139 x1 x2 x3 x4 x5 x6 x7 x8 x9 x10 S = some o → si_Ws E A s.heap S H locs → lv_has ls 11 [(0, .ref (E.2.1 87)), (1, .int x1), (2, .int x2), (3, .int x3), (4, .int x4), (5, .int x5), (6, .int x6), (7, .int x7), (8, .int x8), (9, .int x9), (10, .int x10)] → W p l e rm_X10_verdictOf s m args below meth c H locs 0 0 Q (F0 m 139 ls []) := by
        intro n139
        induction n139 with
        | zero => intro x1 x2 x3 x4 x5 x6 x7 x8 x9 x10  S H locs ls  hf; cases hf
        | succ n139 ih139 =>
          have B224 : ∀ (x1 : Int32) (x2 : Int32) (x3 : Int32) (x4 : Int32) (x5 : Int32) (x6 : Int32) (x7 : Int32) (x8 : Int32) (x9 : Int32) (x10 : Int32) (S : si_St) (H : Heap) (locs : List Loc) (ls : Array Slot) , f_X10_verdictOf_h224 F (f_X10_verdictOf_l17 F n17) (f_X10_verdictOf_l139 F (f_X10_verdictOf_l17 F n17) n139) x1 x2 x3 x4 x5 x6 x7 x8 x9 x10 S = some o → si_Ws E A s.heap S H locs → lv_has ls 11 [(0, .ref (E.2.1 87)), (1, .int x1), (2, .int x2), (3, .int x3), (4, .int x4), (5, .int x5), (6, .int x6), (7, .int x7), (8, .int x8), (9, .int x9), (10, .int x10)] → W p l e rm_X10_verdictOf s m args below meth c H locs 0 0 Q (F0 m 224 ls []) := by
            intro x1 x2 x3 x4 x5 x6 x7 x8 x9 x10  S H locs ls  hf hw hl
            unfold f_X10_verdictOf_h224 at hf
            obtain ⟨v1, ev1, hf⟩ := si_ob hf
            refine lv_iinc (v := v1) (lv' := [(10, .int v1), (0, .ref (E.2.1 87)), (1, .int x1), (2, .int x2), (3, .int x3), (4, .int x4), (5, .int x5), (6, .int x6), (7, .int x7), (8, .int x8), (9, .int x9)]) X.1 X.2.1 dX10_verdictOf_224 hl (k := 10) rfl (Option.some.inj ev1) (by decide) rfl (fun ls hl => ?_)
            refine lv_goto (tgt := 139) X.1 X.2.1 dX10_verdictOf_227 (by decide) ?_
            exact ih139 _ _ _ _ _ _ _ _ _ _ _ _ _ _ hf hw (lv_sub hl [1, 2, 3, 4, 5, 6, 7, 8, 9, 10, 0] rfl)
          have B222 : ∀ (x1 : Int32) (x2 : Int32) (x3 : Int32) (x4 : Int32) (x5 : Int32) (x6 : Int32) (x8 : Int32) (x9 : Int32) (x10 : Int32) (t0 : Int32) (S : si_St) (H : Heap) (locs : List Loc) (ls : Array Slot) , f_X10_verdictOf_h222 F (f_X10_verdictOf_l17 F n17) (f_X10_verdictOf_l139 F (f_X10_verdictOf_l17 F n17) n139) x1 x2 x3 x4 x5 x6 x8 x9 x10 t0 S = some o → si_Ws E A s.heap S H locs → lv_has ls 11 [(0, .ref (E.2.1 87)), (1, .int x1), (2, .int x2), (3, .int x3), (4, .int x4), (5, .int x5), (6, .int x6), (8, .int x8), (9, .int x9), (10, .int x10)] → W p l e rm_X10_verdictOf s m args below meth c H locs 0 0 Q (F0 m 222 ls [.int t0]) := by
            intro x1 x2 x3 x4 x5 x6 x8 x9 x10 t0  S H locs ls  hf hw hl
            unfold f_X10_verdictOf_h222 at hf
            refine lv_istore (lv' := [(7, .int t0), (0, .ref (E.2.1 87)), (1, .int x1), (2, .int x2), (3, .int x3), (4, .int x4), (5, .int x5), (6, .int x6), (8, .int x8), (9, .int x9), (10, .int x10)]) X.1 X.2.1 dX10_verdictOf_222 hl (by decide) rfl (fun ls hl => ?_)
            exact B224 _ _ _ _ _ _ _ _ _ _ _ _ _ _ hf hw (lv_sub hl [1, 2, 3, 4, 5, 6, 7, 0, 8, 9, 10] rfl)
          have B221 : ∀ (x1 : Int32) (x2 : Int32) (x3 : Int32) (x4 : Int32) (x5 : Int32) (x6 : Int32) (x8 : Int32) (x9 : Int32) (x10 : Int32) (S : si_St) (H : Heap) (locs : List Loc) (ls : Array Slot) , f_X10_verdictOf_h221 F (f_X10_verdictOf_l17 F n17) (f_X10_verdictOf_l139 F (f_X10_verdictOf_l17 F n17) n139) x1 x2 x3 x4 x5 x6 x8 x9 x10 S = some o → si_Ws E A s.heap S H locs → lv_has ls 11 [(0, .ref (E.2.1 87)), (1, .int x1), (2, .int x2), (3, .int x3), (4, .int x4), (5, .int x5), (6, .int x6), (8, .int x8), (9, .int x9), (10, .int x10)] → W p l e rm_X10_verdictOf s m args below meth c H locs 0 0 Q (F0 m 221 ls []) := by
            intro x1 x2 x3 x4 x5 x6 x8 x9 x10  S H locs ls  hf hw hl
            unfold f_X10_verdictOf_h221 at hf
            refine lv_iconst (v := 0) X.1 X.2.1 dX10_verdictOf_221 (by decide) ?_
            exact B222 _ _ _ _ _ _ _ _ _ _ _ _ _ _ hf hw (lv_sub hl [0, 1, 2, 3, 4, 5, 6, 7, 8, 9] rfl)
          have B182 : ∀ (x1 : Int32) (x2 : Int32) (x3 : Int32) (x4 : Int32) (x6 : Int32) (x7 : Int32) (x8 : Int32) (x9 : Int32) (x10 : Int32) (t0 : Int32) (S : si_St) (H : Heap) (locs : List Loc) (ls : Array Slot) , f_X10_verdictOf_h182 F (f_X10_verdictOf_l17 F n17) (f_X10_verdictOf_l139 F (f_X10_verdictOf_l17 F n17) n139) x1 x2 x3 x4 x6 x7 x8 x9 x10 t0 S = some o → si_Ws E A s.heap S H locs → lv_has ls 11 [(0, .ref (E.2.1 87)), (1, .int x1), (2, .int x2), (3, .int x3), (4, .int x4), (6, .int x6), (7, .int x7), (8, .int x8), (9, .int x9), (10, .int x10)] → W p l e rm_X10_verdictOf s m args below meth c H locs 0 0 Q (F0 m 182 ls [.int t0]) := by
            intro x1 x2 x3 x4 x6 x7 x8 x9 x10 t0  S H locs ls  hf hw hl
            unfold f_X10_verdictOf_h182 at hf
            refine lv_istore (lv' := [(5, .int t0), (0, .ref (E.2.1 87)), (1, .int x1), (2, .int x2), (3, .int x3), (4, .int x4), (6, .int x6), (7, .int x7), (8, .int x8), (9, .int x9), (10, .int x10)]) X.1 X.2.1 dX10_verdictOf_182 hl (by decide) rfl (fun ls hl => ?_)
            refine lv_iload X.1 X.2.1 dX10_verdictOf_184 (lv_at hl 7 rfl) ?_
            refine lv_if_eq (tgt := 221) X.1 X.2.1 dX10_verdictOf_186 (by decide) (fun c186 => ?_) (fun c186 => ?_)
            · have hf := si_ip c186 hf
              exact B221 _ _ _ _ _ _ _ _ _ _ _ _ _ hf hw (lv_sub hl [1, 2, 3, 4, 5, 0, 6, 8, 9, 10] rfl)
            · have hf := si_in c186 hf
              refine lv_aload_n X.1 X.2.1 dX10_verdictOf_189 rfl (lv_at hl 1 rfl) ?_
              refine lv_iload_n X.1 X.2.1 dX10_verdictOf_190 rfl (lv_at hl 2 rfl) ?_
              refine lv_iload X.1 X.2.1 dX10_verdictOf_191 (lv_at hl 8 rfl) ?_
              obtain ⟨q2, eq2, hf⟩ := si_ob hf
              refine si_cVi [.int x1, .int x8] cal_X10_errorOf gm_RX10_265 X hw hA hl.1 (c_X10_errorOf l E F x1 x8 S q2 eq2) si_cl10 rfl ⟨⟨rfl, rfl⟩, Nat.le_of_ble_eq_true rfl, Nat.le_of_ble_eq_true rfl⟩ rfl rfl (Nat.le_of_ble_eq_true rfl) ⟨Nat.zero_le _, Nat.zero_le _⟩ dX10_verdictOf_193 (fun H locs hw => ?_)
              refine lv_aload_n X.1 X.2.1 dX10_verdictOf_196 rfl (lv_at hl 1 rfl) ?_
              refine lv_iload_n X.1 X.2.1 dX10_verdictOf_197 rfl (lv_at hl 2 rfl) ?_
              refine lv_iload X.1 X.2.1 dX10_verdictOf_198 (lv_at hl 10 rfl) ?_
              obtain ⟨q3, eq3, hf⟩ := si_ob hf
              refine si_cVi [.int x1, .int x10] cal_X10_errorOf gm_RX10_265 X hw hA hl.1 (c_X10_errorOf l E F x1 x10 q2.2 q3 eq3) si_cl10 rfl ⟨⟨rfl, rfl⟩, Nat.le_of_ble_eq_true rfl, Nat.le_of_ble_eq_true rfl⟩ rfl rfl (Nat.le_of_ble_eq_true rfl) ⟨Nat.zero_le _, Nat.zero_le _⟩ dX10_verdictOf_200 (fun H locs hw => ?_)
              refine lv_isub X.1 X.2.1 dX10_verdictOf_203 ?_
              obtain ⟨q4, eq4, hf⟩ := si_ob hf
              refine si_cSi [.int (q2.1 - q3.1)] cal_X10_size gm_RX10_268 X hw hA hl.1 (c_X10_size l E F (q2.1 - q3.1) q3.2 q4 eq4) ⟨⟨rfl, rfl⟩, Nat.le_of_ble_eq_true rfl, Nat.le_of_ble_eq_true rfl⟩ rfl rfl (Nat.le_of_ble_eq_true rfl) ⟨Nat.zero_le _, Nat.zero_le _⟩ dX10_verdictOf_204 (fun H locs hw => ?_)
              refine lv_aload_n X.1 X.2.1 dX10_verdictOf_207 rfl (lv_at hl 1 rfl) ?_
              refine lv_iload_n X.1 X.2.1 dX10_verdictOf_208 rfl (lv_at hl 2 rfl) ?_
              refine lv_iload X.1 X.2.1 dX10_verdictOf_209 (lv_at hl 8 rfl) ?_
              obtain ⟨q5, eq5, hf⟩ := si_ob hf
              refine si_cVi [.int x1, .int x8] cal_X10_toleranceOf gm_RX10_271 X hw hA hl.1 (c_X10_toleranceOf l E F x1 x8 q4.2 q5 eq5) si_cl10 rfl ⟨⟨rfl, rfl⟩, Nat.le_of_ble_eq_true rfl, Nat.le_of_ble_eq_true rfl⟩ rfl rfl (Nat.le_of_ble_eq_true rfl) ⟨Nat.zero_le _, Nat.zero_le _⟩ dX10_verdictOf_211 (fun H locs hw => ?_)
              refine lv_icmp_gt (tgt := 221) X.1 X.2.1 dX10_verdictOf_214 (by decide) (fun c214 => ?_) (fun c214 => ?_)
              · have hf := si_ip c214 hf
                exact B221 _ _ _ _ _ _ _ _ _ _ _ _ _ hf hw (lv_sub hl [1, 2, 3, 4, 5, 0, 6, 8, 9, 10] rfl)
              · have hf := si_in c214 hf
                refine lv_iconst (v := 1) X.1 X.2.1 dX10_verdictOf_217 (by decide) ?_
                refine lv_goto (tgt := 222) X.1 X.2.1 dX10_verdictOf_218 (by decide) ?_
                exact B222 _ _ _ _ _ _ _ _ _ _ _ _ _ _ hf hw (lv_sub hl [1, 2, 3, 4, 5, 0, 6, 8, 9, 10] rfl)
          have B177 : ∀ (x1 : Int32) (x2 : Int32) (x3 : Int32) (x4 : Int32) (x6 : Int32) (x7 : Int32) (x8 : Int32) (x9 : Int32) (x10 : Int32) (S : si_St) (H : Heap) (locs : List Loc) (ls : Array Slot) , f_X10_verdictOf_h177 F (f_X10_verdictOf_l17 F n17) (f_X10_verdictOf_l139 F (f_X10_verdictOf_l17 F n17) n139) x1 x2 x3 x4 x6 x7 x8 x9 x10 S = some o → si_Ws E A s.heap S H locs → lv_has ls 11 [(0, .ref (E.2.1 87)), (1, .int x1), (2, .int x2), (3, .int x3), (4, .int x4), (6, .int x6), (7, .int x7), (8, .int x8), (9, .int x9), (10, .int x10)] → W p l e rm_X10_verdictOf s m args below meth c H locs 0 0 Q (F0 m 177 ls []) := by
            intro x1 x2 x3 x4 x6 x7 x8 x9 x10  S H locs ls  hf hw hl
            unfold f_X10_verdictOf_h177 at hf
            refine lv_iconst (v := 1) X.1 X.2.1 dX10_verdictOf_177 (by decide) ?_
            refine lv_goto (tgt := 182) X.1 X.2.1 dX10_verdictOf_178 (by decide) ?_
            exact B182 _ _ _ _ _ _ _ _ _ _ _ _ _ _ hf hw (lv_sub hl [0, 1, 2, 3, 4, 5, 6, 7, 8, 9] rfl)
          intro x1 x2 x3 x4 x5 x6 x7 x8 x9 x10  S H locs ls  hf hw hl
          have hf : f_X10_verdictOf_h139 F (f_X10_verdictOf_l17 F n17) (f_X10_verdictOf_l139 F (f_X10_verdictOf_l17 F n17) n139) x1 x2 x3 x4 x5 x6 x7 x8 x9 x10 S = some o := hf
          unfold f_X10_verdictOf_h139 at hf
          refine lv_iload X.1 X.2.1 dX10_verdictOf_139 (lv_at hl 10 rfl) ?_
          refine lv_iload X.1 X.2.1 dX10_verdictOf_141 (lv_at hl 8 rfl) ?_
          refine lv_icmp_ge (tgt := 230) X.1 X.2.1 dX10_verdictOf_143 (by decide) (fun c143 => ?_) (fun c143 => ?_)
          · have hf := si_ip c143 hf
            obtain ⟨v6, ev6, hf⟩ := si_ob hf
            refine lv_iinc (v := v6) (lv' := [(8, .int v6), (0, .ref (E.2.1 87)), (1, .int x1), (2, .int x2), (3, .int x3), (4, .int x4), (5, .int x5), (6, .int x6), (7, .int x7), (9, .int x9), (10, .int x10)]) X.1 X.2.1 dX10_verdictOf_230 hl (k := 8) rfl (Option.some.inj ev6) (by decide) rfl (fun ls hl => ?_)
            refine lv_goto (tgt := 17) X.1 X.2.1 dX10_verdictOf_233 (by decide) ?_
            exact ih17 _ _ _ _ _ _ _ _ _ _ _ _ hf hw (lv_sub hl [1, 2, 3, 4, 5, 6, 7, 8, 0] rfl)
          · have hf := si_in c143 hf
            refine lv_aload_n X.1 X.2.1 dX10_verdictOf_146 rfl (lv_at hl 0 rfl) ?_
            refine si_getR (k' := 88) (d := 1) X hw si_cl10 1 (by decide) gf_RX10_13 rfl rfl rfl (by decide) rfl dX10_verdictOf_147 ?_
            refine lv_sipush (v := 181) X.1 X.2.1 dX10_verdictOf_150 (by decide) ?_
            refine lv_bipush (v := 8) X.1 X.2.1 dX10_verdictOf_153 (by decide) ?_
            refine lv_iload_n X.1 X.2.1 dX10_verdictOf_155 rfl (lv_at hl 1 rfl) ?_
            refine lv_imul X.1 X.2.1 dX10_verdictOf_156 ?_
            refine lv_iadd X.1 X.2.1 dX10_verdictOf_157 ?_
            refine lv_iload X.1 X.2.1 dX10_verdictOf_158 (lv_at hl 10 rfl) ?_
            refine lv_iadd X.1 X.2.1 dX10_verdictOf_160 ?_
            obtain ⟨v7, ev7, hf⟩ := si_ob hf
            refine si_iald X hw rfl ev7 dX10_verdictOf_161 ?_
            refine lv_iload X.1 X.2.1 dX10_verdictOf_162 (lv_at hl 9 rfl) ?_
            refine lv_icmp_ne (tgt := 224) X.1 X.2.1 dX10_verdictOf_164 (by decide) (fun c164 => ?_) (fun c164 => ?_)
            · have hf := si_in c164 hf
              exact B224 _ _ _ _ _ _ _ _ _ _ _ _ _ _ hf hw (lv_sub hl [0, 1, 2, 3, 4, 5, 6, 7, 8, 9, 10] rfl)
            · have hf := si_ip c164 hf
              refine lv_iload X.1 X.2.1 dX10_verdictOf_167 (lv_at hl 5 rfl) ?_
              refine lv_if_ne (tgt := 177) X.1 X.2.1 dX10_verdictOf_169 (by decide) (fun c169 => ?_) (fun c169 => ?_)
              · have hf := si_in c169 hf
                exact B177 _ _ _ _ _ _ _ _ _ _ _ _ _ hf hw (lv_sub hl [0, 1, 2, 3, 4, 6, 7, 8, 9, 10] rfl)
              · have hf := si_ip c169 hf
                refine lv_iload X.1 X.2.1 dX10_verdictOf_172 (lv_at hl 9 rfl) ?_
                refine lv_if_eq (tgt := 181) X.1 X.2.1 dX10_verdictOf_174 (by decide) (fun c174 => ?_) (fun c174 => ?_)
                · have hf := si_ip c174 hf
                  refine lv_iconst (v := 0) X.1 X.2.1 dX10_verdictOf_181 (by decide) ?_
                  exact B182 _ _ _ _ _ _ _ _ _ _ _ _ _ _ hf hw (lv_sub hl [0, 1, 2, 3, 4, 6, 7, 8, 9, 10] rfl)
                · have hf := si_in c174 hf
                  exact B177 _ _ _ _ _ _ _ _ _ _ _ _ _ hf hw (lv_sub hl [0, 1, 2, 3, 4, 6, 7, 8, 9, 10] rfl)
      have B134 : ∀ (x1 : Int32) (x2 : Int32) (x3 : Int32) (x4 : Int32) (x5 : Int32) (x7 : Int32) (x8 : Int32) (x9 : Int32) (t0 : Int32) (S : si_St) (H : Heap) (locs : List Loc) (ls : Array Slot) , f_X10_verdictOf_h134 F (f_X10_verdictOf_l17 F n17) x1 x2 x3 x4 x5 x7 x8 x9 t0 S = some o → si_Ws E A s.heap S H locs → lv_has ls 11 [(0, .ref (E.2.1 87)), (1, .int x1), (2, .int x2), (3, .int x3), (4, .int x4), (5, .int x5), (7, .int x7), (8, .int x8), (9, .int x9)] → W p l e rm_X10_verdictOf s m args below meth c H locs 0 0 Q (F0 m 134 ls [.int t0]) := by
        intro x1 x2 x3 x4 x5 x7 x8 x9 t0  S H locs ls  hf hw hl
        unfold f_X10_verdictOf_h134 at hf
        refine lv_istore (lv' := [(6, .int t0), (0, .ref (E.2.1 87)), (1, .int x1), (2, .int x2), (3, .int x3), (4, .int x4), (5, .int x5), (7, .int x7), (8, .int x8), (9, .int x9)]) X.1 X.2.1 dX10_verdictOf_134 hl (by decide) rfl (fun ls hl => ?_)
        refine lv_iconst (v := 0) X.1 X.2.1 dX10_verdictOf_136 (by decide) ?_
        refine lv_istore (lv' := [(10, .int 0), (6, .int t0), (0, .ref (E.2.1 87)), (1, .int x1), (2, .int x2), (3, .int x3), (4, .int x4), (5, .int x5), (7, .int x7), (8, .int x8), (9, .int x9)]) X.1 X.2.1 dX10_verdictOf_137 hl (by decide) rfl (fun ls hl => ?_)
        exact B139 F _ _ _ _ _ _ _ _ _ _ _ _ _ _ hf hw (lv_sub hl [2, 3, 4, 5, 6, 7, 1, 8, 9, 10, 0] rfl)
      have B133 : ∀ (x1 : Int32) (x2 : Int32) (x3 : Int32) (x4 : Int32) (x5 : Int32) (x7 : Int32) (x8 : Int32) (x9 : Int32) (S : si_St) (H : Heap) (locs : List Loc) (ls : Array Slot) , f_X10_verdictOf_h133 F (f_X10_verdictOf_l17 F n17) x1 x2 x3 x4 x5 x7 x8 x9 S = some o → si_Ws E A s.heap S H locs → lv_has ls 11 [(0, .ref (E.2.1 87)), (1, .int x1), (2, .int x2), (3, .int x3), (4, .int x4), (5, .int x5), (7, .int x7), (8, .int x8), (9, .int x9)] → W p l e rm_X10_verdictOf s m args below meth c H locs 0 0 Q (F0 m 133 ls []) := by
        intro x1 x2 x3 x4 x5 x7 x8 x9  S H locs ls  hf hw hl
        unfold f_X10_verdictOf_h133 at hf
        refine lv_iconst (v := 0) X.1 X.2.1 dX10_verdictOf_133 (by decide) ?_
        exact B134 _ _ _ _ _ _ _ _ _ _ _ _ _ hf hw (lv_sub hl [0, 1, 2, 3, 4, 5, 6, 7, 8] rfl)
      have B100 : ∀ (x1 : Int32) (x2 : Int32) (x3 : Int32) (x5 : Int32) (x6 : Int32) (x7 : Int32) (x8 : Int32) (x9 : Int32) (t0 : Int32) (S : si_St) (H : Heap) (locs : List Loc) (ls : Array Slot) , f_X10_verdictOf_h100 F (f_X10_verdictOf_l17 F n17) x1 x2 x3 x5 x6 x7 x8 x9 t0 S = some o → si_Ws E A s.heap S H locs → lv_has ls 11 [(0, .ref (E.2.1 87)), (1, .int x1), (2, .int x2), (3, .int x3), (5, .int x5), (6, .int x6), (7, .int x7), (8, .int x8), (9, .int x9)] → W p l e rm_X10_verdictOf s m args below meth c H locs 0 0 Q (F0 m 100 ls [.int t0]) := by
        intro x1 x2 x3 x5 x6 x7 x8 x9 t0  S H locs ls  hf hw hl
        unfold f_X10_verdictOf_h100 at hf
        refine lv_istore (lv' := [(4, .int t0), (0, .ref (E.2.1 87)), (1, .int x1), (2, .int x2), (3, .int x3), (5, .int x5), (6, .int x6), (7, .int x7), (8, .int x8), (9, .int x9)]) X.1 X.2.1 dX10_verdictOf_100 hl (by decide) rfl (fun ls hl => ?_)
        refine lv_iload X.1 X.2.1 dX10_verdictOf_102 (lv_at hl 6 rfl) ?_
        refine lv_if_eq (tgt := 133) X.1 X.2.1 dX10_verdictOf_104 (by decide) (fun c104 => ?_) (fun c104 => ?_)
        · have hf := si_ip c104 hf
          exact B133 _ _ _ _ _ _ _ _ _ _ _ _ hf hw (lv_sub hl [1, 2, 3, 4, 0, 5, 7, 8, 9] rfl)
        · have hf := si_in c104 hf
          refine lv_aload_n X.1 X.2.1 dX10_verdictOf_107 rfl (lv_at hl 1 rfl) ?_
          refine lv_iload_n X.1 X.2.1 dX10_verdictOf_108 rfl (lv_at hl 2 rfl) ?_
          refine lv_iload X.1 X.2.1 dX10_verdictOf_109 (lv_at hl 8 rfl) ?_
          obtain ⟨q8, eq8, hf⟩ := si_ob hf
          refine si_cVi [.int x1, .int x8] cal_X10_errorOf gm_RX10_265 X hw hA hl.1 (c_X10_errorOf l E F x1 x8 S q8 eq8) si_cl10 rfl ⟨⟨rfl, rfl⟩, Nat.le_of_ble_eq_true rfl, Nat.le_of_ble_eq_true rfl⟩ rfl rfl (Nat.le_of_ble_eq_true rfl) ⟨Nat.zero_le _, Nat.zero_le _⟩ dX10_verdictOf_111 (fun H locs hw => ?_)
          refine lv_iload_n X.1 X.2.1 dX10_verdictOf_114 rfl (lv_at hl 3 rfl) ?_
          refine lv_isub X.1 X.2.1 dX10_verdictOf_115 ?_
          obtain ⟨q9, eq9, hf⟩ := si_ob hf
          refine si_cSi [.int (q8.1 - x2)] cal_X10_size gm_RX10_268 X hw hA hl.1 (c_X10_size l E F (q8.1 - x2) q8.2 q9 eq9) ⟨⟨rfl, rfl⟩, Nat.le_of_ble_eq_true rfl, Nat.le_of_ble_eq_true rfl⟩ rfl rfl (Nat.le_of_ble_eq_true rfl) ⟨Nat.zero_le _, Nat.zero_le _⟩ dX10_verdictOf_116 (fun H locs hw => ?_)
          refine lv_aload_n X.1 X.2.1 dX10_verdictOf_119 rfl (lv_at hl 1 rfl) ?_
          refine lv_iload_n X.1 X.2.1 dX10_verdictOf_120 rfl (lv_at hl 2 rfl) ?_
          refine lv_iload X.1 X.2.1 dX10_verdictOf_121 (lv_at hl 8 rfl) ?_
          obtain ⟨q10, eq10, hf⟩ := si_ob hf
          refine si_cVi [.int x1, .int x8] cal_X10_toleranceOf gm_RX10_271 X hw hA hl.1 (c_X10_toleranceOf l E F x1 x8 q9.2 q10 eq10) si_cl10 rfl ⟨⟨rfl, rfl⟩, Nat.le_of_ble_eq_true rfl, Nat.le_of_ble_eq_true rfl⟩ rfl rfl (Nat.le_of_ble_eq_true rfl) ⟨Nat.zero_le _, Nat.zero_le _⟩ dX10_verdictOf_123 (fun H locs hw => ?_)
          refine lv_icmp_gt (tgt := 133) X.1 X.2.1 dX10_verdictOf_126 (by decide) (fun c126 => ?_) (fun c126 => ?_)
          · have hf := si_ip c126 hf
            exact B133 _ _ _ _ _ _ _ _ _ _ _ _ hf hw (lv_sub hl [1, 2, 3, 4, 0, 5, 7, 8, 9] rfl)
          · have hf := si_in c126 hf
            refine lv_iconst (v := 1) X.1 X.2.1 dX10_verdictOf_129 (by decide) ?_
            refine lv_goto (tgt := 134) X.1 X.2.1 dX10_verdictOf_130 (by decide) ?_
            exact B134 _ _ _ _ _ _ _ _ _ _ _ _ _ hf hw (lv_sub hl [1, 2, 3, 4, 0, 5, 7, 8, 9] rfl)
      have B95 : ∀ (x1 : Int32) (x2 : Int32) (x3 : Int32) (x5 : Int32) (x6 : Int32) (x7 : Int32) (x8 : Int32) (x9 : Int32) (S : si_St) (H : Heap) (locs : List Loc) (ls : Array Slot) , f_X10_verdictOf_h95 F (f_X10_verdictOf_l17 F n17) x1 x2 x3 x5 x6 x7 x8 x9 S = some o → si_Ws E A s.heap S H locs → lv_has ls 11 [(0, .ref (E.2.1 87)), (1, .int x1), (2, .int x2), (3, .int x3), (5, .int x5), (6, .int x6), (7, .int x7), (8, .int x8), (9, .int x9)] → W p l e rm_X10_verdictOf s m args below meth c H locs 0 0 Q (F0 m 95 ls []) := by
        intro x1 x2 x3 x5 x6 x7 x8 x9  S H locs ls  hf hw hl
        unfold f_X10_verdictOf_h95 at hf
        refine lv_iconst (v := 1) X.1 X.2.1 dX10_verdictOf_95 (by decide) ?_
        refine lv_goto (tgt := 100) X.1 X.2.1 dX10_verdictOf_96 (by decide) ?_
        exact B100 _ _ _ _ _ _ _ _ _ _ _ _ _ hf hw (lv_sub hl [0, 1, 2, 3, 4, 5, 6, 7, 8] rfl)
      have B64 : ∀ (x1 : Int32) (x2 : Int32) (x4 : Int32) (x5 : Int32) (x6 : Int32) (x7 : Int32) (x8 : Int32) (x9 : Int32) (t0 : Int32) (S : si_St) (H : Heap) (locs : List Loc) (ls : Array Slot) , f_X10_verdictOf_h64 F (f_X10_verdictOf_l17 F n17) x1 x2 x4 x5 x6 x7 x8 x9 t0 S = some o → si_Ws E A s.heap S H locs → lv_has ls 11 [(0, .ref (E.2.1 87)), (1, .int x1), (2, .int x2), (4, .int x4), (5, .int x5), (6, .int x6), (7, .int x7), (8, .int x8), (9, .int x9)] → W p l e rm_X10_verdictOf s m args below meth c H locs 0 0 Q (F0 m 64 ls [.int t0]) := by
        intro x1 x2 x4 x5 x6 x7 x8 x9 t0  S H locs ls  hf hw hl
        unfold f_X10_verdictOf_h64 at hf
        refine lv_istore_n (lv' := [(3, .int t0), (0, .ref (E.2.1 87)), (1, .int x1), (2, .int x2), (4, .int x4), (5, .int x5), (6, .int x6), (7, .int x7), (8, .int x8), (9, .int x9)]) X.1 X.2.1 dX10_verdictOf_64 rfl hl (by decide) rfl (fun ls hl => ?_)
        refine lv_iload X.1 X.2.1 dX10_verdictOf_65 (lv_at hl 4 rfl) ?_
        refine lv_if_ne (tgt := 95) X.1 X.2.1 dX10_verdictOf_67 (by decide) (fun c67 => ?_) (fun c67 => ?_)
        · have hf := si_in c67 hf
          exact B95 _ _ _ _ _ _ _ _ _ _ _ _ hf hw (lv_sub hl [1, 2, 3, 0, 5, 6, 7, 8, 9] rfl)
        · have hf := si_ip c67 hf
          refine lv_iconst (v := 2) X.1 X.2.1 dX10_verdictOf_70 (by decide) ?_
          refine lv_aload_n X.1 X.2.1 dX10_verdictOf_71 rfl (lv_at hl 1 rfl) ?_
          refine lv_iload_n X.1 X.2.1 dX10_verdictOf_72 rfl (lv_at hl 2 rfl) ?_
          refine lv_iload X.1 X.2.1 dX10_verdictOf_73 (lv_at hl 8 rfl) ?_
          obtain ⟨q11, eq11, hf⟩ := si_ob hf
          refine si_cVi [.int x1, .int x8] cal_X10_loadOf gm_RX10_259 X hw hA hl.1 (c_X10_loadOf l E F x1 x8 S q11 eq11) si_cl10 rfl ⟨⟨rfl, rfl⟩, Nat.le_of_ble_eq_true rfl, Nat.le_of_ble_eq_true rfl⟩ rfl rfl (Nat.le_of_ble_eq_true rfl) ⟨Nat.zero_le _, Nat.zero_le _⟩ dX10_verdictOf_75 (fun H locs hw => ?_)
          refine lv_imul X.1 X.2.1 dX10_verdictOf_78 ?_
          refine lv_aload_n X.1 X.2.1 dX10_verdictOf_79 rfl (lv_at hl 1 rfl) ?_
          refine si_getR (k' := 92) (d := 5) X hw si_cl10 7 (by decide) gf_RX10_26 rfl rfl rfl (by decide) rfl dX10_verdictOf_80 ?_
          refine lv_aload_n X.1 X.2.1 dX10_verdictOf_83 rfl (lv_at hl 1 rfl) ?_
          refine si_getR (k' := 88) (d := 1) X hw si_cl10 1 (by decide) gf_RX10_13 rfl rfl rfl (by decide) rfl dX10_verdictOf_84 ?_
          refine lv_iconst (v := 1) X.1 X.2.1 dX10_verdictOf_87 (by decide) ?_
          refine lv_iload_n X.1 X.2.1 dX10_verdictOf_88 rfl (lv_at hl 2 rfl) ?_
          refine lv_iadd X.1 X.2.1 dX10_verdictOf_89 ?_
          obtain ⟨v12, ev12, hf⟩ := si_ob hf
          refine si_iald X hw rfl ev12 dX10_verdictOf_90 ?_
          obtain ⟨v13, ev13, hf⟩ := si_ob hf
          refine si_iald X hw rfl ev13 dX10_verdictOf_91 ?_
          refine lv_icmp_lt (tgt := 99) X.1 X.2.1 dX10_verdictOf_92 (by decide) (fun c92 => ?_) (fun c92 => ?_)
          · have hf := si_ip c92 hf
            refine lv_iconst (v := 0) X.1 X.2.1 dX10_verdictOf_99 (by decide) ?_
            exact B100 _ _ _ _ _ _ _ _ _ _ _ _ _ hf hw (lv_sub hl [1, 2, 3, 0, 5, 6, 7, 8, 9] rfl)
          · have hf := si_in c92 hf
            exact B95 _ _ _ _ _ _ _ _ _ _ _ _ hf hw (lv_sub hl [1, 2, 3, 0, 5, 6, 7, 8, 9] rfl)
      have B59 : ∀ (x1 : Int32) (x2 : Int32) (x4 : Int32) (x5 : Int32) (x6 : Int32) (x7 : Int32) (x8 : Int32) (x9 : Int32) (S : si_St) (H : Heap) (locs : List Loc) (ls : Array Slot) , f_X10_verdictOf_h59 F (f_X10_verdictOf_l17 F n17) x1 x2 x4 x5 x6 x7 x8 x9 S = some o → si_Ws E A s.heap S H locs → lv_has ls 11 [(0, .ref (E.2.1 87)), (1, .int x1), (2, .int x2), (4, .int x4), (5, .int x5), (6, .int x6), (7, .int x7), (8, .int x8), (9, .int x9)] → W p l e rm_X10_verdictOf s m args below meth c H locs 0 0 Q (F0 m 59 ls []) := by
        intro x1 x2 x4 x5 x6 x7 x8 x9  S H locs ls  hf hw hl
        unfold f_X10_verdictOf_h59 at hf
        refine lv_iconst (v := 1) X.1 X.2.1 dX10_verdictOf_59 (by decide) ?_
        refine lv_goto (tgt := 64) X.1 X.2.1 dX10_verdictOf_60 (by decide) ?_
        exact B64 _ _ _ _ _ _ _ _ _ _ _ _ _ hf hw (lv_sub hl [0, 1, 2, 3, 4, 5, 6, 7, 8] rfl)
      intro x1 x2 x3 x4 x5 x6 x7 x8  S H locs ls  hf hw hl
      have hf : f_X10_verdictOf_h17 F (f_X10_verdictOf_l17 F n17) x1 x2 x3 x4 x5 x6 x7 x8 S = some o := hf
      unfold f_X10_verdictOf_h17 at hf
      refine lv_iload X.1 X.2.1 dX10_verdictOf_17 (lv_at hl 8 rfl) ?_
      refine lv_aload_n X.1 X.2.1 dX10_verdictOf_19 rfl (lv_at hl 0 rfl) ?_
      refine si_getR (k' := 88) (d := 1) X hw si_cl10 1 (by decide) gf_RX10_13 rfl rfl rfl (by decide) rfl dX10_verdictOf_20 ?_
      refine lv_sipush (v := 151) X.1 X.2.1 dX10_verdictOf_23 (by decide) ?_
      refine lv_iload_n X.1 X.2.1 dX10_verdictOf_26 rfl (lv_at hl 1 rfl) ?_
      refine lv_iadd X.1 X.2.1 dX10_verdictOf_27 ?_
      obtain ⟨v14, ev14, hf⟩ := si_ob hf
      refine si_iald X hw rfl ev14 dX10_verdictOf_28 ?_
      refine lv_icmp_ge (tgt := 236) X.1 X.2.1 dX10_verdictOf_29 (by decide) (fun c29 => ?_) (fun c29 => ?_)
      · have hf := si_ip c29 hf
        refine lv_iload_n X.1 X.2.1 dX10_verdictOf_236 rfl (lv_at hl 3 rfl) ?_
        refine lv_if_ne (tgt := 244) X.1 X.2.1 dX10_verdictOf_237 (by decide) (fun c237 => ?_) (fun c237 => ?_)
        · have hf := si_in c237 hf
          refine lv_iload X.1 X.2.1 dX10_verdictOf_244 (lv_at hl 4 rfl) ?_
          refine lv_if_ne (tgt := 253) X.1 X.2.1 dX10_verdictOf_246 (by decide) (fun c246 => ?_) (fun c246 => ?_)
          · have hf := si_in c246 hf
            refine lv_iload X.1 X.2.1 dX10_verdictOf_253 (lv_at hl 5 rfl) ?_
            refine lv_if_ne (tgt := 262) X.1 X.2.1 dX10_verdictOf_255 (by decide) (fun c255 => ?_) (fun c255 => ?_)
            · have hf := si_in c255 hf
              refine lv_iload X.1 X.2.1 dX10_verdictOf_262 (lv_at hl 6 rfl) ?_
              refine lv_if_ne (tgt := 271) X.1 X.2.1 dX10_verdictOf_264 (by decide) (fun c264 => ?_) (fun c264 => ?_)
              · have hf := si_in c264 hf
                refine lv_iload X.1 X.2.1 dX10_verdictOf_271 (lv_at hl 7 rfl) ?_
                refine lv_if_ne (tgt := 280) X.1 X.2.1 dX10_verdictOf_273 (by decide) (fun c273 => ?_) (fun c273 => ?_)
                · have hf := si_in c273 hf
                  refine lv_iconst (v := 0) X.1 X.2.1 dX10_verdictOf_280 (by decide) ?_
                  exact B281 _ _ _ _ _ hf hw (lv_sub hl [] rfl)
                · have hf := si_ip c273 hf
                  refine lv_iconst (v := 5) X.1 X.2.1 dX10_verdictOf_276 (by decide) ?_
                  refine lv_goto (tgt := 281) X.1 X.2.1 dX10_verdictOf_277 (by decide) ?_
                  exact B281 _ _ _ _ _ hf hw (lv_sub hl [] rfl)
              · have hf := si_ip c264 hf
                refine lv_iconst (v := 4) X.1 X.2.1 dX10_verdictOf_267 (by decide) ?_
                refine lv_goto (tgt := 281) X.1 X.2.1 dX10_verdictOf_268 (by decide) ?_
                exact B281 _ _ _ _ _ hf hw (lv_sub hl [] rfl)
            · have hf := si_ip c255 hf
              refine lv_iconst (v := 3) X.1 X.2.1 dX10_verdictOf_258 (by decide) ?_
              refine lv_goto (tgt := 281) X.1 X.2.1 dX10_verdictOf_259 (by decide) ?_
              exact B281 _ _ _ _ _ hf hw (lv_sub hl [] rfl)
          · have hf := si_ip c246 hf
            refine lv_iconst (v := 2) X.1 X.2.1 dX10_verdictOf_249 (by decide) ?_
            refine lv_goto (tgt := 281) X.1 X.2.1 dX10_verdictOf_250 (by decide) ?_
            exact B281 _ _ _ _ _ hf hw (lv_sub hl [] rfl)
        · have hf := si_ip c237 hf
          refine lv_iconst (v := 1) X.1 X.2.1 dX10_verdictOf_240 (by decide) ?_
          refine lv_goto (tgt := 281) X.1 X.2.1 dX10_verdictOf_241 (by decide) ?_
          exact B281 _ _ _ _ _ hf hw (lv_sub hl [] rfl)
      · have hf := si_in c29 hf
        refine lv_aload_n X.1 X.2.1 dX10_verdictOf_32 rfl (lv_at hl 0 rfl) ?_
        refine si_getR (k' := 88) (d := 1) X hw si_cl10 1 (by decide) gf_RX10_13 rfl rfl rfl (by decide) rfl dX10_verdictOf_33 ?_
        refine lv_sipush (v := 181) X.1 X.2.1 dX10_verdictOf_36 (by decide) ?_
        refine lv_bipush (v := 8) X.1 X.2.1 dX10_verdictOf_39 (by decide) ?_
        refine lv_iload_n X.1 X.2.1 dX10_verdictOf_41 rfl (lv_at hl 1 rfl) ?_
        refine lv_imul X.1 X.2.1 dX10_verdictOf_42 ?_
        refine lv_iadd X.1 X.2.1 dX10_verdictOf_43 ?_
        refine lv_iload X.1 X.2.1 dX10_verdictOf_44 (lv_at hl 8 rfl) ?_
        refine lv_iadd X.1 X.2.1 dX10_verdictOf_46 ?_
        obtain ⟨v15, ev15, hf⟩ := si_ob hf
        refine si_iald X hw rfl ev15 dX10_verdictOf_47 ?_
        refine lv_istore (lv' := [(9, .int v15), (0, .ref (E.2.1 87)), (1, .int x1), (2, .int x2), (3, .int x3), (4, .int x4), (5, .int x5), (6, .int x6), (7, .int x7), (8, .int x8)]) X.1 X.2.1 dX10_verdictOf_48 hl (by decide) rfl (fun ls hl => ?_)
        refine lv_iload_n X.1 X.2.1 dX10_verdictOf_50 rfl (lv_at hl 4 rfl) ?_
        refine lv_if_ne (tgt := 59) X.1 X.2.1 dX10_verdictOf_51 (by decide) (fun c51 => ?_) (fun c51 => ?_)
        · have hf := si_in c51 hf
          exact B59 _ _ _ _ _ _ _ _ _ _ _ _ hf hw (lv_sub hl [1, 2, 3, 5, 6, 7, 8, 9, 0] rfl)
        · have hf := si_ip c51 hf
          refine lv_iload X.1 X.2.1 dX10_verdictOf_54 (lv_at hl 0 rfl) ?_
          refine lv_if_ne (tgt := 63) X.1 X.2.1 dX10_verdictOf_56 (by decide) (fun c56 => ?_) (fun c56 => ?_)
          · have hf := si_in c56 hf
            refine lv_iconst (v := 0) X.1 X.2.1 dX10_verdictOf_63 (by decide) ?_
            exact B64 _ _ _ _ _ _ _ _ _ _ _ _ _ hf hw (lv_sub hl [1, 2, 3, 5, 6, 7, 8, 9, 0] rfl)
          · have hf := si_ip c56 hf
            exact B59 _ _ _ _ _ _ _ _ _ _ _ _ hf hw (lv_sub hl [1, 2, 3, 5, 6, 7, 8, 9, 0] rfl)
  unfold f_X10_verdictOf at hf
  refine lv_iconst (v := 0) X.1 X.2.1 dX10_verdictOf_0 (by decide) ?_
  refine lv_istore_n (lv' := [(3, .int 0), (0, .ref (E.2.1 87)), (1, .int x1), (2, .int x2)]) X.1 X.2.1 dX10_verdictOf_1 rfl hl (by decide) rfl (fun ls hl => ?_)
  refine lv_iconst (v := 0) X.1 X.2.1 dX10_verdictOf_2 (by decide) ?_
  refine lv_istore (lv' := [(4, .int 0), (3, .int 0), (0, .ref (E.2.1 87)), (1, .int x1), (2, .int x2)]) X.1 X.2.1 dX10_verdictOf_3 hl (by decide) rfl (fun ls hl => ?_)
  refine lv_iconst (v := 0) X.1 X.2.1 dX10_verdictOf_5 (by decide) ?_
  refine lv_istore (lv' := [(5, .int 0), (4, .int 0), (3, .int 0), (0, .ref (E.2.1 87)), (1, .int x1), (2, .int x2)]) X.1 X.2.1 dX10_verdictOf_6 hl (by decide) rfl (fun ls hl => ?_)
  refine lv_iconst (v := 1) X.1 X.2.1 dX10_verdictOf_8 (by decide) ?_
  refine lv_istore (lv' := [(6, .int 1), (5, .int 0), (4, .int 0), (3, .int 0), (0, .ref (E.2.1 87)), (1, .int x1), (2, .int x2)]) X.1 X.2.1 dX10_verdictOf_9 hl (by decide) rfl (fun ls hl => ?_)
  refine lv_iconst (v := 1) X.1 X.2.1 dX10_verdictOf_11 (by decide) ?_
  refine lv_istore (lv' := [(7, .int 1), (6, .int 1), (5, .int 0), (4, .int 0), (3, .int 0), (0, .ref (E.2.1 87)), (1, .int x1), (2, .int x2)]) X.1 X.2.1 dX10_verdictOf_12 hl (by decide) rfl (fun ls hl => ?_)
  refine lv_iconst (v := 0) X.1 X.2.1 dX10_verdictOf_14 (by decide) ?_
  refine lv_istore (lv' := [(8, .int 0), (7, .int 1), (6, .int 1), (5, .int 0), (4, .int 0), (3, .int 0), (0, .ref (E.2.1 87)), (1, .int x1), (2, .int x2)]) X.1 X.2.1 dX10_verdictOf_15 hl (by decide) rfl (fun ls hl => ?_)
  exact B17 F _ _ _ _ _ _ _ _ _ _ _ _ hf hw (lv_sub hl [6, 7, 8, 5, 4, 3, 2, 1, 0] rfl)
abbrev rm_X10_verdict : Room := { frames := 4, cells := 0, slots := 0, locals := 97 }
set_option maxHeartbeats 4000000 in
set_option maxRecDepth 100000 in
theorem c_X10_verdict (l : Launch) (E : si_Ev) (F : Nat) (x1 : Int32) (S : si_St) (o : Int32 × si_St) (hf : f_X10_verdict F x1 S = some o) : si_Mi l E yX10_verdict cX10_verdict 2 (some .int) rm_X10_verdict [.ref (E.2.1 87), .int x1] S o := by
  refine si_ofWi (plainFor_of_name (by decide +kernel)) (Nat.le_of_ble_eq_true rfl) ?_
  intro p e s m args below meth c ls Q A X hw hA hl hret
  have hl : lv_has ls 2 [(0, .ref (E.2.1 87)), (1, .int x1)] := hl
  have B23 : ∀ (t0 : Int32) (S : si_St) (H : Heap) (locs : List Loc) (ls : Array Slot) , f_X10_verdict_h23 F t0 S = some o → si_Ws E A s.heap S H locs → lv_has ls 2 [] → W p l e rm_X10_verdict s m args below meth c H locs 0 0 Q (F0 m 23 ls [.int t0]) := by
    intro t0  S H locs ls  hf hw hl
    unfold f_X10_verdict_h23 at hf
    exact hret _ _ _ _ _ _ hf hw dX10_verdict_23
  unfold f_X10_verdict at hf
  refine lv_aload_n X.1 X.2.1 dX10_verdict_0 rfl (lv_at hl 0 rfl) ?_
  refine lv_iconst (v := 0) X.1 X.2.1 dX10_verdict_1 (by decide) ?_
  obtain ⟨S1, eS1, hf⟩ := si_ob hf
  refine si_ptI X hw si_cl10 0 (by decide) gf_RX10_1 rfl rfl rfl rfl rfl eS1 dX10_verdict_2 (fun H locs hw => ?_)
  refine lv_aload_n X.1 X.2.1 dX10_verdict_5 rfl (lv_at hl 0 rfl) ?_
  refine lv_iload_n X.1 X.2.1 dX10_verdict_6 rfl (lv_at hl 1 rfl) ?_
  obtain ⟨q2, eq2, hf⟩ := si_ob hf
  refine si_cVi [.int x1] cal_X10_isVisit gm_RX10_252 X hw hA hl.1 (c_X10_isVisit l E F x1 S1 q2 eq2) si_cl10 rfl ⟨⟨rfl, rfl⟩, Nat.le_of_ble_eq_true rfl, Nat.le_of_ble_eq_true rfl⟩ rfl rfl (Nat.le_of_ble_eq_true rfl) ⟨Nat.zero_le _, Nat.zero_le _⟩ dX10_verdict_7 (fun H locs hw => ?_)
  refine lv_if_eq (tgt := 22) X.1 X.2.1 dX10_verdict_10 (by decide) (fun c10 => ?_) (fun c10 => ?_)
  · have hf := si_ip c10 hf
    refine lv_iconst (v := (-1)) X.1 X.2.1 dX10_verdict_22 (by decide) ?_
    exact B23 _ _ _ _ _ hf hw (lv_sub hl [] rfl)
  · have hf := si_in c10 hf
    refine lv_aload_n X.1 X.2.1 dX10_verdict_13 rfl (lv_at hl 0 rfl) ?_
    refine lv_iload_n X.1 X.2.1 dX10_verdict_14 rfl (lv_at hl 1 rfl) ?_
    refine lv_iconst (v := 0) X.1 X.2.1 dX10_verdict_15 (by decide) ?_
    obtain ⟨q3, eq3, hf⟩ := si_ob hf
    refine si_cVi [.int x1, .int 0] cal_X10_verdictOf gm_RX10_274 X hw hA hl.1 (c_X10_verdictOf l E F x1 0 q2.2 q3 eq3) si_cl10 rfl ⟨⟨rfl, rfl⟩, Nat.le_of_ble_eq_true rfl, Nat.le_of_ble_eq_true rfl⟩ rfl rfl (Nat.le_of_ble_eq_true rfl) ⟨Nat.zero_le _, Nat.zero_le _⟩ dX10_verdict_16 (fun H locs hw => ?_)
    refine lv_goto (tgt := 23) X.1 X.2.1 dX10_verdict_19 (by decide) ?_
    exact B23 _ _ _ _ _ hf hw (lv_sub hl [] rfl)
abbrev rm_X10_adjustmentOf : Room := { frames := 3, cells := 0, slots := 0, locals := 67 }
set_option maxHeartbeats 4000000 in
set_option maxRecDepth 100000 in
theorem c_X10_adjustmentOf (l : Launch) (E : si_Ev) (F : Nat) (x1 : Int32) (S : si_St) (o : Int32 × si_St) (hf : f_X10_adjustmentOf F x1 S = some o) : si_Mi l E yX10_adjustmentOf cX10_adjustmentOf 6 (some .int) rm_X10_adjustmentOf [.ref (E.2.1 87), .int x1] S o := by
  refine si_ofWi (plainFor_of_name (by decide +kernel)) (Nat.le_of_ble_eq_true rfl) ?_
  intro p e s m args below meth c ls Q A X hw hA hl hret
  have hl : lv_has ls 6 [(0, .ref (E.2.1 87)), (1, .int x1)] := hl
  have B12 : ∀ (n12 : Nat) (x1 : Int32) (x2 : Int32) (x3 : Int32) (x4 : Int32) (S : si_St) (H : Heap) (locs : List Loc) (ls : Array Slot) , f_X10_adjustmentOf_l12 F n12 x1 x2 x3 x4 S = some o → si_Ws E A s.heap S H locs → lv_has ls 6 [(0, .ref (E.2.1 87)), (1, .int x1), (2, .int x2), (3, .int x3), (4, .int x4)] → W p l e rm_X10_adjustmentOf s m args below meth c H locs 0 0 Q (F0 m 12 ls []) := by
    intro n12
    induction n12 with
    | zero => intro x1 x2 x3 x4  S H locs ls  hf; cases hf
    | succ n12 ih12 =>
      have B61 : ∀ (x1 : Int32) (x2 : Int32) (x4 : Int32) (t0 : Int32) (S : si_St) (H : Heap) (locs : List Loc) (ls : Array Slot) , f_X10_adjustmentOf_h61 F (f_X10_adjustmentOf_l12 F n12) x1 x2 x4 t0 S = some o → si_Ws E A s.heap S H locs → lv_has ls 6 [(0, .ref (E.2.1 87)), (1, .int x1), (2, .int x2), (4, .int x4)] → W p l e rm_X10_adjustmentOf s m args below meth c H locs 0 0 Q (F0 m 61 ls [.int t0]) := by
        intro x1 x2 x4 t0  S H locs ls  hf hw hl
        unfold f_X10_adjustmentOf_h61 at hf
        refine lv_istore_n (lv' := [(3, .int t0), (0, .ref (E.2.1 87)), (1, .int x1), (2, .int x2), (4, .int x4)]) X.1 X.2.1 dX10_adjustmentOf_61 rfl hl (by decide) rfl (fun ls hl => ?_)
        obtain ⟨v1, ev1, hf⟩ := si_ob hf
        refine lv_iinc (v := v1) (lv' := [(4, .int v1), (3, .int t0), (0, .ref (E.2.1 87)), (1, .int x1), (2, .int x2)]) X.1 X.2.1 dX10_adjustmentOf_62 hl (k := 4) rfl (Option.some.inj ev1) (by decide) rfl (fun ls hl => ?_)
        refine lv_goto (tgt := 12) X.1 X.2.1 dX10_adjustmentOf_65 (by decide) ?_
        exact ih12 _ _ _ _ _ _ _ _ hf hw (lv_sub hl [2, 3, 4, 1, 0] rfl)
      have B48 : ∀ (x1 : Int32) (x3 : Int32) (x4 : Int32) (x5 : Int32) (t0 : Int32) (S : si_St) (H : Heap) (locs : List Loc) (ls : Array Slot) , f_X10_adjustmentOf_h48 F (f_X10_adjustmentOf_l12 F n12) x1 x3 x4 x5 t0 S = some o → si_Ws E A s.heap S H locs → lv_has ls 6 [(0, .ref (E.2.1 87)), (1, .int x1), (3, .int x3), (4, .int x4), (5, .int x5)] → W p l e rm_X10_adjustmentOf s m args below meth c H locs 0 0 Q (F0 m 48 ls [.int t0]) := by
        intro x1 x3 x4 x5 t0  S H locs ls  hf hw hl
        unfold f_X10_adjustmentOf_h48 at hf
        refine lv_istore_n (lv' := [(2, .int t0), (0, .ref (E.2.1 87)), (1, .int x1), (3, .int x3), (4, .int x4), (5, .int x5)]) X.1 X.2.1 dX10_adjustmentOf_48 rfl hl (by decide) rfl (fun ls hl => ?_)
        refine lv_iload X.1 X.2.1 dX10_adjustmentOf_49 (lv_at hl 5 rfl) ?_
        refine lv_iload_n X.1 X.2.1 dX10_adjustmentOf_51 rfl (lv_at hl 3 rfl) ?_
        refine lv_icmp_le (tgt := 60) X.1 X.2.1 dX10_adjustmentOf_52 (by decide) (fun c52 => ?_) (fun c52 => ?_)
        · have hf := si_ip c52 hf
          refine lv_iload_n X.1 X.2.1 dX10_adjustmentOf_60 rfl (lv_at hl 3 rfl) ?_
          exact B61 _ _ _ _ _ _ _ _ hf hw (lv_sub hl [1, 2, 0, 4] rfl)
        · have hf := si_in c52 hf
          refine lv_iload X.1 X.2.1 dX10_adjustmentOf_55 (lv_at hl 5 rfl) ?_
          refine lv_goto (tgt := 61) X.1 X.2.1 dX10_adjustmentOf_57 (by decide) ?_
          exact B61 _ _ _ _ _ _ _ _ hf hw (lv_sub hl [1, 2, 0, 4] rfl)
      intro x1 x2 x3 x4  S H locs ls  hf hw hl
      have hf : f_X10_adjustmentOf_h12 F (f_X10_adjustmentOf_l12 F n12) x1 x2 x3 x4 S = some o := hf
      unfold f_X10_adjustmentOf_h12 at hf
      refine lv_iload X.1 X.2.1 dX10_adjustmentOf_12 (lv_at hl 4 rfl) ?_
      refine lv_aload_n X.1 X.2.1 dX10_adjustmentOf_14 rfl (lv_at hl 0 rfl) ?_
      refine si_getR (k' := 88) (d := 1) X hw si_cl10 1 (by decide) gf_RX10_13 rfl rfl rfl (by decide) rfl dX10_adjustmentOf_15 ?_
      refine lv_sipush (v := 151) X.1 X.2.1 dX10_adjustmentOf_18 (by decide) ?_
      refine lv_iload_n X.1 X.2.1 dX10_adjustmentOf_21 rfl (lv_at hl 1 rfl) ?_
      refine lv_iadd X.1 X.2.1 dX10_adjustmentOf_22 ?_
      obtain ⟨v2, ev2, hf⟩ := si_ob hf
      refine si_iald X hw rfl ev2 dX10_adjustmentOf_23 ?_
      refine lv_icmp_ge (tgt := 68) X.1 X.2.1 dX10_adjustmentOf_24 (by decide) (fun c24 => ?_) (fun c24 => ?_)
      · have hf := si_ip c24 hf
        refine lv_iload_n X.1 X.2.1 dX10_adjustmentOf_68 rfl (lv_at hl 2 rfl) ?_
        refine lv_iload_n X.1 X.2.1 dX10_adjustmentOf_69 rfl (lv_at hl 3 rfl) ?_
        refine lv_iadd X.1 X.2.1 dX10_adjustmentOf_70 ?_
        refine lv_iconst (v := 1) X.1 X.2.1 dX10_adjustmentOf_71 (by decide) ?_
        refine lv_ishr X.1 X.2.1 dX10_adjustmentOf_72 ?_
        exact hret _ _ _ _ _ _ hf hw dX10_adjustmentOf_73
      · have hf := si_in c24 hf
        refine lv_aload_n X.1 X.2.1 dX10_adjustmentOf_27 rfl (lv_at hl 0 rfl) ?_
        refine lv_iload_n X.1 X.2.1 dX10_adjustmentOf_28 rfl (lv_at hl 1 rfl) ?_
        refine lv_iload X.1 X.2.1 dX10_adjustmentOf_29 (lv_at hl 4 rfl) ?_
        obtain ⟨q3, eq3, hf⟩ := si_ob hf
        refine si_cVi [.int x1, .int x4] cal_X10_errorOf gm_RX10_265 X hw hA hl.1 (c_X10_errorOf l E F x1 x4 S q3 eq3) si_cl10 rfl ⟨⟨rfl, rfl⟩, Nat.le_of_ble_eq_true rfl, Nat.le_of_ble_eq_true rfl⟩ rfl rfl (Nat.le_of_ble_eq_true rfl) ⟨Nat.zero_le _, Nat.zero_le _⟩ dX10_adjustmentOf_31 (fun H locs hw => ?_)
        refine lv_istore (lv' := [(5, .int q3.1), (0, .ref (E.2.1 87)), (1, .int x1), (2, .int x2), (3, .int x3), (4, .int x4)]) X.1 X.2.1 dX10_adjustmentOf_34 hl (by decide) rfl (fun ls hl => ?_)
        refine lv_iload X.1 X.2.1 dX10_adjustmentOf_36 (lv_at hl 0 rfl) ?_
        refine lv_iload_n X.1 X.2.1 dX10_adjustmentOf_38 rfl (lv_at hl 3 rfl) ?_
        refine lv_icmp_ge (tgt := 47) X.1 X.2.1 dX10_adjustmentOf_39 (by decide) (fun c39 => ?_) (fun c39 => ?_)
        · have hf := si_ip c39 hf
          refine lv_iload_n X.1 X.2.1 dX10_adjustmentOf_47 rfl (lv_at hl 3 rfl) ?_
          exact B48 _ _ _ _ _ _ _ _ _ hf hw (lv_sub hl [1, 2, 4, 5, 0] rfl)
        · have hf := si_in c39 hf
          refine lv_iload X.1 X.2.1 dX10_adjustmentOf_42 (lv_at hl 0 rfl) ?_
          refine lv_goto (tgt := 48) X.1 X.2.1 dX10_adjustmentOf_44 (by decide) ?_
          exact B48 _ _ _ _ _ _ _ _ _ hf hw (lv_sub hl [1, 2, 4, 5, 0] rfl)
  unfold f_X10_adjustmentOf at hf
  refine lv_aload_n X.1 X.2.1 dX10_adjustmentOf_0 rfl (lv_at hl 0 rfl) ?_
  refine lv_iload_n X.1 X.2.1 dX10_adjustmentOf_1 rfl (lv_at hl 1 rfl) ?_
  refine lv_iconst (v := 0) X.1 X.2.1 dX10_adjustmentOf_2 (by decide) ?_
  obtain ⟨q4, eq4, hf⟩ := si_ob hf
  refine si_cVi [.int x1, .int 0] cal_X10_errorOf gm_RX10_265 X hw hA hl.1 (c_X10_errorOf l E F x1 0 S q4 eq4) si_cl10 rfl ⟨⟨rfl, rfl⟩, Nat.le_of_ble_eq_true rfl, Nat.le_of_ble_eq_true rfl⟩ rfl rfl (Nat.le_of_ble_eq_true rfl) ⟨Nat.zero_le _, Nat.zero_le _⟩ dX10_adjustmentOf_3 (fun H locs hw => ?_)
  refine lv_istore_n (lv' := [(2, .int q4.1), (0, .ref (E.2.1 87)), (1, .int x1)]) X.1 X.2.1 dX10_adjustmentOf_6 rfl hl (by decide) rfl (fun ls hl => ?_)
  refine lv_iload_n X.1 X.2.1 dX10_adjustmentOf_7 rfl (lv_at hl 0 rfl) ?_
  refine lv_istore_n (lv' := [(3, .int q4.1), (2, .int q4.1), (0, .ref (E.2.1 87)), (1, .int x1)]) X.1 X.2.1 dX10_adjustmentOf_8 rfl hl (by decide) rfl (fun ls hl => ?_)
  refine lv_iconst (v := 1) X.1 X.2.1 dX10_adjustmentOf_9 (by decide) ?_
  refine lv_istore (lv' := [(4, .int 1), (3, .int q4.1), (2, .int q4.1), (0, .ref (E.2.1 87)), (1, .int x1)]) X.1 X.2.1 dX10_adjustmentOf_10 hl (by decide) rfl (fun ls hl => ?_)
  exact B12 F _ _ _ _ _ _ _ _ hf hw (lv_sub hl [3, 4, 2, 1, 0] rfl)
abbrev rm_X10_adjustment : Room := { frames := 4, cells := 0, slots := 0, locals := 92 }
set_option maxHeartbeats 4000000 in
set_option maxRecDepth 100000 in
theorem c_X10_adjustment (l : Launch) (E : si_Ev) (F : Nat) (x1 : Int32) (S : si_St) (o : Int32 × si_St) (hf : f_X10_adjustment F x1 S = some o) : si_Mi l E yX10_adjustment cX10_adjustment 2 (some .int) rm_X10_adjustment [.ref (E.2.1 87), .int x1] S o := by
  refine si_ofWi (plainFor_of_name (by decide +kernel)) (Nat.le_of_ble_eq_true rfl) ?_
  intro p e s m args below meth c ls Q A X hw hA hl hret
  have hl : lv_has ls 2 [(0, .ref (E.2.1 87)), (1, .int x1)] := hl
  have B50 : ∀ (t0 : Int32) (S : si_St) (H : Heap) (locs : List Loc) (ls : Array Slot) , f_X10_adjustment_h50 F t0 S = some o → si_Ws E A s.heap S H locs → lv_has ls 2 [] → W p l e rm_X10_adjustment s m args below meth c H locs 0 0 Q (F0 m 50 ls [.int t0]) := by
    intro t0  S H locs ls  hf hw hl
    unfold f_X10_adjustment_h50 at hf
    exact hret _ _ _ _ _ _ hf hw dX10_adjustment_50
  have B31 : ∀ (x1 : Int32) (t0 : Int32) (S : si_St) (H : Heap) (locs : List Loc) (ls : Array Slot) , f_X10_adjustment_h31 F x1 t0 S = some o → si_Ws E A s.heap S H locs → lv_has ls 2 [(0, .ref (E.2.1 87)), (1, .int x1)] → W p l e rm_X10_adjustment s m args below meth c H locs 0 0 Q (F0 m 31 ls [.int t0, .ref (E.2.1 87)]) := by
    intro x1 t0  S H locs ls  hf hw hl
    unfold f_X10_adjustment_h31 at hf
    obtain ⟨S1, eS1, hf⟩ := si_ob hf
    refine si_ptI X hw si_cl10 0 (by decide) gf_RX10_1 rfl rfl rfl rfl rfl eS1 dX10_adjustment_31 (fun H locs hw => ?_)
    refine lv_aload_n X.1 X.2.1 dX10_adjustment_34 rfl (lv_at hl 0 rfl) ?_
    refine si_getI X hw si_cl10 0 (by decide) gf_RX10_1 rfl rfl rfl dX10_adjustment_35 ?_
    refine lv_if_le (tgt := 45) X.1 X.2.1 dX10_adjustment_38 (by decide) (fun c38 => ?_) (fun c38 => ?_)
    · have hf := si_ip c38 hf
      refine lv_aload_n X.1 X.2.1 dX10_adjustment_45 rfl (lv_at hl 0 rfl) ?_
      refine lv_iload_n X.1 X.2.1 dX10_adjustment_46 rfl (lv_at hl 1 rfl) ?_
      obtain ⟨q2, eq2, hf⟩ := si_ob hf
      refine si_cVi [.int x1] cal_X10_adjustmentOf gm_RX10_277 X hw hA hl.1 (c_X10_adjustmentOf l E F x1 S1 q2 eq2) si_cl10 rfl ⟨⟨rfl, rfl⟩, Nat.le_of_ble_eq_true rfl, Nat.le_of_ble_eq_true rfl⟩ rfl rfl (Nat.le_of_ble_eq_true rfl) ⟨Nat.zero_le _, Nat.zero_le _⟩ dX10_adjustment_47 (fun H locs hw => ?_)
      exact B50 _ _ _ _ _ hf hw (lv_sub hl [] rfl)
    · have hf := si_in c38 hf
      refine lv_iconst (v := 0) X.1 X.2.1 dX10_adjustment_41 (by decide) ?_
      refine lv_goto (tgt := 50) X.1 X.2.1 dX10_adjustment_42 (by decide) ?_
      exact B50 _ _ _ _ _ hf hw (lv_sub hl [] rfl)
  unfold f_X10_adjustment at hf
  refine lv_aload_n X.1 X.2.1 dX10_adjustment_0 rfl (lv_at hl 0 rfl) ?_
  refine lv_aload_n X.1 X.2.1 dX10_adjustment_1 rfl (lv_at hl 0 rfl) ?_
  refine lv_iload_n X.1 X.2.1 dX10_adjustment_2 rfl (lv_at hl 1 rfl) ?_
  obtain ⟨q3, eq3, hf⟩ := si_ob hf
  refine si_cVi [.int x1] cal_X10_isVisit gm_RX10_252 X hw hA hl.1 (c_X10_isVisit l E F x1 S q3 eq3) si_cl10 rfl ⟨⟨rfl, rfl⟩, Nat.le_of_ble_eq_true rfl, Nat.le_of_ble_eq_true rfl⟩ rfl rfl (Nat.le_of_ble_eq_true rfl) ⟨Nat.zero_le _, Nat.zero_le _⟩ dX10_adjustment_3 (fun H locs hw => ?_)
  refine lv_if_ne (tgt := 13) X.1 X.2.1 dX10_adjustment_6 (by decide) (fun c6 => ?_) (fun c6 => ?_)
  · have hf := si_in c6 hf
    refine lv_aload_n X.1 X.2.1 dX10_adjustment_13 rfl (lv_at hl 0 rfl) ?_
    refine si_getR (k' := 88) (d := 1) X hw si_cl10 1 (by decide) gf_RX10_13 rfl rfl rfl (by decide) rfl dX10_adjustment_14 ?_
    refine lv_sipush (v := 151) X.1 X.2.1 dX10_adjustment_17 (by decide) ?_
    refine lv_iload_n X.1 X.2.1 dX10_adjustment_20 rfl (lv_at hl 1 rfl) ?_
    refine lv_iadd X.1 X.2.1 dX10_adjustment_21 ?_
    obtain ⟨v4, ev4, hf⟩ := si_ob hf
    refine si_iald X hw rfl ev4 dX10_adjustment_22 ?_
    refine lv_if_ne (tgt := 30) X.1 X.2.1 dX10_adjustment_23 (by decide) (fun c23 => ?_) (fun c23 => ?_)
    · have hf := si_in c23 hf
      refine lv_iconst (v := 0) X.1 X.2.1 dX10_adjustment_30 (by decide) ?_
      exact B31 _ _ _ _ _ _ hf hw (lv_sub hl [0, 1] rfl)
    · have hf := si_ip c23 hf
      refine lv_iconst (v := 2) X.1 X.2.1 dX10_adjustment_26 (by decide) ?_
      refine lv_goto (tgt := 31) X.1 X.2.1 dX10_adjustment_27 (by decide) ?_
      exact B31 _ _ _ _ _ _ hf hw (lv_sub hl [0, 1] rfl)
  · have hf := si_ip c6 hf
    refine lv_iconst (v := 1) X.1 X.2.1 dX10_adjustment_9 (by decide) ?_
    refine lv_goto (tgt := 31) X.1 X.2.1 dX10_adjustment_10 (by decide) ?_
    exact B31 _ _ _ _ _ _ hf hw (lv_sub hl [0, 1] rfl)
abbrev rm_X10_adjustedVerdict : Room := { frames := 4, cells := 0, slots := 0, locals := 97 }
set_option maxHeartbeats 4000000 in
set_option maxRecDepth 100000 in
theorem c_X10_adjustedVerdict (l : Launch) (E : si_Ev) (F : Nat) (x1 : Int32) (S : si_St) (o : Int32 × si_St) (hf : f_X10_adjustedVerdict F x1 S = some o) : si_Mi l E yX10_adjustedVerdict cX10_adjustedVerdict 2 (some .int) rm_X10_adjustedVerdict [.ref (E.2.1 87), .int x1] S o := by
  refine si_ofWi (plainFor_of_name (by decide +kernel)) (Nat.le_of_ble_eq_true rfl) ?_
  intro p e s m args below meth c ls Q A X hw hA hl hret
  have hl : lv_has ls 2 [(0, .ref (E.2.1 87)), (1, .int x1)] := hl
  have B42 : ∀ (t0 : Int32) (S : si_St) (H : Heap) (locs : List Loc) (ls : Array Slot) , f_X10_adjustedVerdict_h42 F t0 S = some o → si_Ws E A s.heap S H locs → lv_has ls 2 [] → W p l e rm_X10_adjustedVerdict s m args below meth c H locs 0 0 Q (F0 m 42 ls [.int t0]) := by
    intro t0  S H locs ls  hf hw hl
    unfold f_X10_adjustedVerdict_h42 at hf
    exact hret _ _ _ _ _ _ hf hw dX10_adjustedVerdict_42
  unfold f_X10_adjustedVerdict at hf
  refine lv_aload_n X.1 X.2.1 dX10_adjustedVerdict_0 rfl (lv_at hl 0 rfl) ?_
  refine lv_iconst (v := 0) X.1 X.2.1 dX10_adjustedVerdict_1 (by decide) ?_
  obtain ⟨S1, eS1, hf⟩ := si_ob hf
  refine si_ptI X hw si_cl10 0 (by decide) gf_RX10_1 rfl rfl rfl rfl rfl eS1 dX10_adjustedVerdict_2 (fun H locs hw => ?_)
  refine lv_aload_n X.1 X.2.1 dX10_adjustedVerdict_5 rfl (lv_at hl 0 rfl) ?_
  refine lv_iload_n X.1 X.2.1 dX10_adjustedVerdict_6 rfl (lv_at hl 1 rfl) ?_
  obtain ⟨q2, eq2, hf⟩ := si_ob hf
  refine si_cVi [.int x1] cal_X10_isVisit gm_RX10_252 X hw hA hl.1 (c_X10_isVisit l E F x1 S1 q2 eq2) si_cl10 rfl ⟨⟨rfl, rfl⟩, Nat.le_of_ble_eq_true rfl, Nat.le_of_ble_eq_true rfl⟩ rfl rfl (Nat.le_of_ble_eq_true rfl) ⟨Nat.zero_le _, Nat.zero_le _⟩ dX10_adjustedVerdict_7 (fun H locs hw => ?_)
  refine lv_if_ne (tgt := 15) X.1 X.2.1 dX10_adjustedVerdict_10 (by decide) (fun c10 => ?_) (fun c10 => ?_)
  · have hf := si_in c10 hf
    refine lv_aload_n X.1 X.2.1 dX10_adjustedVerdict_15 rfl (lv_at hl 0 rfl) ?_
    refine si_getR (k' := 88) (d := 1) X hw si_cl10 1 (by decide) gf_RX10_13 rfl rfl rfl (by decide) rfl dX10_adjustedVerdict_16 ?_
    refine lv_sipush (v := 151) X.1 X.2.1 dX10_adjustedVerdict_19 (by decide) ?_
    refine lv_iload_n X.1 X.2.1 dX10_adjustedVerdict_22 rfl (lv_at hl 1 rfl) ?_
    refine lv_iadd X.1 X.2.1 dX10_adjustedVerdict_23 ?_
    obtain ⟨v3, ev3, hf⟩ := si_ob hf
    refine si_iald X hw rfl ev3 dX10_adjustedVerdict_24 ?_
    refine lv_if_ne (tgt := 32) X.1 X.2.1 dX10_adjustedVerdict_25 (by decide) (fun c25 => ?_) (fun c25 => ?_)
    · have hf := si_in c25 hf
      refine lv_aload_n X.1 X.2.1 dX10_adjustedVerdict_32 rfl (lv_at hl 0 rfl) ?_
      refine lv_iload_n X.1 X.2.1 dX10_adjustedVerdict_33 rfl (lv_at hl 1 rfl) ?_
      refine lv_aload_n X.1 X.2.1 dX10_adjustedVerdict_34 rfl (lv_at hl 0 rfl) ?_
      refine lv_iload_n X.1 X.2.1 dX10_adjustedVerdict_35 rfl (lv_at hl 1 rfl) ?_
      obtain ⟨q4, eq4, hf⟩ := si_ob hf
      refine si_cVi [.int x1] cal_X10_adjustmentOf gm_RX10_277 X hw hA hl.1 (c_X10_adjustmentOf l E F x1 q2.2 q4 eq4) si_cl10 rfl ⟨⟨rfl, rfl⟩, Nat.le_of_ble_eq_true rfl, Nat.le_of_ble_eq_true rfl⟩ rfl rfl (Nat.le_of_ble_eq_true rfl) ⟨Nat.zero_le _, Nat.zero_le _⟩ dX10_adjustedVerdict_36 (fun H locs hw => ?_)
      obtain ⟨q5, eq5, hf⟩ := si_ob hf
      refine si_cVi [.int x1, .int q4.1] cal_X10_verdictOf gm_RX10_274 X hw hA hl.1 (c_X10_verdictOf l E F x1 q4.1 q4.2 q5 eq5) si_cl10 rfl ⟨⟨rfl, rfl⟩, Nat.le_of_ble_eq_true rfl, Nat.le_of_ble_eq_true rfl⟩ rfl rfl (Nat.le_of_ble_eq_true rfl) ⟨Nat.zero_le _, Nat.zero_le _⟩ dX10_adjustedVerdict_39 (fun H locs hw => ?_)
      exact B42 _ _ _ _ _ hf hw (lv_sub hl [] rfl)
    · have hf := si_ip c25 hf
      refine lv_iconst (v := 1) X.1 X.2.1 dX10_adjustedVerdict_28 (by decide) ?_
      refine lv_goto (tgt := 42) X.1 X.2.1 dX10_adjustedVerdict_29 (by decide) ?_
      exact B42 _ _ _ _ _ hf hw (lv_sub hl [] rfl)
  · have hf := si_ip c10 hf
    refine lv_iconst (v := (-1)) X.1 X.2.1 dX10_adjustedVerdict_13 (by decide) ?_
    exact hret _ _ _ _ _ _ hf hw dX10_adjustedVerdict_14
abbrev rm_X10_closeVisit : Room := { frames := 4, cells := 0, slots := 0, locals := 97 }
set_option maxHeartbeats 4000000 in
set_option maxRecDepth 100000 in
theorem c_X10_closeVisit (l : Launch) (E : si_Ev) (F : Nat) (x1 : Int32) (S : si_St) (o : Int32 × si_St) (hf : f_X10_closeVisit F x1 S = some o) : si_Mi l E yX10_closeVisit cX10_closeVisit 2 (some .int) rm_X10_closeVisit [.ref (E.2.1 87), .int x1] S o := by
  refine si_ofWi (plainFor_of_name (by decide +kernel)) (Nat.le_of_ble_eq_true rfl) ?_
  intro p e s m args below meth c ls Q A X hw hA hl hret
  have hl : lv_has ls 2 [(0, .ref (E.2.1 87)), (1, .int x1)] := hl
  unfold f_X10_closeVisit at hf
  refine lv_aload_n X.1 X.2.1 dX10_closeVisit_0 rfl (lv_at hl 0 rfl) ?_
  refine lv_iconst (v := 0) X.1 X.2.1 dX10_closeVisit_1 (by decide) ?_
  obtain ⟨S1, eS1, hf⟩ := si_ob hf
  refine si_ptI X hw si_cl10 0 (by decide) gf_RX10_1 rfl rfl rfl rfl rfl eS1 dX10_closeVisit_2 (fun H locs hw => ?_)
  refine lv_aload_n X.1 X.2.1 dX10_closeVisit_5 rfl (lv_at hl 0 rfl) ?_
  refine lv_iload_n X.1 X.2.1 dX10_closeVisit_6 rfl (lv_at hl 1 rfl) ?_
  obtain ⟨q2, eq2, hf⟩ := si_ob hf
  refine si_cVi [.int x1] cal_X10_isVisit gm_RX10_252 X hw hA hl.1 (c_X10_isVisit l E F x1 S1 q2 eq2) si_cl10 rfl ⟨⟨rfl, rfl⟩, Nat.le_of_ble_eq_true rfl, Nat.le_of_ble_eq_true rfl⟩ rfl rfl (Nat.le_of_ble_eq_true rfl) ⟨Nat.zero_le _, Nat.zero_le _⟩ dX10_closeVisit_7 (fun H locs hw => ?_)
  refine lv_if_ne (tgt := 15) X.1 X.2.1 dX10_closeVisit_10 (by decide) (fun c10 => ?_) (fun c10 => ?_)
  · have hf := si_in c10 hf
    refine lv_aload_n X.1 X.2.1 dX10_closeVisit_15 rfl (lv_at hl 0 rfl) ?_
    refine si_getR (k' := 88) (d := 1) X hw si_cl10 1 (by decide) gf_RX10_13 rfl rfl rfl (by decide) rfl dX10_closeVisit_16 ?_
    refine lv_bipush (v := 61) X.1 X.2.1 dX10_closeVisit_19 (by decide) ?_
    refine lv_iload_n X.1 X.2.1 dX10_closeVisit_21 rfl (lv_at hl 1 rfl) ?_
    refine lv_iadd X.1 X.2.1 dX10_closeVisit_22 ?_
    obtain ⟨v3, ev3, hf⟩ := si_ob hf
    refine si_iald X hw rfl ev3 dX10_closeVisit_23 ?_
    refine lv_iconst (v := 1) X.1 X.2.1 dX10_closeVisit_24 (by decide) ?_
    refine lv_icmp_ne (tgt := 31) X.1 X.2.1 dX10_closeVisit_25 (by decide) (fun c25 => ?_) (fun c25 => ?_)
    · have hf := si_in c25 hf
      refine lv_aload_n X.1 X.2.1 dX10_closeVisit_31 rfl (lv_at hl 0 rfl) ?_
      obtain ⟨S4, eS4, hf⟩ := si_ob hf
      refine si_cVv [] cal_X10_keeps gm_RX10_249 X hw hA hl.1 (c_X10_keeps l E F q2.2 S4 eS4) si_cl10 rfl ⟨⟨rfl, rfl⟩, Nat.le_of_ble_eq_true rfl, Nat.le_of_ble_eq_true rfl⟩ rfl rfl (Nat.le_of_ble_eq_true rfl) ⟨Nat.zero_le _, Nat.zero_le _⟩ dX10_closeVisit_32 (fun H locs hw => ?_)
      refine lv_aload_n X.1 X.2.1 dX10_closeVisit_35 rfl (lv_at hl 0 rfl) ?_
      refine si_getR (k' := 88) (d := 1) X hw si_cl10 1 (by decide) gf_RX10_13 rfl rfl rfl (by decide) rfl dX10_closeVisit_36 ?_
      refine lv_bipush (v := 61) X.1 X.2.1 dX10_closeVisit_39 (by decide) ?_
      refine lv_iload_n X.1 X.2.1 dX10_closeVisit_41 rfl (lv_at hl 1 rfl) ?_
      refine lv_iadd X.1 X.2.1 dX10_closeVisit_42 ?_
      refine lv_iconst (v := 1) X.1 X.2.1 dX10_closeVisit_43 (by decide) ?_
      obtain ⟨S5, eS5, hf⟩ := si_ob hf
      refine si_iast X hw rfl eS5 dX10_closeVisit_44 (fun H locs hw => ?_)
      refine lv_aload_n X.1 X.2.1 dX10_closeVisit_45 rfl (lv_at hl 0 rfl) ?_
      refine si_getR (k' := 88) (d := 1) X hw si_cl10 1 (by decide) gf_RX10_13 rfl rfl rfl (by decide) rfl dX10_closeVisit_46 ?_
      refine lv_bipush (v := 91) X.1 X.2.1 dX10_closeVisit_49 (by decide) ?_
      refine lv_iload_n X.1 X.2.1 dX10_closeVisit_51 rfl (lv_at hl 1 rfl) ?_
      refine lv_iadd X.1 X.2.1 dX10_closeVisit_52 ?_
      refine lv_aload_n X.1 X.2.1 dX10_closeVisit_53 rfl (lv_at hl 0 rfl) ?_
      refine lv_iload_n X.1 X.2.1 dX10_closeVisit_54 rfl (lv_at hl 1 rfl) ?_
      refine lv_iconst (v := 0) X.1 X.2.1 dX10_closeVisit_55 (by decide) ?_
      obtain ⟨q6, eq6, hf⟩ := si_ob hf
      refine si_cVi [.int x1, .int 0] cal_X10_verdictOf gm_RX10_274 X hw hA hl.1 (c_X10_verdictOf l E F x1 0 S5 q6 eq6) si_cl10 rfl ⟨⟨rfl, rfl⟩, Nat.le_of_ble_eq_true rfl, Nat.le_of_ble_eq_true rfl⟩ rfl rfl (Nat.le_of_ble_eq_true rfl) ⟨Nat.zero_le _, Nat.zero_le _⟩ dX10_closeVisit_56 (fun H locs hw => ?_)
      obtain ⟨S7, eS7, hf⟩ := si_ob hf
      refine si_iast X hw rfl eS7 dX10_closeVisit_59 (fun H locs hw => ?_)
      refine lv_aload_n X.1 X.2.1 dX10_closeVisit_60 rfl (lv_at hl 0 rfl) ?_
      refine si_getR (k' := 88) (d := 1) X hw si_cl10 1 (by decide) gf_RX10_13 rfl rfl rfl (by decide) rfl dX10_closeVisit_61 ?_
      refine lv_bipush (v := 91) X.1 X.2.1 dX10_closeVisit_64 (by decide) ?_
      refine lv_iload_n X.1 X.2.1 dX10_closeVisit_66 rfl (lv_at hl 1 rfl) ?_
      refine lv_iadd X.1 X.2.1 dX10_closeVisit_67 ?_
      obtain ⟨v8, ev8, hf⟩ := si_ob hf
      refine si_iald X hw rfl ev8 dX10_closeVisit_68 ?_
      exact hret _ _ _ _ _ _ hf hw dX10_closeVisit_69
    · have hf := si_ip c25 hf
      refine lv_bipush (v := (-2)) X.1 X.2.1 dX10_closeVisit_28 (by decide) ?_
      exact hret _ _ _ _ _ _ hf hw dX10_closeVisit_30
  · have hf := si_ip c10 hf
    refine lv_iconst (v := (-1)) X.1 X.2.1 dX10_closeVisit_13 (by decide) ?_
    exact hret _ _ _ _ _ _ hf hw dX10_closeVisit_14
abbrev rm_X10_isClosed : Room := { frames := 2, cells := 0, slots := 0, locals := 46 }
set_option maxHeartbeats 4000000 in
set_option maxRecDepth 100000 in
theorem c_X10_isClosed (l : Launch) (E : si_Ev) (F : Nat) (x1 : Int32) (S : si_St) (o : Int32 × si_St) (hf : f_X10_isClosed F x1 S = some o) : si_Mi l E yX10_isClosed cX10_isClosed 2 (some .int) rm_X10_isClosed [.ref (E.2.1 87), .int x1] S o := by
  refine si_ofWi (plainFor_of_name (by decide +kernel)) (Nat.le_of_ble_eq_true rfl) ?_
  intro p e s m args below meth c ls Q A X hw hA hl hret
  have hl : lv_has ls 2 [(0, .ref (E.2.1 87)), (1, .int x1)] := hl
  have B26 : ∀ (t0 : Int32) (S : si_St) (H : Heap) (locs : List Loc) (ls : Array Slot) , f_X10_isClosed_h26 F t0 S = some o → si_Ws E A s.heap S H locs → lv_has ls 2 [] → W p l e rm_X10_isClosed s m args below meth c H locs 0 0 Q (F0 m 26 ls [.int t0]) := by
    intro t0  S H locs ls  hf hw hl
    unfold f_X10_isClosed_h26 at hf
    exact hret _ _ _ _ _ _ hf hw dX10_isClosed_26
  unfold f_X10_isClosed at hf
  refine lv_aload_n X.1 X.2.1 dX10_isClosed_0 rfl (lv_at hl 0 rfl) ?_
  refine lv_iconst (v := 0) X.1 X.2.1 dX10_isClosed_1 (by decide) ?_
  obtain ⟨S1, eS1, hf⟩ := si_ob hf
  refine si_ptI X hw si_cl10 0 (by decide) gf_RX10_1 rfl rfl rfl rfl rfl eS1 dX10_isClosed_2 (fun H locs hw => ?_)
  refine lv_aload_n X.1 X.2.1 dX10_isClosed_5 rfl (lv_at hl 0 rfl) ?_
  refine lv_iload_n X.1 X.2.1 dX10_isClosed_6 rfl (lv_at hl 1 rfl) ?_
  obtain ⟨q2, eq2, hf⟩ := si_ob hf
  refine si_cVi [.int x1] cal_X10_isVisit gm_RX10_252 X hw hA hl.1 (c_X10_isVisit l E F x1 S1 q2 eq2) si_cl10 rfl ⟨⟨rfl, rfl⟩, Nat.le_of_ble_eq_true rfl, Nat.le_of_ble_eq_true rfl⟩ rfl rfl (Nat.le_of_ble_eq_true rfl) ⟨Nat.zero_le _, Nat.zero_le _⟩ dX10_isClosed_7 (fun H locs hw => ?_)
  refine lv_if_eq (tgt := 25) X.1 X.2.1 dX10_isClosed_10 (by decide) (fun c10 => ?_) (fun c10 => ?_)
  · have hf := si_ip c10 hf
    refine lv_iconst (v := (-1)) X.1 X.2.1 dX10_isClosed_25 (by decide) ?_
    exact B26 _ _ _ _ _ hf hw (lv_sub hl [] rfl)
  · have hf := si_in c10 hf
    refine lv_aload_n X.1 X.2.1 dX10_isClosed_13 rfl (lv_at hl 0 rfl) ?_
    refine si_getR (k' := 88) (d := 1) X hw si_cl10 1 (by decide) gf_RX10_13 rfl rfl rfl (by decide) rfl dX10_isClosed_14 ?_
    refine lv_bipush (v := 61) X.1 X.2.1 dX10_isClosed_17 (by decide) ?_
    refine lv_iload_n X.1 X.2.1 dX10_isClosed_19 rfl (lv_at hl 1 rfl) ?_
    refine lv_iadd X.1 X.2.1 dX10_isClosed_20 ?_
    obtain ⟨v3, ev3, hf⟩ := si_ob hf
    refine si_iald X hw rfl ev3 dX10_isClosed_21 ?_
    refine lv_goto (tgt := 26) X.1 X.2.1 dX10_isClosed_22 (by decide) ?_
    exact B26 _ _ _ _ _ hf hw (lv_sub hl [] rfl)

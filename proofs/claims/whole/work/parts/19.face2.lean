theorem dX9_sealState_0 : decode cX9_sealState 0 = .ok (.aload_n 0, 1) := by decide +kernel
theorem dX9_sealState_1 : decode cX9_sealState 1 = .ok (.iload_n 1, 1) := by decide +kernel
theorem dX9_sealState_2 : decode cX9_sealState 2 = .ok (.invokevirtual 125, 3) := by decide +kernel
theorem dX9_sealState_5 : decode cX9_sealState 5 = .ok (.ifCond .eq 10, 3) := by decide +kernel
theorem dX9_sealState_8 : decode cX9_sealState 8 = .ok (.iload_n 2, 1) := by decide +kernel
theorem dX9_sealState_9 : decode cX9_sealState 9 = .ok (.invokestatic 165, 3) := by decide +kernel
theorem dX9_sealState_12 : decode cX9_sealState 12 = .ok (.ifCond .ne 5, 3) := by decide +kernel
theorem dX9_sealState_15 : decode cX9_sealState 15 = .ok (.iconst (-1), 1) := by decide +kernel
theorem dX9_sealState_16 : decode cX9_sealState 16 = .ok (.ireturn, 1) := by decide +kernel
theorem dX9_sealState_17 : decode cX9_sealState 17 = .ok (.aload_n 0, 1) := by decide +kernel
theorem dX9_sealState_18 : decode cX9_sealState 18 = .ok (.getfield 57, 3) := by decide +kernel
theorem dX9_sealState_21 : decode cX9_sealState 21 = .ok (.aload_n 0, 1) := by decide +kernel
theorem dX9_sealState_22 : decode cX9_sealState 22 = .ok (.getfield 71, 3) := by decide +kernel
theorem dX9_sealState_25 : decode cX9_sealState 25 = .ok (.aload_n 0, 1) := by decide +kernel
theorem dX9_sealState_26 : decode cX9_sealState 26 = .ok (.getfield 26, 3) := by decide +kernel
theorem dX9_sealState_29 : decode cX9_sealState 29 = .ok (.iload_n 2, 1) := by decide +kernel
theorem dX9_sealState_30 : decode cX9_sealState 30 = .ok (.invokevirtual 241, 3) := by decide +kernel
theorem dX9_sealState_33 : decode cX9_sealState 33 = .ok (.aload_n 0, 1) := by decide +kernel
theorem dX9_sealState_34 : decode cX9_sealState 34 = .ok (.getfield 57, 3) := by decide +kernel
theorem dX9_sealState_37 : decode cX9_sealState 37 = .ok (.getfield 245, 3) := by decide +kernel
theorem dX9_sealState_40 : decode cX9_sealState 40 = .ok (.iload_n 1, 1) := by decide +kernel
theorem dX9_sealState_41 : decode cX9_sealState 41 = .ok (.iaload, 1) := by decide +kernel
theorem dX9_sealState_42 : decode cX9_sealState 42 = .ok (.ireturn, 1) := by decide +kernel
theorem dX9_expiryDay_0 : decode cX9_expiryDay 0 = .ok (.aload_n 0, 1) := by decide +kernel
theorem dX9_expiryDay_1 : decode cX9_expiryDay 1 = .ok (.iload_n 1, 1) := by decide +kernel
theorem dX9_expiryDay_2 : decode cX9_expiryDay 2 = .ok (.invokevirtual 125, 3) := by decide +kernel
theorem dX9_expiryDay_5 : decode cX9_expiryDay 5 = .ok (.ifCond .eq 10, 3) := by decide +kernel
theorem dX9_expiryDay_8 : decode cX9_expiryDay 8 = .ok (.iload_n 2, 1) := by decide +kernel
theorem dX9_expiryDay_9 : decode cX9_expiryDay 9 = .ok (.invokestatic 165, 3) := by decide +kernel
theorem dX9_expiryDay_12 : decode cX9_expiryDay 12 = .ok (.ifCond .ne 5, 3) := by decide +kernel
theorem dX9_expiryDay_15 : decode cX9_expiryDay 15 = .ok (.iconst (-1), 1) := by decide +kernel
theorem dX9_expiryDay_16 : decode cX9_expiryDay 16 = .ok (.ireturn, 1) := by decide +kernel
theorem dX9_expiryDay_17 : decode cX9_expiryDay 17 = .ok (.aload_n 0, 1) := by decide +kernel
theorem dX9_expiryDay_18 : decode cX9_expiryDay 18 = .ok (.getfield 57, 3) := by decide +kernel
theorem dX9_expiryDay_21 : decode cX9_expiryDay 21 = .ok (.aload_n 0, 1) := by decide +kernel
theorem dX9_expiryDay_22 : decode cX9_expiryDay 22 = .ok (.getfield 71, 3) := by decide +kernel
theorem dX9_expiryDay_25 : decode cX9_expiryDay 25 = .ok (.aload_n 0, 1) := by decide +kernel
theorem dX9_expiryDay_26 : decode cX9_expiryDay 26 = .ok (.getfield 26, 3) := by decide +kernel
theorem dX9_expiryDay_29 : decode cX9_expiryDay 29 = .ok (.iload_n 2, 1) := by decide +kernel
theorem dX9_expiryDay_30 : decode cX9_expiryDay 30 = .ok (.invokevirtual 241, 3) := by decide +kernel
theorem dX9_expiryDay_33 : decode cX9_expiryDay 33 = .ok (.aload_n 0, 1) := by decide +kernel
theorem dX9_expiryDay_34 : decode cX9_expiryDay 34 = .ok (.getfield 57, 3) := by decide +kernel
theorem dX9_expiryDay_37 : decode cX9_expiryDay 37 = .ok (.getfield 245, 3) := by decide +kernel
theorem dX9_expiryDay_40 : decode cX9_expiryDay 40 = .ok (.iload_n 1, 1) := by decide +kernel
theorem dX9_expiryDay_41 : decode cX9_expiryDay 41 = .ok (.iaload, 1) := by decide +kernel
theorem dX9_expiryDay_42 : decode cX9_expiryDay 42 = .ok (.iconst 1, 1) := by decide +kernel
theorem dX9_expiryDay_43 : decode cX9_expiryDay 43 = .ok (.if_icmp .ne 19, 3) := by decide +kernel
theorem dX9_expiryDay_46 : decode cX9_expiryDay 46 = .ok (.aload_n 0, 1) := by decide +kernel
theorem dX9_expiryDay_47 : decode cX9_expiryDay 47 = .ok (.getfield 57, 3) := by decide +kernel
theorem dX9_expiryDay_50 : decode cX9_expiryDay 50 = .ok (.getfield 248, 3) := by decide +kernel
theorem dX9_expiryDay_53 : decode cX9_expiryDay 53 = .ok (.iload_n 1, 1) := by decide +kernel
theorem dX9_expiryDay_54 : decode cX9_expiryDay 54 = .ok (.iaload, 1) := by decide +kernel
theorem dX9_expiryDay_55 : decode cX9_expiryDay 55 = .ok (.sipush 360, 3) := by decide +kernel
theorem dX9_expiryDay_58 : decode cX9_expiryDay 58 = .ok (.imul, 1) := by decide +kernel
theorem dX9_expiryDay_59 : decode cX9_expiryDay 59 = .ok (.goto 5, 3) := by decide +kernel
theorem dX9_expiryDay_62 : decode cX9_expiryDay 62 = .ok (.bipush (-2), 2) := by decide +kernel
theorem dX9_expiryDay_64 : decode cX9_expiryDay 64 = .ok (.ireturn, 1) := by decide +kernel
theorem dX9_scalesWith_0 : decode cX9_scalesWith 0 = .ok (.iload_n 1, 1) := by decide +kernel
theorem dX9_scalesWith_1 : decode cX9_scalesWith 1 = .ok (.ifCond .lt 15, 3) := by decide +kernel
theorem dX9_scalesWith_4 : decode cX9_scalesWith 4 = .ok (.iload_n 1, 1) := by decide +kernel
theorem dX9_scalesWith_5 : decode cX9_scalesWith 5 = .ok (.iconst 3, 1) := by decide +kernel
theorem dX9_scalesWith_6 : decode cX9_scalesWith 6 = .ok (.if_icmp .gt 10, 3) := by decide +kernel
theorem dX9_scalesWith_9 : decode cX9_scalesWith 9 = .ok (.iload_n 2, 1) := by decide +kernel
theorem dX9_scalesWith_10 : decode cX9_scalesWith 10 = .ok (.invokestatic 165, 3) := by decide +kernel
theorem dX9_scalesWith_13 : decode cX9_scalesWith 13 = .ok (.ifCond .ne 5, 3) := by decide +kernel
theorem dX9_scalesWith_16 : decode cX9_scalesWith 16 = .ok (.iconst (-1), 1) := by decide +kernel
theorem dX9_scalesWith_17 : decode cX9_scalesWith 17 = .ok (.ireturn, 1) := by decide +kernel
theorem dX9_scalesWith_18 : decode cX9_scalesWith 18 = .ok (.aload_n 0, 1) := by decide +kernel
theorem dX9_scalesWith_19 : decode cX9_scalesWith 19 = .ok (.getfield 57, 3) := by decide +kernel
theorem dX9_scalesWith_22 : decode cX9_scalesWith 22 = .ok (.aload_n 0, 1) := by decide +kernel
theorem dX9_scalesWith_23 : decode cX9_scalesWith 23 = .ok (.getfield 71, 3) := by decide +kernel
theorem dX9_scalesWith_26 : decode cX9_scalesWith 26 = .ok (.aload_n 0, 1) := by decide +kernel
theorem dX9_scalesWith_27 : decode cX9_scalesWith 27 = .ok (.getfield 26, 3) := by decide +kernel
theorem dX9_scalesWith_30 : decode cX9_scalesWith 30 = .ok (.iload_n 2, 1) := by decide +kernel
theorem dX9_scalesWith_31 : decode cX9_scalesWith 31 = .ok (.invokevirtual 241, 3) := by decide +kernel
theorem dX9_scalesWith_34 : decode cX9_scalesWith 34 = .ok (.aload_n 0, 1) := by decide +kernel
theorem dX9_scalesWith_35 : decode cX9_scalesWith 35 = .ok (.getfield 57, 3) := by decide +kernel
theorem dX9_scalesWith_38 : decode cX9_scalesWith 38 = .ok (.iload_n 1, 1) := by decide +kernel
theorem dX9_scalesWith_39 : decode cX9_scalesWith 39 = .ok (.invokevirtual 251, 3) := by decide +kernel
theorem dX9_scalesWith_42 : decode cX9_scalesWith 42 = .ok (.ireturn, 1) := by decide +kernel
theorem dX9_risk_0 : decode cX9_risk 0 = .ok (.aload_n 0, 1) := by decide +kernel
theorem dX9_risk_1 : decode cX9_risk 1 = .ok (.iload_n 1, 1) := by decide +kernel
theorem dX9_risk_2 : decode cX9_risk 2 = .ok (.invokevirtual 125, 3) := by decide +kernel
theorem dX9_risk_5 : decode cX9_risk 5 = .ok (.ifCond .eq 10, 3) := by decide +kernel
theorem dX9_risk_8 : decode cX9_risk 8 = .ok (.iload_n 2, 1) := by decide +kernel
theorem dX9_risk_9 : decode cX9_risk 9 = .ok (.invokestatic 165, 3) := by decide +kernel
theorem dX9_risk_12 : decode cX9_risk 12 = .ok (.ifCond .ne 5, 3) := by decide +kernel
theorem dX9_risk_15 : decode cX9_risk 15 = .ok (.iconst (-1), 1) := by decide +kernel
theorem dX9_risk_16 : decode cX9_risk 16 = .ok (.ireturn, 1) := by decide +kernel
theorem dX9_risk_17 : decode cX9_risk 17 = .ok (.aload_n 0, 1) := by decide +kernel
theorem dX9_risk_18 : decode cX9_risk 18 = .ok (.getfield 57, 3) := by decide +kernel
theorem dX9_risk_21 : decode cX9_risk 21 = .ok (.aload_n 0, 1) := by decide +kernel
theorem dX9_risk_22 : decode cX9_risk 22 = .ok (.getfield 71, 3) := by decide +kernel
theorem dX9_risk_25 : decode cX9_risk 25 = .ok (.aload_n 0, 1) := by decide +kernel
theorem dX9_risk_26 : decode cX9_risk 26 = .ok (.getfield 26, 3) := by decide +kernel
theorem dX9_risk_29 : decode cX9_risk 29 = .ok (.iload_n 2, 1) := by decide +kernel
theorem dX9_risk_30 : decode cX9_risk 30 = .ok (.invokevirtual 241, 3) := by decide +kernel
theorem dX9_risk_33 : decode cX9_risk 33 = .ok (.aload_n 0, 1) := by decide +kernel
theorem dX9_risk_34 : decode cX9_risk 34 = .ok (.getfield 57, 3) := by decide +kernel
theorem dX9_risk_37 : decode cX9_risk 37 = .ok (.getfield 254, 3) := by decide +kernel
theorem dX9_risk_40 : decode cX9_risk 40 = .ok (.iload_n 1, 1) := by decide +kernel
theorem dX9_risk_41 : decode cX9_risk 41 = .ok (.iaload, 1) := by decide +kernel
theorem dX9_risk_42 : decode cX9_risk 42 = .ok (.ireturn, 1) := by decide +kernel
theorem dX9_riskiestTrader_0 : decode cX9_riskiestTrader 0 = .ok (.iload_n 1, 1) := by decide +kernel
theorem dX9_riskiestTrader_1 : decode cX9_riskiestTrader 1 = .ok (.invokestatic 165, 3) := by decide +kernel
theorem dX9_riskiestTrader_4 : decode cX9_riskiestTrader 4 = .ok (.ifCond .ne 5, 3) := by decide +kernel
theorem dX9_riskiestTrader_7 : decode cX9_riskiestTrader 7 = .ok (.iconst (-1), 1) := by decide +kernel
theorem dX9_riskiestTrader_8 : decode cX9_riskiestTrader 8 = .ok (.ireturn, 1) := by decide +kernel
theorem dX9_riskiestTrader_9 : decode cX9_riskiestTrader 9 = .ok (.aload_n 0, 1) := by decide +kernel
theorem dX9_riskiestTrader_10 : decode cX9_riskiestTrader 10 = .ok (.getfield 71, 3) := by decide +kernel
theorem dX9_riskiestTrader_13 : decode cX9_riskiestTrader 13 = .ok (.getfield 113, 3) := by decide +kernel
theorem dX9_riskiestTrader_16 : decode cX9_riskiestTrader 16 = .ok (.ifCond .ne 6, 3) := by decide +kernel
theorem dX9_riskiestTrader_19 : decode cX9_riskiestTrader 19 = .ok (.bipush (-2), 2) := by decide +kernel
theorem dX9_riskiestTrader_21 : decode cX9_riskiestTrader 21 = .ok (.ireturn, 1) := by decide +kernel
theorem dX9_riskiestTrader_22 : decode cX9_riskiestTrader 22 = .ok (.aload_n 0, 1) := by decide +kernel
theorem dX9_riskiestTrader_23 : decode cX9_riskiestTrader 23 = .ok (.getfield 57, 3) := by decide +kernel
theorem dX9_riskiestTrader_26 : decode cX9_riskiestTrader 26 = .ok (.aload_n 0, 1) := by decide +kernel
theorem dX9_riskiestTrader_27 : decode cX9_riskiestTrader 27 = .ok (.getfield 71, 3) := by decide +kernel
theorem dX9_riskiestTrader_30 : decode cX9_riskiestTrader 30 = .ok (.aload_n 0, 1) := by decide +kernel
theorem dX9_riskiestTrader_31 : decode cX9_riskiestTrader 31 = .ok (.getfield 26, 3) := by decide +kernel
theorem dX9_riskiestTrader_34 : decode cX9_riskiestTrader 34 = .ok (.iload_n 1, 1) := by decide +kernel
theorem dX9_riskiestTrader_35 : decode cX9_riskiestTrader 35 = .ok (.invokevirtual 241, 3) := by decide +kernel
theorem dX9_riskiestTrader_38 : decode cX9_riskiestTrader 38 = .ok (.aload_n 0, 1) := by decide +kernel
theorem dX9_riskiestTrader_39 : decode cX9_riskiestTrader 39 = .ok (.getfield 57, 3) := by decide +kernel
theorem dX9_riskiestTrader_42 : decode cX9_riskiestTrader 42 = .ok (.aload_n 0, 1) := by decide +kernel
theorem dX9_riskiestTrader_43 : decode cX9_riskiestTrader 43 = .ok (.getfield 71, 3) := by decide +kernel
theorem dX9_riskiestTrader_46 : decode cX9_riskiestTrader 46 = .ok (.invokevirtual 257, 3) := by decide +kernel
theorem dX9_riskiestTrader_49 : decode cX9_riskiestTrader 49 = .ok (.ireturn, 1) := by decide +kernel
theorem dX9_lot_0 : decode cX9_lot 0 = .ok (.iload_n 1, 1) := by decide +kernel
theorem dX9_lot_1 : decode cX9_lot 1 = .ok (.ifCond .lt 21, 3) := by decide +kernel
theorem dX9_lot_4 : decode cX9_lot 4 = .ok (.iload_n 1, 1) := by decide +kernel
theorem dX9_lot_5 : decode cX9_lot 5 = .ok (.ldc_w 261, 3) := by decide +kernel
theorem dX9_lot_8 : decode cX9_lot 8 = .ok (.if_icmp .gt 14, 3) := by decide +kernel
theorem dX9_lot_11 : decode cX9_lot 11 = .ok (.iload_n 2, 1) := by decide +kernel
theorem dX9_lot_12 : decode cX9_lot 12 = .ok (.ifCond .lt 10, 3) := by decide +kernel
theorem dX9_lot_15 : decode cX9_lot 15 = .ok (.iload_n 3, 1) := by decide +kernel
theorem dX9_lot_16 : decode cX9_lot 16 = .ok (.invokestatic 165, 3) := by decide +kernel
theorem dX9_lot_19 : decode cX9_lot 19 = .ok (.ifCond .ne 5, 3) := by decide +kernel
theorem dX9_lot_22 : decode cX9_lot 22 = .ok (.iconst (-1), 1) := by decide +kernel
theorem dX9_lot_23 : decode cX9_lot 23 = .ok (.ireturn, 1) := by decide +kernel
theorem dX9_lot_24 : decode cX9_lot 24 = .ok (.iload_n 2, 1) := by decide +kernel
theorem dX9_lot_25 : decode cX9_lot 25 = .ok (.aload_n 0, 1) := by decide +kernel
theorem dX9_lot_26 : decode cX9_lot 26 = .ok (.getfield 71, 3) := by decide +kernel
theorem dX9_lot_29 : decode cX9_lot 29 = .ok (.getfield 116, 3) := by decide +kernel
theorem dX9_lot_32 : decode cX9_lot 32 = .ok (.if_icmp .lt 6, 3) := by decide +kernel
theorem dX9_lot_35 : decode cX9_lot 35 = .ok (.bipush (-2), 2) := by decide +kernel
theorem dX9_lot_37 : decode cX9_lot 37 = .ok (.ireturn, 1) := by decide +kernel
theorem dX9_lot_38 : decode cX9_lot 38 = .ok (.aload_n 0, 1) := by decide +kernel
theorem dX9_lot_39 : decode cX9_lot 39 = .ok (.getfield 57, 3) := by decide +kernel
theorem dX9_lot_42 : decode cX9_lot 42 = .ok (.aload_n 0, 1) := by decide +kernel
theorem dX9_lot_43 : decode cX9_lot 43 = .ok (.getfield 71, 3) := by decide +kernel
theorem dX9_lot_46 : decode cX9_lot 46 = .ok (.aload_n 0, 1) := by decide +kernel
theorem dX9_lot_47 : decode cX9_lot 47 = .ok (.getfield 26, 3) := by decide +kernel
theorem dX9_lot_50 : decode cX9_lot 50 = .ok (.iload_n 3, 1) := by decide +kernel
theorem dX9_lot_51 : decode cX9_lot 51 = .ok (.invokevirtual 241, 3) := by decide +kernel
theorem dX9_lot_54 : decode cX9_lot 54 = .ok (.aload_n 0, 1) := by decide +kernel
theorem dX9_lot_55 : decode cX9_lot 55 = .ok (.getfield 57, 3) := by decide +kernel
theorem dX9_lot_58 : decode cX9_lot 58 = .ok (.iload_n 1, 1) := by decide +kernel
theorem dX9_lot_59 : decode cX9_lot 59 = .ok (.iload_n 2, 1) := by decide +kernel
theorem dX9_lot_60 : decode cX9_lot 60 = .ok (.invokevirtual 262, 3) := by decide +kernel
theorem dX9_lot_63 : decode cX9_lot 63 = .ok (.ireturn, 1) := by decide +kernel
theorem dX9_weightCount_0 : decode cX9_weightCount 0 = .ok (.aload_n 0, 1) := by decide +kernel
theorem dX9_weightCount_1 : decode cX9_weightCount 1 = .ok (.iload_n 1, 1) := by decide +kernel
theorem dX9_weightCount_2 : decode cX9_weightCount 2 = .ok (.invokevirtual 265, 3) := by decide +kernel
theorem dX9_weightCount_5 : decode cX9_weightCount 5 = .ok (.ifCond .eq 15, 3) := by decide +kernel
theorem dX9_weightCount_8 : decode cX9_weightCount 8 = .ok (.aload_n 0, 1) := by decide +kernel
theorem dX9_weightCount_9 : decode cX9_weightCount 9 = .ok (.getfield 71, 3) := by decide +kernel
theorem dX9_weightCount_12 : decode cX9_weightCount 12 = .ok (.getfield 268, 3) := by decide +kernel
theorem dX9_weightCount_15 : decode cX9_weightCount 15 = .ok (.iload_n 1, 1) := by decide +kernel
theorem dX9_weightCount_16 : decode cX9_weightCount 16 = .ok (.iaload, 1) := by decide +kernel
theorem dX9_weightCount_17 : decode cX9_weightCount 17 = .ok (.goto 4, 3) := by decide +kernel
theorem dX9_weightCount_20 : decode cX9_weightCount 20 = .ok (.iconst (-1), 1) := by decide +kernel
theorem dX9_weightCount_21 : decode cX9_weightCount 21 = .ok (.ireturn, 1) := by decide +kernel
theorem dX9_weigh_0 : decode cX9_weigh 0 = .ok (.aload_n 0, 1) := by decide +kernel
theorem dX9_weigh_1 : decode cX9_weigh 1 = .ok (.iload_n 1, 1) := by decide +kernel
theorem dX9_weigh_2 : decode cX9_weigh 2 = .ok (.invokevirtual 265, 3) := by decide +kernel
theorem dX9_weigh_5 : decode cX9_weigh 5 = .ok (.ifCond .eq 20, 3) := by decide +kernel
theorem dX9_weigh_8 : decode cX9_weigh 8 = .ok (.aload_n 0, 1) := by decide +kernel
theorem dX9_weigh_9 : decode cX9_weigh 9 = .ok (.getfield 71, 3) := by decide +kernel
theorem dX9_weigh_12 : decode cX9_weigh 12 = .ok (.getfield 268, 3) := by decide +kernel
theorem dX9_weigh_15 : decode cX9_weigh 15 = .ok (.iload_n 1, 1) := by decide +kernel
theorem dX9_weigh_16 : decode cX9_weigh 16 = .ok (.iaload, 1) := by decide +kernel
theorem dX9_weigh_17 : decode cX9_weigh 17 = .ok (.iload_n 2, 1) := by decide +kernel
theorem dX9_weigh_18 : decode cX9_weigh 18 = .ok (.iload_n 3, 1) := by decide +kernel
theorem dX9_weigh_19 : decode cX9_weigh 19 = .ok (.invokestatic 271, 3) := by decide +kernel
theorem dX9_weigh_22 : decode cX9_weigh 22 = .ok (.ifCond .ne 5, 3) := by decide +kernel
theorem dX9_weigh_25 : decode cX9_weigh 25 = .ok (.iconst (-1), 1) := by decide +kernel
theorem dX9_weigh_26 : decode cX9_weigh 26 = .ok (.ireturn, 1) := by decide +kernel
theorem dX9_weigh_27 : decode cX9_weigh 27 = .ok (.iload 4, 2) := by decide +kernel
theorem dX9_weigh_29 : decode cX9_weigh 29 = .ok (.ifCond .lt 9, 3) := by decide +kernel
theorem dX9_weigh_32 : decode cX9_weigh 32 = .ok (.iload 4, 2) := by decide +kernel
theorem dX9_weigh_34 : decode cX9_weigh 34 = .ok (.iconst 2, 1) := by decide +kernel
theorem dX9_weigh_35 : decode cX9_weigh 35 = .ok (.if_icmp .le 5, 3) := by decide +kernel
theorem dX9_weigh_38 : decode cX9_weigh 38 = .ok (.iconst (-1), 1) := by decide +kernel
theorem dX9_weigh_39 : decode cX9_weigh 39 = .ok (.ireturn, 1) := by decide +kernel
theorem dX9_weigh_40 : decode cX9_weigh 40 = .ok (.aload_n 0, 1) := by decide +kernel
theorem dX9_weigh_41 : decode cX9_weigh 41 = .ok (.getfield 33, 3) := by decide +kernel
theorem dX9_weigh_44 : decode cX9_weigh 44 = .ok (.getfield 275, 3) := by decide +kernel
theorem dX9_weigh_47 : decode cX9_weigh 47 = .ok (.iload_n 1, 1) := by decide +kernel
theorem dX9_weigh_48 : decode cX9_weigh 48 = .ok (.iaload, 1) := by decide +kernel
theorem dX9_weigh_49 : decode cX9_weigh 49 = .ok (.iload_n 2, 1) := by decide +kernel
theorem dX9_weigh_50 : decode cX9_weigh 50 = .ok (.iload_n 3, 1) := by decide +kernel
theorem dX9_weigh_51 : decode cX9_weigh 51 = .ok (.iload 4, 2) := by decide +kernel
theorem dX9_weigh_53 : decode cX9_weigh 53 = .ok (.invokestatic 278, 3) := by decide +kernel
theorem dX9_weigh_56 : decode cX9_weigh 56 = .ok (.istore 5, 2) := by decide +kernel
theorem dX9_weigh_58 : decode cX9_weigh 58 = .ok (.aload_n 0, 1) := by decide +kernel
theorem dX9_weigh_59 : decode cX9_weigh 59 = .ok (.getfield 33, 3) := by decide +kernel
theorem dX9_weigh_62 : decode cX9_weigh 62 = .ok (.getfield 281, 3) := by decide +kernel
theorem dX9_weigh_65 : decode cX9_weigh 65 = .ok (.iload_n 1, 1) := by decide +kernel
theorem dX9_weigh_66 : decode cX9_weigh 66 = .ok (.iaload, 1) := by decide +kernel
theorem dX9_weigh_67 : decode cX9_weigh 67 = .ok (.iload_n 3, 1) := by decide +kernel
theorem dX9_weigh_68 : decode cX9_weigh 68 = .ok (.iload_n 2, 1) := by decide +kernel
theorem dX9_weigh_69 : decode cX9_weigh 69 = .ok (.iload 4, 2) := by decide +kernel
theorem dX9_weigh_71 : decode cX9_weigh 71 = .ok (.invokestatic 278, 3) := by decide +kernel
theorem dX9_weigh_74 : decode cX9_weigh 74 = .ok (.istore 6, 2) := by decide +kernel
theorem dX9_weigh_76 : decode cX9_weigh 76 = .ok (.iload 4, 2) := by decide +kernel
theorem dX9_weigh_78 : decode cX9_weigh 78 = .ok (.ifCond .ne 15, 3) := by decide +kernel
theorem dX9_weigh_81 : decode cX9_weigh 81 = .ok (.aload_n 0, 1) := by decide +kernel
theorem dX9_weigh_82 : decode cX9_weigh 82 = .ok (.getfield 33, 3) := by decide +kernel
theorem dX9_weigh_85 : decode cX9_weigh 85 = .ok (.getfield 284, 3) := by decide +kernel
theorem dX9_weigh_88 : decode cX9_weigh 88 = .ok (.iload_n 1, 1) := by decide +kernel
theorem dX9_weigh_89 : decode cX9_weigh 89 = .ok (.iaload, 1) := by decide +kernel
theorem dX9_weigh_90 : decode cX9_weigh 90 = .ok (.goto 4, 3) := by decide +kernel
theorem dX9_weigh_93 : decode cX9_weigh 93 = .ok (.iconst 0, 1) := by decide +kernel
theorem dX9_weigh_94 : decode cX9_weigh 94 = .ok (.istore 7, 2) := by decide +kernel
theorem dX9_weigh_96 : decode cX9_weigh 96 = .ok (.iload 5, 2) := by decide +kernel
theorem dX9_weigh_98 : decode cX9_weigh 98 = .ok (.invokestatic 287, 3) := by decide +kernel
theorem dX9_weigh_101 : decode cX9_weigh 101 = .ok (.iload 6, 2) := by decide +kernel
theorem dX9_weigh_103 : decode cX9_weigh 103 = .ok (.invokestatic 287, 3) := by decide +kernel
theorem dX9_weigh_106 : decode cX9_weigh 106 = .ok (.iadd, 1) := by decide +kernel
theorem dX9_weigh_107 : decode cX9_weigh 107 = .ok (.iload 7, 2) := by decide +kernel
theorem dX9_weigh_109 : decode cX9_weigh 109 = .ok (.iadd, 1) := by decide +kernel
theorem dX9_weigh_110 : decode cX9_weigh 110 = .ok (.istore 8, 2) := by decide +kernel
theorem dX9_weigh_112 : decode cX9_weigh 112 = .ok (.iload 8, 2) := by decide +kernel
theorem dX9_weigh_114 : decode cX9_weigh 114 = .ok (.ifCond .ne 6, 3) := by decide +kernel
theorem dX9_weigh_117 : decode cX9_weigh 117 = .ok (.bipush (-2), 2) := by decide +kernel
theorem dX9_weigh_119 : decode cX9_weigh 119 = .ok (.ireturn, 1) := by decide +kernel
theorem dX9_weigh_120 : decode cX9_weigh 120 = .ok (.aload_n 0, 1) := by decide +kernel
theorem dX9_weigh_121 : decode cX9_weigh 121 = .ok (.getfield 33, 3) := by decide +kernel
theorem dX9_weigh_124 : decode cX9_weigh 124 = .ok (.getfield 292, 3) := by decide +kernel
theorem dX9_weigh_127 : decode cX9_weigh 127 = .ok (.iload_n 1, 1) := by decide +kernel
theorem dX9_weigh_128 : decode cX9_weigh 128 = .ok (.iaload, 1) := by decide +kernel
theorem dX9_weigh_129 : decode cX9_weigh 129 = .ok (.bipush 20, 2) := by decide +kernel
theorem dX9_weigh_131 : decode cX9_weigh 131 = .ok (.if_icmp .lt 6, 3) := by decide +kernel
theorem dX9_weigh_134 : decode cX9_weigh 134 = .ok (.bipush (-3), 2) := by decide +kernel
theorem dX9_weigh_136 : decode cX9_weigh 136 = .ok (.ireturn, 1) := by decide +kernel
theorem dX9_weigh_137 : decode cX9_weigh 137 = .ok (.aload_n 0, 1) := by decide +kernel
theorem dX9_weigh_138 : decode cX9_weigh 138 = .ok (.getfield 40, 3) := by decide +kernel
theorem dX9_weigh_141 : decode cX9_weigh 141 = .ok (.iload_n 1, 1) := by decide +kernel
theorem dX9_weigh_142 : decode cX9_weigh 142 = .ok (.aload_n 0, 1) := by decide +kernel
theorem dX9_weigh_143 : decode cX9_weigh 143 = .ok (.getfield 33, 3) := by decide +kernel
theorem dX9_weigh_146 : decode cX9_weigh 146 = .ok (.invokevirtual 295, 3) := by decide +kernel
theorem dX9_weigh_149 : decode cX9_weigh 149 = .ok (.aload_n 0, 1) := by decide +kernel
theorem dX9_weigh_150 : decode cX9_weigh 150 = .ok (.getfield 33, 3) := by decide +kernel
theorem dX9_weigh_153 : decode cX9_weigh 153 = .ok (.iload_n 1, 1) := by decide +kernel
theorem dX9_weigh_154 : decode cX9_weigh 154 = .ok (.iload 5, 2) := by decide +kernel
theorem dX9_weigh_156 : decode cX9_weigh 156 = .ok (.iload 6, 2) := by decide +kernel
theorem dX9_weigh_158 : decode cX9_weigh 158 = .ok (.iload 7, 2) := by decide +kernel
theorem dX9_weigh_160 : decode cX9_weigh 160 = .ok (.invokevirtual 299, 3) := by decide +kernel
theorem dX9_weigh_163 : decode cX9_weigh 163 = .ok (.aload_n 0, 1) := by decide +kernel
theorem dX9_weigh_164 : decode cX9_weigh 164 = .ok (.getfield 33, 3) := by decide +kernel
theorem dX9_weigh_167 : decode cX9_weigh 167 = .ok (.getfield 292, 3) := by decide +kernel
theorem dX9_weigh_170 : decode cX9_weigh 170 = .ok (.iload_n 1, 1) := by decide +kernel
theorem dX9_weigh_171 : decode cX9_weigh 171 = .ok (.dup2, 1) := by decide +kernel
theorem dX9_weigh_172 : decode cX9_weigh 172 = .ok (.iaload, 1) := by decide +kernel
theorem dX9_weigh_173 : decode cX9_weigh 173 = .ok (.iconst 1, 1) := by decide +kernel
theorem dX9_weigh_174 : decode cX9_weigh 174 = .ok (.iadd, 1) := by decide +kernel
theorem dX9_weigh_175 : decode cX9_weigh 175 = .ok (.iastore, 1) := by decide +kernel
theorem dX9_weigh_176 : decode cX9_weigh 176 = .ok (.iload 8, 2) := by decide +kernel
theorem dX9_weigh_178 : decode cX9_weigh 178 = .ok (.ireturn, 1) := by decide +kernel
theorem dX9_weighingCount_0 : decode cX9_weighingCount 0 = .ok (.aload_n 0, 1) := by decide +kernel
theorem dX9_weighingCount_1 : decode cX9_weighingCount 1 = .ok (.iload_n 1, 1) := by decide +kernel
theorem dX9_weighingCount_2 : decode cX9_weighingCount 2 = .ok (.invokevirtual 265, 3) := by decide +kernel
theorem dX9_weighingCount_5 : decode cX9_weighingCount 5 = .ok (.ifCond .eq 15, 3) := by decide +kernel
theorem dX9_weighingCount_8 : decode cX9_weighingCount 8 = .ok (.aload_n 0, 1) := by decide +kernel
theorem dX9_weighingCount_9 : decode cX9_weighingCount 9 = .ok (.getfield 33, 3) := by decide +kernel
theorem dX9_weighingCount_12 : decode cX9_weighingCount 12 = .ok (.getfield 292, 3) := by decide +kernel
theorem dX9_weighingCount_15 : decode cX9_weighingCount 15 = .ok (.iload_n 1, 1) := by decide +kernel
theorem dX9_weighingCount_16 : decode cX9_weighingCount 16 = .ok (.iaload, 1) := by decide +kernel
theorem dX9_weighingCount_17 : decode cX9_weighingCount 17 = .ok (.goto 4, 3) := by decide +kernel
theorem dX9_weighingCount_20 : decode cX9_weighingCount 20 = .ok (.iconst (-1), 1) := by decide +kernel
theorem dX9_weighingCount_21 : decode cX9_weighingCount 21 = .ok (.ireturn, 1) := by decide +kernel
theorem dX9_hypothesisCount_0 : decode cX9_hypothesisCount 0 = .ok (.aload_n 0, 1) := by decide +kernel
theorem dX9_hypothesisCount_1 : decode cX9_hypothesisCount 1 = .ok (.iload_n 1, 1) := by decide +kernel
theorem dX9_hypothesisCount_2 : decode cX9_hypothesisCount 2 = .ok (.invokevirtual 265, 3) := by decide +kernel
theorem dX9_hypothesisCount_5 : decode cX9_hypothesisCount 5 = .ok (.ifCond .eq 14, 3) := by decide +kernel
theorem dX9_hypothesisCount_8 : decode cX9_hypothesisCount 8 = .ok (.aload_n 0, 1) := by decide +kernel
theorem dX9_hypothesisCount_9 : decode cX9_hypothesisCount 9 = .ok (.getfield 33, 3) := by decide +kernel
theorem dX9_hypothesisCount_12 : decode cX9_hypothesisCount 12 = .ok (.iload_n 1, 1) := by decide +kernel
theorem dX9_hypothesisCount_13 : decode cX9_hypothesisCount 13 = .ok (.invokevirtual 303, 3) := by decide +kernel
theorem dX9_hypothesisCount_16 : decode cX9_hypothesisCount 16 = .ok (.goto 4, 3) := by decide +kernel
theorem dX9_hypothesisCount_19 : decode cX9_hypothesisCount 19 = .ok (.iconst (-1), 1) := by decide +kernel
theorem dX9_hypothesisCount_20 : decode cX9_hypothesisCount 20 = .ok (.ireturn, 1) := by decide +kernel
theorem dX9_heavySuspects_0 : decode cX9_heavySuspects 0 = .ok (.aload_n 0, 1) := by decide +kernel
theorem dX9_heavySuspects_1 : decode cX9_heavySuspects 1 = .ok (.iload_n 1, 1) := by decide +kernel
theorem dX9_heavySuspects_2 : decode cX9_heavySuspects 2 = .ok (.invokevirtual 265, 3) := by decide +kernel
theorem dX9_heavySuspects_5 : decode cX9_heavySuspects 5 = .ok (.ifCond .eq 15, 3) := by decide +kernel
theorem dX9_heavySuspects_8 : decode cX9_heavySuspects 8 = .ok (.aload_n 0, 1) := by decide +kernel
theorem dX9_heavySuspects_9 : decode cX9_heavySuspects 9 = .ok (.getfield 33, 3) := by decide +kernel
theorem dX9_heavySuspects_12 : decode cX9_heavySuspects 12 = .ok (.getfield 275, 3) := by decide +kernel
theorem dX9_heavySuspects_15 : decode cX9_heavySuspects 15 = .ok (.iload_n 1, 1) := by decide +kernel
theorem dX9_heavySuspects_16 : decode cX9_heavySuspects 16 = .ok (.iaload, 1) := by decide +kernel
theorem dX9_heavySuspects_17 : decode cX9_heavySuspects 17 = .ok (.goto 4, 3) := by decide +kernel
theorem dX9_heavySuspects_20 : decode cX9_heavySuspects 20 = .ok (.iconst (-1), 1) := by decide +kernel
theorem dX9_heavySuspects_21 : decode cX9_heavySuspects 21 = .ok (.ireturn, 1) := by decide +kernel
theorem dX9_lightSuspects_0 : decode cX9_lightSuspects 0 = .ok (.aload_n 0, 1) := by decide +kernel
theorem dX9_lightSuspects_1 : decode cX9_lightSuspects 1 = .ok (.iload_n 1, 1) := by decide +kernel
theorem dX9_lightSuspects_2 : decode cX9_lightSuspects 2 = .ok (.invokevirtual 265, 3) := by decide +kernel
theorem dX9_lightSuspects_5 : decode cX9_lightSuspects 5 = .ok (.ifCond .eq 15, 3) := by decide +kernel
theorem dX9_lightSuspects_8 : decode cX9_lightSuspects 8 = .ok (.aload_n 0, 1) := by decide +kernel
theorem dX9_lightSuspects_9 : decode cX9_lightSuspects 9 = .ok (.getfield 33, 3) := by decide +kernel
theorem dX9_lightSuspects_12 : decode cX9_lightSuspects 12 = .ok (.getfield 281, 3) := by decide +kernel
theorem dX9_lightSuspects_15 : decode cX9_lightSuspects 15 = .ok (.iload_n 1, 1) := by decide +kernel
theorem dX9_lightSuspects_16 : decode cX9_lightSuspects 16 = .ok (.iaload, 1) := by decide +kernel
theorem dX9_lightSuspects_17 : decode cX9_lightSuspects 17 = .ok (.goto 4, 3) := by decide +kernel
theorem dX9_lightSuspects_20 : decode cX9_lightSuspects 20 = .ok (.iconst (-1), 1) := by decide +kernel
theorem dX9_lightSuspects_21 : decode cX9_lightSuspects 21 = .ok (.ireturn, 1) := by decide +kernel
theorem dX9_canBeGenuine_0 : decode cX9_canBeGenuine 0 = .ok (.aload_n 0, 1) := by decide +kernel
theorem dX9_canBeGenuine_1 : decode cX9_canBeGenuine 1 = .ok (.iload_n 1, 1) := by decide +kernel
theorem dX9_canBeGenuine_2 : decode cX9_canBeGenuine 2 = .ok (.invokevirtual 265, 3) := by decide +kernel
theorem dX9_canBeGenuine_5 : decode cX9_canBeGenuine 5 = .ok (.ifCond .eq 15, 3) := by decide +kernel
theorem dX9_canBeGenuine_8 : decode cX9_canBeGenuine 8 = .ok (.aload_n 0, 1) := by decide +kernel
theorem dX9_canBeGenuine_9 : decode cX9_canBeGenuine 9 = .ok (.getfield 33, 3) := by decide +kernel
theorem dX9_canBeGenuine_12 : decode cX9_canBeGenuine 12 = .ok (.getfield 284, 3) := by decide +kernel
theorem dX9_canBeGenuine_15 : decode cX9_canBeGenuine 15 = .ok (.iload_n 1, 1) := by decide +kernel
theorem dX9_canBeGenuine_16 : decode cX9_canBeGenuine 16 = .ok (.iaload, 1) := by decide +kernel
theorem dX9_canBeGenuine_17 : decode cX9_canBeGenuine 17 = .ok (.goto 4, 3) := by decide +kernel
theorem dX9_canBeGenuine_20 : decode cX9_canBeGenuine 20 = .ok (.iconst (-1), 1) := by decide +kernel
theorem dX9_canBeGenuine_21 : decode cX9_canBeGenuine 21 = .ok (.ireturn, 1) := by decide +kernel
theorem dX9_finding_0 : decode cX9_finding 0 = .ok (.aload_n 0, 1) := by decide +kernel
theorem dX9_finding_1 : decode cX9_finding 1 = .ok (.iload_n 1, 1) := by decide +kernel
theorem dX9_finding_2 : decode cX9_finding 2 = .ok (.invokevirtual 265, 3) := by decide +kernel
theorem dX9_finding_5 : decode cX9_finding 5 = .ok (.ifCond .eq 14, 3) := by decide +kernel
theorem dX9_finding_8 : decode cX9_finding 8 = .ok (.aload_n 0, 1) := by decide +kernel
theorem dX9_finding_9 : decode cX9_finding 9 = .ok (.getfield 33, 3) := by decide +kernel
theorem dX9_finding_12 : decode cX9_finding 12 = .ok (.iload_n 1, 1) := by decide +kernel
theorem dX9_finding_13 : decode cX9_finding 13 = .ok (.invokevirtual 306, 3) := by decide +kernel
theorem dX9_finding_16 : decode cX9_finding 16 = .ok (.goto 4, 3) := by decide +kernel
theorem dX9_finding_19 : decode cX9_finding 19 = .ok (.iconst (-1), 1) := by decide +kernel
theorem dX9_finding_20 : decode cX9_finding 20 = .ok (.ireturn, 1) := by decide +kernel
theorem dX9_weighingsNeeded_0 : decode cX9_weighingsNeeded 0 = .ok (.aload_n 0, 1) := by decide +kernel
theorem dX9_weighingsNeeded_1 : decode cX9_weighingsNeeded 1 = .ok (.iload_n 1, 1) := by decide +kernel
theorem dX9_weighingsNeeded_2 : decode cX9_weighingsNeeded 2 = .ok (.invokevirtual 265, 3) := by decide +kernel
theorem dX9_weighingsNeeded_5 : decode cX9_weighingsNeeded 5 = .ok (.ifCond .ne 5, 3) := by decide +kernel
theorem dX9_weighingsNeeded_8 : decode cX9_weighingsNeeded 8 = .ok (.iconst (-1), 1) := by decide +kernel
theorem dX9_weighingsNeeded_9 : decode cX9_weighingsNeeded 9 = .ok (.ireturn, 1) := by decide +kernel
theorem dX9_weighingsNeeded_10 : decode cX9_weighingsNeeded 10 = .ok (.aload_n 0, 1) := by decide +kernel
theorem dX9_weighingsNeeded_11 : decode cX9_weighingsNeeded 11 = .ok (.iload_n 1, 1) := by decide +kernel
theorem dX9_weighingsNeeded_12 : decode cX9_weighingsNeeded 12 = .ok (.invokevirtual 309, 3) := by decide +kernel
theorem dX9_weighingsNeeded_15 : decode cX9_weighingsNeeded 15 = .ok (.aload_n 0, 1) := by decide +kernel
theorem dX9_weighingsNeeded_16 : decode cX9_weighingsNeeded 16 = .ok (.getfield 64, 3) := by decide +kernel
theorem dX9_weighingsNeeded_19 : decode cX9_weighingsNeeded 19 = .ok (.invokevirtual 312, 3) := by decide +kernel
theorem dX9_weighingsNeeded_22 : decode cX9_weighingsNeeded 22 = .ok (.invokestatic 316, 3) := by decide +kernel
theorem dX9_weighingsNeeded_25 : decode cX9_weighingsNeeded 25 = .ok (.ireturn, 1) := by decide +kernel
theorem dX9_bestLeft_0 : decode cX9_bestLeft 0 = .ok (.aload_n 0, 1) := by decide +kernel
theorem dX9_bestLeft_1 : decode cX9_bestLeft 1 = .ok (.iload_n 1, 1) := by decide +kernel
theorem dX9_bestLeft_2 : decode cX9_bestLeft 2 = .ok (.invokevirtual 265, 3) := by decide +kernel
theorem dX9_bestLeft_5 : decode cX9_bestLeft 5 = .ok (.ifCond .ne 5, 3) := by decide +kernel
theorem dX9_bestLeft_8 : decode cX9_bestLeft 8 = .ok (.iconst (-1), 1) := by decide +kernel
theorem dX9_bestLeft_9 : decode cX9_bestLeft 9 = .ok (.ireturn, 1) := by decide +kernel
theorem dX9_bestLeft_10 : decode cX9_bestLeft 10 = .ok (.aload_n 0, 1) := by decide +kernel
theorem dX9_bestLeft_11 : decode cX9_bestLeft 11 = .ok (.iload_n 1, 1) := by decide +kernel
theorem dX9_bestLeft_12 : decode cX9_bestLeft 12 = .ok (.invokevirtual 309, 3) := by decide +kernel
theorem dX9_bestLeft_15 : decode cX9_bestLeft 15 = .ok (.aload_n 0, 1) := by decide +kernel
theorem dX9_bestLeft_16 : decode cX9_bestLeft 16 = .ok (.getfield 64, 3) := by decide +kernel
theorem dX9_bestLeft_19 : decode cX9_bestLeft 19 = .ok (.invokevirtual 319, 3) := by decide +kernel
theorem dX9_bestLeft_22 : decode cX9_bestLeft 22 = .ok (.istore_n 2, 1) := by decide +kernel
theorem dX9_bestLeft_23 : decode cX9_bestLeft 23 = .ok (.iload_n 2, 1) := by decide +kernel
theorem dX9_bestLeft_24 : decode cX9_bestLeft 24 = .ok (.ldc_w 322, 3) := by decide +kernel
theorem dX9_bestLeft_27 : decode cX9_bestLeft 27 = .ok (.if_icmp .ne 8, 3) := by decide +kernel
theorem dX9_bestLeft_30 : decode cX9_bestLeft 30 = .ok (.bipush (-2), 2) := by decide +kernel
theorem dX9_bestLeft_32 : decode cX9_bestLeft 32 = .ok (.goto 7, 3) := by decide +kernel
theorem dX9_bestLeft_35 : decode cX9_bestLeft 35 = .ok (.iload_n 2, 1) := by decide +kernel
theorem dX9_bestLeft_36 : decode cX9_bestLeft 36 = .ok (.invokestatic 323, 3) := by decide +kernel
theorem dX9_bestLeft_39 : decode cX9_bestLeft 39 = .ok (.ireturn, 1) := by decide +kernel
theorem dX9_bestRight_0 : decode cX9_bestRight 0 = .ok (.aload_n 0, 1) := by decide +kernel
theorem dX9_bestRight_1 : decode cX9_bestRight 1 = .ok (.iload_n 1, 1) := by decide +kernel
theorem dX9_bestRight_2 : decode cX9_bestRight 2 = .ok (.invokevirtual 265, 3) := by decide +kernel
theorem dX9_bestRight_5 : decode cX9_bestRight 5 = .ok (.ifCond .ne 5, 3) := by decide +kernel
theorem dX9_bestRight_8 : decode cX9_bestRight 8 = .ok (.iconst (-1), 1) := by decide +kernel
theorem dX9_bestRight_9 : decode cX9_bestRight 9 = .ok (.ireturn, 1) := by decide +kernel
theorem dX9_bestRight_10 : decode cX9_bestRight 10 = .ok (.aload_n 0, 1) := by decide +kernel
theorem dX9_bestRight_11 : decode cX9_bestRight 11 = .ok (.iload_n 1, 1) := by decide +kernel
theorem dX9_bestRight_12 : decode cX9_bestRight 12 = .ok (.invokevirtual 309, 3) := by decide +kernel
theorem dX9_bestRight_15 : decode cX9_bestRight 15 = .ok (.aload_n 0, 1) := by decide +kernel
theorem dX9_bestRight_16 : decode cX9_bestRight 16 = .ok (.getfield 64, 3) := by decide +kernel
theorem dX9_bestRight_19 : decode cX9_bestRight 19 = .ok (.invokevirtual 319, 3) := by decide +kernel
theorem dX9_bestRight_22 : decode cX9_bestRight 22 = .ok (.istore_n 2, 1) := by decide +kernel
theorem dX9_bestRight_23 : decode cX9_bestRight 23 = .ok (.iload_n 2, 1) := by decide +kernel
theorem dX9_bestRight_24 : decode cX9_bestRight 24 = .ok (.ldc_w 322, 3) := by decide +kernel
theorem dX9_bestRight_27 : decode cX9_bestRight 27 = .ok (.if_icmp .ne 8, 3) := by decide +kernel
theorem dX9_bestRight_30 : decode cX9_bestRight 30 = .ok (.bipush (-2), 2) := by decide +kernel
theorem dX9_bestRight_32 : decode cX9_bestRight 32 = .ok (.goto 7, 3) := by decide +kernel
theorem dX9_bestRight_35 : decode cX9_bestRight 35 = .ok (.iload_n 2, 1) := by decide +kernel
theorem dX9_bestRight_36 : decode cX9_bestRight 36 = .ok (.invokestatic 326, 3) := by decide +kernel
theorem dX9_bestRight_39 : decode cX9_bestRight 39 = .ok (.ireturn, 1) := by decide +kernel
theorem dX9_fewestWeighings_0 : decode cX9_fewestWeighings 0 = .ok (.iload_n 1, 1) := by decide +kernel
theorem dX9_fewestWeighings_1 : decode cX9_fewestWeighings 1 = .ok (.iconst 2, 1) := by decide +kernel
theorem dX9_fewestWeighings_2 : decode cX9_fewestWeighings 2 = .ok (.if_icmp .lt 9, 3) := by decide +kernel
theorem dX9_fewestWeighings_5 : decode cX9_fewestWeighings 5 = .ok (.iload_n 1, 1) := by decide +kernel
theorem dX9_fewestWeighings_6 : decode cX9_fewestWeighings 6 = .ok (.bipush 12, 2) := by decide +kernel
theorem dX9_fewestWeighings_8 : decode cX9_fewestWeighings 8 = .ok (.if_icmp .le 5, 3) := by decide +kernel
theorem dX9_fewestWeighings_11 : decode cX9_fewestWeighings 11 = .ok (.iconst (-1), 1) := by decide +kernel
theorem dX9_fewestWeighings_12 : decode cX9_fewestWeighings 12 = .ok (.ireturn, 1) := by decide +kernel
theorem dX9_fewestWeighings_13 : decode cX9_fewestWeighings 13 = .ok (.iconst 1, 1) := by decide +kernel
theorem dX9_fewestWeighings_14 : decode cX9_fewestWeighings 14 = .ok (.iload_n 1, 1) := by decide +kernel
theorem dX9_fewestWeighings_15 : decode cX9_fewestWeighings 15 = .ok (.ishl, 1) := by decide +kernel
theorem dX9_fewestWeighings_16 : decode cX9_fewestWeighings 16 = .ok (.iconst 1, 1) := by decide +kernel
theorem dX9_fewestWeighings_17 : decode cX9_fewestWeighings 17 = .ok (.isub, 1) := by decide +kernel
theorem dX9_fewestWeighings_18 : decode cX9_fewestWeighings 18 = .ok (.istore_n 3, 1) := by decide +kernel
theorem dX9_fewestWeighings_19 : decode cX9_fewestWeighings 19 = .ok (.aload_n 0, 1) := by decide +kernel
theorem dX9_fewestWeighings_20 : decode cX9_fewestWeighings 20 = .ok (.getfield 64, 3) := by decide +kernel
theorem dX9_fewestWeighings_23 : decode cX9_fewestWeighings 23 = .ok (.iload_n 1, 1) := by decide +kernel
theorem dX9_fewestWeighings_24 : decode cX9_fewestWeighings 24 = .ok (.iload_n 3, 1) := by decide +kernel
theorem dX9_fewestWeighings_25 : decode cX9_fewestWeighings 25 = .ok (.iload_n 3, 1) := by decide +kernel
theorem dX9_fewestWeighings_26 : decode cX9_fewestWeighings 26 = .ok (.iload_n 2, 1) := by decide +kernel
theorem dX9_fewestWeighings_27 : decode cX9_fewestWeighings 27 = .ok (.ifCond .eq 7, 3) := by decide +kernel
theorem dX9_fewestWeighings_30 : decode cX9_fewestWeighings 30 = .ok (.iconst 1, 1) := by decide +kernel
theorem dX9_fewestWeighings_31 : decode cX9_fewestWeighings 31 = .ok (.goto 4, 3) := by decide +kernel
theorem dX9_fewestWeighings_34 : decode cX9_fewestWeighings 34 = .ok (.iconst 0, 1) := by decide +kernel
theorem dX9_fewestWeighings_35 : decode cX9_fewestWeighings 35 = .ok (.invokevirtual 329, 3) := by decide +kernel
theorem dX9_fewestWeighings_38 : decode cX9_fewestWeighings 38 = .ok (.aload_n 0, 1) := by decide +kernel
theorem dX9_fewestWeighings_39 : decode cX9_fewestWeighings 39 = .ok (.getfield 64, 3) := by decide +kernel
theorem dX9_fewestWeighings_42 : decode cX9_fewestWeighings 42 = .ok (.invokevirtual 312, 3) := by decide +kernel
theorem dX9_fewestWeighings_45 : decode cX9_fewestWeighings 45 = .ok (.invokestatic 316, 3) := by decide +kernel
theorem dX9_fewestWeighings_48 : decode cX9_fewestWeighings 48 = .ok (.ireturn, 1) := by decide +kernel
theorem dX9_undo_0 : decode cX9_undo 0 = .ok (.aload_n 0, 1) := by decide +kernel
theorem dX9_undo_1 : decode cX9_undo 1 = .ok (.getfield 40, 3) := by decide +kernel
theorem dX9_undo_4 : decode cX9_undo 4 = .ok (.invokevirtual 332, 3) := by decide +kernel
theorem dX9_undo_7 : decode cX9_undo 7 = .ok (.istore_n 1, 1) := by decide +kernel
theorem dX9_undo_8 : decode cX9_undo 8 = .ok (.iload_n 1, 1) := by decide +kernel
theorem dX9_undo_9 : decode cX9_undo 9 = .ok (.iconst (-1), 1) := by decide +kernel
theorem dX9_undo_10 : decode cX9_undo 10 = .ok (.if_icmp .ne 5, 3) := by decide +kernel
theorem dX9_undo_13 : decode cX9_undo 13 = .ok (.iconst 0, 1) := by decide +kernel
theorem dX9_undo_14 : decode cX9_undo 14 = .ok (.ireturn, 1) := by decide +kernel
theorem dX9_undo_15 : decode cX9_undo 15 = .ok (.aload_n 0, 1) := by decide +kernel
theorem dX9_undo_16 : decode cX9_undo 16 = .ok (.getfield 40, 3) := by decide +kernel
theorem dX9_undo_19 : decode cX9_undo 19 = .ok (.getfield 335, 3) := by decide +kernel
theorem dX9_undo_22 : decode cX9_undo 22 = .ok (.iload_n 1, 1) := by decide +kernel
theorem dX9_undo_23 : decode cX9_undo 23 = .ok (.iaload, 1) := by decide +kernel
theorem dX9_undo_24 : decode cX9_undo 24 = .ok (.istore_n 2, 1) := by decide +kernel
theorem dX9_undo_25 : decode cX9_undo 25 = .ok (.aload_n 0, 1) := by decide +kernel
theorem dX9_undo_26 : decode cX9_undo 26 = .ok (.getfield 40, 3) := by decide +kernel
theorem dX9_undo_29 : decode cX9_undo 29 = .ok (.getfield 338, 3) := by decide +kernel
theorem dX9_undo_32 : decode cX9_undo 32 = .ok (.iload_n 1, 1) := by decide +kernel
theorem dX9_undo_33 : decode cX9_undo 33 = .ok (.iaload, 1) := by decide +kernel
theorem dX9_undo_34 : decode cX9_undo 34 = .ok (.tableswitch 66 0 2 #[26, 37, 53], 26) := by decide +kernel
theorem dX9_undo_60 : decode cX9_undo 60 = .ok (.aload_n 0, 1) := by decide +kernel
theorem dX9_undo_61 : decode cX9_undo 61 = .ok (.getfield 26, 3) := by decide +kernel
theorem dX9_undo_64 : decode cX9_undo 64 = .ok (.iload_n 2, 1) := by decide +kernel
theorem dX9_undo_65 : decode cX9_undo 65 = .ok (.putfield 97, 3) := by decide +kernel
theorem dX9_undo_68 : decode cX9_undo 68 = .ok (.goto 80, 3) := by decide +kernel
theorem dX9_undo_71 : decode cX9_undo 71 = .ok (.aload_n 0, 1) := by decide +kernel
theorem dX9_undo_72 : decode cX9_undo 72 = .ok (.getfield 26, 3) := by decide +kernel
theorem dX9_undo_75 : decode cX9_undo 75 = .ok (.getfield 201, 3) := by decide +kernel
theorem dX9_undo_78 : decode cX9_undo 78 = .ok (.iload_n 2, 1) := by decide +kernel
theorem dX9_undo_79 : decode cX9_undo 79 = .ok (.dup2, 1) := by decide +kernel
theorem dX9_undo_80 : decode cX9_undo 80 = .ok (.iaload, 1) := by decide +kernel
theorem dX9_undo_81 : decode cX9_undo 81 = .ok (.iconst 1, 1) := by decide +kernel
theorem dX9_undo_82 : decode cX9_undo 82 = .ok (.isub, 1) := by decide +kernel
theorem dX9_undo_83 : decode cX9_undo 83 = .ok (.iastore, 1) := by decide +kernel
theorem dX9_undo_84 : decode cX9_undo 84 = .ok (.goto 64, 3) := by decide +kernel
theorem dX9_undo_87 : decode cX9_undo 87 = .ok (.aload_n 0, 1) := by decide +kernel
theorem dX9_undo_88 : decode cX9_undo 88 = .ok (.getfield 26, 3) := by decide +kernel
theorem dX9_undo_91 : decode cX9_undo 91 = .ok (.getfield 238, 3) := by decide +kernel
theorem dX9_undo_94 : decode cX9_undo 94 = .ok (.iload_n 2, 1) := by decide +kernel
theorem dX9_undo_95 : decode cX9_undo 95 = .ok (.iconst (-1), 1) := by decide +kernel
theorem dX9_undo_96 : decode cX9_undo 96 = .ok (.iastore, 1) := by decide +kernel
theorem dX9_undo_97 : decode cX9_undo 97 = .ok (.goto 51, 3) := by decide +kernel
theorem dX9_undo_100 : decode cX9_undo 100 = .ok (.aload_n 0, 1) := by decide +kernel
theorem dX9_undo_101 : decode cX9_undo 101 = .ok (.getfield 33, 3) := by decide +kernel
theorem dX9_undo_104 : decode cX9_undo 104 = .ok (.iload_n 2, 1) := by decide +kernel
theorem dX9_undo_105 : decode cX9_undo 105 = .ok (.aload_n 0, 1) := by decide +kernel
theorem dX9_undo_106 : decode cX9_undo 106 = .ok (.getfield 40, 3) := by decide +kernel
theorem dX9_undo_109 : decode cX9_undo 109 = .ok (.getfield 341, 3) := by decide +kernel
theorem dX9_undo_112 : decode cX9_undo 112 = .ok (.iload_n 1, 1) := by decide +kernel
theorem dX9_undo_113 : decode cX9_undo 113 = .ok (.iaload, 1) := by decide +kernel
theorem dX9_undo_114 : decode cX9_undo 114 = .ok (.aload_n 0, 1) := by decide +kernel
theorem dX9_undo_115 : decode cX9_undo 115 = .ok (.getfield 40, 3) := by decide +kernel
theorem dX9_undo_118 : decode cX9_undo 118 = .ok (.getfield 342, 3) := by decide +kernel
theorem dX9_undo_121 : decode cX9_undo 121 = .ok (.iload_n 1, 1) := by decide +kernel
theorem dX9_undo_122 : decode cX9_undo 122 = .ok (.iaload, 1) := by decide +kernel
theorem dX9_undo_123 : decode cX9_undo 123 = .ok (.aload_n 0, 1) := by decide +kernel
theorem dX9_undo_124 : decode cX9_undo 124 = .ok (.getfield 40, 3) := by decide +kernel
theorem dX9_undo_127 : decode cX9_undo 127 = .ok (.getfield 343, 3) := by decide +kernel
theorem dX9_undo_130 : decode cX9_undo 130 = .ok (.iload_n 1, 1) := by decide +kernel
theorem dX9_undo_131 : decode cX9_undo 131 = .ok (.iaload, 1) := by decide +kernel
theorem dX9_undo_132 : decode cX9_undo 132 = .ok (.invokevirtual 299, 3) := by decide +kernel
theorem dX9_undo_135 : decode cX9_undo 135 = .ok (.aload_n 0, 1) := by decide +kernel
theorem dX9_undo_136 : decode cX9_undo 136 = .ok (.getfield 33, 3) := by decide +kernel
theorem dX9_undo_139 : decode cX9_undo 139 = .ok (.getfield 292, 3) := by decide +kernel
theorem dX9_undo_142 : decode cX9_undo 142 = .ok (.iload_n 2, 1) := by decide +kernel
theorem dX9_undo_143 : decode cX9_undo 143 = .ok (.dup2, 1) := by decide +kernel
theorem dX9_undo_144 : decode cX9_undo 144 = .ok (.iaload, 1) := by decide +kernel
theorem dX9_undo_145 : decode cX9_undo 145 = .ok (.iconst 1, 1) := by decide +kernel
theorem dX9_undo_146 : decode cX9_undo 146 = .ok (.isub, 1) := by decide +kernel
theorem dX9_undo_147 : decode cX9_undo 147 = .ok (.iastore, 1) := by decide +kernel
theorem dX9_undo_148 : decode cX9_undo 148 = .ok (.iconst 1, 1) := by decide +kernel
theorem dX9_undo_149 : decode cX9_undo 149 = .ok (.ireturn, 1) := by decide +kernel
theorem dX9_undoDepth_0 : decode cX9_undoDepth 0 = .ok (.aload_n 0, 1) := by decide +kernel
theorem dX9_undoDepth_1 : decode cX9_undoDepth 1 = .ok (.getfield 40, 3) := by decide +kernel
theorem dX9_undoDepth_4 : decode cX9_undoDepth 4 = .ok (.getfield 344, 3) := by decide +kernel
theorem dX9_undoDepth_7 : decode cX9_undoDepth 7 = .ok (.ireturn, 1) := by decide +kernel
theorem dX9_saveSnapshot_0 : decode cX9_saveSnapshot 0 = .ok (.iload_n 1, 1) := by decide +kernel
theorem dX9_saveSnapshot_1 : decode cX9_saveSnapshot 1 = .ok (.ifCond .lt 8, 3) := by decide +kernel
theorem dX9_saveSnapshot_4 : decode cX9_saveSnapshot 4 = .ok (.iload_n 1, 1) := by decide +kernel
theorem dX9_saveSnapshot_5 : decode cX9_saveSnapshot 5 = .ok (.iconst 2, 1) := by decide +kernel
theorem dX9_saveSnapshot_6 : decode cX9_saveSnapshot 6 = .ok (.if_icmp .lt 5, 3) := by decide +kernel
theorem dX9_saveSnapshot_9 : decode cX9_saveSnapshot 9 = .ok (.iconst 0, 1) := by decide +kernel
theorem dX9_saveSnapshot_10 : decode cX9_saveSnapshot 10 = .ok (.ireturn, 1) := by decide +kernel
theorem dX9_saveSnapshot_11 : decode cX9_saveSnapshot 11 = .ok (.aload_n 0, 1) := by decide +kernel
theorem dX9_saveSnapshot_12 : decode cX9_saveSnapshot 12 = .ok (.iload_n 1, 1) := by decide +kernel
theorem dX9_saveSnapshot_13 : decode cX9_saveSnapshot 13 = .ok (.invokevirtual 347, 3) := by decide +kernel
theorem dX9_saveSnapshot_16 : decode cX9_saveSnapshot 16 = .ok (.aload_n 0, 1) := by decide +kernel
theorem dX9_saveSnapshot_17 : decode cX9_saveSnapshot 17 = .ok (.getfield 26, 3) := by decide +kernel
theorem dX9_saveSnapshot_20 : decode cX9_saveSnapshot 20 = .ok (.aload_n 0, 1) := by decide +kernel
theorem dX9_saveSnapshot_21 : decode cX9_saveSnapshot 21 = .ok (.getfield 33, 3) := by decide +kernel
theorem dX9_saveSnapshot_24 : decode cX9_saveSnapshot 24 = .ok (.invokevirtual 351, 3) := by decide +kernel
theorem dX9_saveSnapshot_27 : decode cX9_saveSnapshot 27 = .ok (.iconst 1, 1) := by decide +kernel
theorem dX9_saveSnapshot_28 : decode cX9_saveSnapshot 28 = .ok (.ireturn, 1) := by decide +kernel
theorem dX9_restoreSnapshot_0 : decode cX9_restoreSnapshot 0 = .ok (.iload_n 1, 1) := by decide +kernel
theorem dX9_restoreSnapshot_1 : decode cX9_restoreSnapshot 1 = .ok (.ifCond .lt 19, 3) := by decide +kernel
theorem dX9_restoreSnapshot_4 : decode cX9_restoreSnapshot 4 = .ok (.iload_n 1, 1) := by decide +kernel
theorem dX9_restoreSnapshot_5 : decode cX9_restoreSnapshot 5 = .ok (.iconst 2, 1) := by decide +kernel
theorem dX9_restoreSnapshot_6 : decode cX9_restoreSnapshot 6 = .ok (.if_icmp .ge 14, 3) := by decide +kernel
theorem dX9_restoreSnapshot_9 : decode cX9_restoreSnapshot 9 = .ok (.aload_n 0, 1) := by decide +kernel
theorem dX9_restoreSnapshot_10 : decode cX9_restoreSnapshot 10 = .ok (.iload_n 1, 1) := by decide +kernel
theorem dX9_restoreSnapshot_11 : decode cX9_restoreSnapshot 11 = .ok (.invokevirtual 347, 3) := by decide +kernel
theorem dX9_restoreSnapshot_14 : decode cX9_restoreSnapshot 14 = .ok (.getfield 106, 3) := by decide +kernel
theorem dX9_restoreSnapshot_17 : decode cX9_restoreSnapshot 17 = .ok (.ifCond .ne 5, 3) := by decide +kernel
theorem dX9_restoreSnapshot_20 : decode cX9_restoreSnapshot 20 = .ok (.iconst 0, 1) := by decide +kernel
theorem dX9_restoreSnapshot_21 : decode cX9_restoreSnapshot 21 = .ok (.ireturn, 1) := by decide +kernel
theorem dX9_restoreSnapshot_22 : decode cX9_restoreSnapshot 22 = .ok (.aload_n 0, 1) := by decide +kernel
theorem dX9_restoreSnapshot_23 : decode cX9_restoreSnapshot 23 = .ok (.getfield 26, 3) := by decide +kernel
theorem dX9_restoreSnapshot_26 : decode cX9_restoreSnapshot 26 = .ok (.aload_n 0, 1) := by decide +kernel
theorem dX9_restoreSnapshot_27 : decode cX9_restoreSnapshot 27 = .ok (.iload_n 1, 1) := by decide +kernel
theorem dX9_restoreSnapshot_28 : decode cX9_restoreSnapshot 28 = .ok (.invokevirtual 347, 3) := by decide +kernel
theorem dX9_restoreSnapshot_31 : decode cX9_restoreSnapshot 31 = .ok (.getfield 355, 3) := by decide +kernel
theorem dX9_restoreSnapshot_34 : decode cX9_restoreSnapshot 34 = .ok (.invokevirtual 356, 3) := by decide +kernel
theorem dX9_restoreSnapshot_37 : decode cX9_restoreSnapshot 37 = .ok (.aload_n 0, 1) := by decide +kernel
theorem dX9_restoreSnapshot_38 : decode cX9_restoreSnapshot 38 = .ok (.getfield 33, 3) := by decide +kernel
theorem dX9_restoreSnapshot_41 : decode cX9_restoreSnapshot 41 = .ok (.aload_n 0, 1) := by decide +kernel
theorem dX9_restoreSnapshot_42 : decode cX9_restoreSnapshot 42 = .ok (.iload_n 1, 1) := by decide +kernel
theorem dX9_restoreSnapshot_43 : decode cX9_restoreSnapshot 43 = .ok (.invokevirtual 347, 3) := by decide +kernel
theorem dX9_restoreSnapshot_46 : decode cX9_restoreSnapshot 46 = .ok (.getfield 360, 3) := by decide +kernel
theorem dX9_restoreSnapshot_49 : decode cX9_restoreSnapshot 49 = .ok (.invokevirtual 361, 3) := by decide +kernel
theorem dX9_restoreSnapshot_52 : decode cX9_restoreSnapshot 52 = .ok (.aload_n 0, 1) := by decide +kernel
theorem dX9_restoreSnapshot_53 : decode cX9_restoreSnapshot 53 = .ok (.getfield 40, 3) := by decide +kernel
theorem dX9_restoreSnapshot_56 : decode cX9_restoreSnapshot 56 = .ok (.invokevirtual 103, 3) := by decide +kernel
theorem dX9_restoreSnapshot_59 : decode cX9_restoreSnapshot 59 = .ok (.iconst 1, 1) := by decide +kernel
theorem dX9_restoreSnapshot_60 : decode cX9_restoreSnapshot 60 = .ok (.ireturn, 1) := by decide +kernel
def f_X9_sealState_h15 (F : Nat) (S : si_St) : Option (Int32 × si_St) :=
  some ((-1), S)
def f_X9_sealState (F : Nat) (x1 : Int32) (x2 : Int32) (S : si_St) : Option (Int32 × si_St) :=
  Option.bind (f_X9_hasScale F x1 S) fun q1 => if q1.1 = 0 then (f_X9_sealState_h15 F q1.2) else (Option.bind (f_X9_isDay F x2 q1.2) fun q2 => if q2.1 = 0 then (f_X9_sealState_h15 F q2.2) else (Option.bind (si_mk q2.2 0 2) fun k93 => Option.bind (f_X6_take F k93 x2 q2.2) fun S4 => Option.bind (si_rd S4 58 x1) fun v5 => some (v5, S4)))
def f_X9_expiryDay_h15 (F : Nat) (S : si_St) : Option (Int32 × si_St) :=
  some ((-1), S)
def f_X9_expiryDay_h64 (F : Nat) (t0 : Int32) (S : si_St) : Option (Int32 × si_St) :=
  some (t0, S)
def f_X9_expiryDay (F : Nat) (x1 : Int32) (x2 : Int32) (S : si_St) : Option (Int32 × si_St) :=
  Option.bind (f_X9_hasScale F x1 S) fun q1 => if q1.1 = 0 then (f_X9_expiryDay_h15 F q1.2) else (Option.bind (f_X9_isDay F x2 q1.2) fun q2 => if q2.1 = 0 then (f_X9_expiryDay_h15 F q2.2) else (Option.bind (si_mk q2.2 0 2) fun k93 => Option.bind (f_X6_take F k93 x2 q2.2) fun S4 => Option.bind (si_rd S4 58 x1) fun v5 => if v5 = 1 then (Option.bind (si_rd S4 59 x1) fun v6 => f_X9_expiryDay_h64 F (v6 * 360) S4) else (f_X9_expiryDay_h64 F (-2) S4)))
def f_X9_scalesWith_h16 (F : Nat) (S : si_St) : Option (Int32 × si_St) :=
  some ((-1), S)
def f_X9_scalesWith (F : Nat) (x1 : Int32) (x2 : Int32) (S : si_St) : Option (Int32 × si_St) :=
  if x1 < 0 then (f_X9_scalesWith_h16 F S) else (if 3 < x1 then (f_X9_scalesWith_h16 F S) else (Option.bind (f_X9_isDay F x2 S) fun q1 => if q1.1 = 0 then (f_X9_scalesWith_h16 F q1.2) else (Option.bind (si_mk q1.2 0 2) fun k92 => Option.bind (f_X6_take F k92 x2 q1.2) fun S3 => Option.bind (f_X6_scalesIn F x1 S3) fun q4 => some (q4.1, q4.2))))
def f_X9_risk_h15 (F : Nat) (S : si_St) : Option (Int32 × si_St) :=
  some ((-1), S)
def f_X9_risk (F : Nat) (x1 : Int32) (x2 : Int32) (S : si_St) : Option (Int32 × si_St) :=
  Option.bind (f_X9_hasScale F x1 S) fun q1 => if q1.1 = 0 then (f_X9_risk_h15 F q1.2) else (Option.bind (f_X9_isDay F x2 q1.2) fun q2 => if q2.1 = 0 then (f_X9_risk_h15 F q2.2) else (Option.bind (si_mk q2.2 0 2) fun k93 => Option.bind (f_X6_take F k93 x2 q2.2) fun S4 => Option.bind (si_rd S4 60 x1) fun v5 => some (v5, S4)))
def f_X9_riskiestTrader (F : Nat) (x1 : Int32) (S : si_St) : Option (Int32 × si_St) :=
  Option.bind (f_X9_isDay F x1 S) fun q1 => if q1.1 = 0 then (some ((-1), q1.2)) else (Option.bind (si_mk q1.2 0 2) fun k92 => if (q1.2.1 k92 0) = 0 then (some ((-2), q1.2)) else (Option.bind (si_mk q1.2 0 2) fun k93 => Option.bind (f_X6_take F k93 x1 q1.2) fun S4 => Option.bind (si_mk S4 0 2) fun k95 => Option.bind (f_X6_traderAtMostRisk F k95 S4) fun q6 => some (q6.1, q6.2)))
def f_X9_lot_h22 (F : Nat) (S : si_St) : Option (Int32 × si_St) :=
  some ((-1), S)
def f_X9_lot (F : Nat) (x1 : Int32) (x2 : Int32) (x3 : Int32) (S : si_St) : Option (Int32 × si_St) :=
  if x1 < 0 then (f_X9_lot_h22 F S) else (if 999999 < x1 then (f_X9_lot_h22 F S) else (if x2 < 0 then (f_X9_lot_h22 F S) else (Option.bind (f_X9_isDay F x3 S) fun q1 => if q1.1 = 0 then (f_X9_lot_h22 F q1.2) else (Option.bind (si_mk q1.2 0 2) fun k92 => if x2 < (q1.2.1 k92 1) then (Option.bind (si_mk q1.2 0 2) fun k93 => Option.bind (f_X6_take F k93 x3 q1.2) fun S4 => Option.bind (f_X6_draw F x1 x2 S4) fun q5 => some (q5.1, q5.2)) else (some ((-2), q1.2))))))
def f_X9_weightCount_h21 (F : Nat) (t0 : Int32) (S : si_St) : Option (Int32 × si_St) :=
  some (t0, S)
def f_X9_weightCount (F : Nat) (x1 : Int32) (S : si_St) : Option (Int32 × si_St) :=
  Option.bind (f_X9_hasSet F x1 S) fun q1 => if q1.1 = 0 then (f_X9_weightCount_h21 F (-1) q1.2) else (Option.bind (si_mk q1.2 0 2) fun k92 => Option.bind (si_rd q1.2 (k92 + 6) x1) fun v3 => f_X9_weightCount_h21 F v3 q1.2)
def f_X9_weigh_h25 (F : Nat) (S : si_St) : Option (Int32 × si_St) :=
  some ((-1), S)
def f_X9_weigh_h38 (F : Nat) (S : si_St) : Option (Int32 × si_St) :=
  some ((-1), S)
def f_X9_weigh_h94 (F : Nat) (x1 : Int32) (x5 : Int32) (x6 : Int32) (t0 : Int32) (S : si_St) : Option (Int32 × si_St) :=
  Option.bind (f_J6_bitCount_0f7a4 F x5 S) fun q1 => Option.bind (f_J6_bitCount_0f7a4 F x6 q1.2) fun q2 => Option.bind (some ((q1.1 + q2.1) + t0)) fun v3 => if v3 = 0 then (some ((-2), q2.2)) else (Option.bind (si_rd q2.2 20 x1) fun v4 => if v4 < 20 then (Option.bind (f_X0_addWeighing F x1 q2.2) fun S5 => Option.bind (f_X8_put F x1 x5 x6 t0 S5) fun S6 => Option.bind (si_rd S6 20 x1) fun v7 => Option.bind (si_wr S6 20 x1 (v7 + 1)) fun S8 => some (v3, S8)) else (some ((-3), q2.2)))
def f_X9_weigh (F : Nat) (x1 : Int32) (x2 : Int32) (x3 : Int32) (x4 : Int32) (S : si_St) : Option (Int32 × si_St) :=
  Option.bind (f_X9_hasSet F x1 S) fun q9 => if q9.1 = 0 then (f_X9_weigh_h25 F q9.2) else (Option.bind (si_mk q9.2 0 2) fun k910 => Option.bind (si_rd q9.2 (k910 + 6) x1) fun v11 => Option.bind (f_X9_isWeighing F v11 x2 x3 q9.2) fun q12 => if q12.1 = 0 then (f_X9_weigh_h25 F q12.2) else (if x4 < 0 then (f_X9_weigh_h38 F q12.2) else (if x4 ≤ 2 then (Option.bind (si_rd q12.2 17 x1) fun v13 => Option.bind (f_X8_suspectsAfter F v13 x2 x3 x4 q12.2) fun q14 => Option.bind (si_rd q14.2 18 x1) fun v15 => Option.bind (f_X8_suspectsAfter F v15 x3 x2 x4 q14.2) fun q16 => if x4 = 0 then (Option.bind (si_rd q16.2 19 x1) fun v17 => f_X9_weigh_h94 F x1 q14.1 q16.1 v17 q16.2) else (f_X9_weigh_h94 F x1 q14.1 q16.1 0 q16.2)) else (f_X9_weigh_h38 F q12.2))))
def f_X9_weighingCount_h21 (F : Nat) (t0 : Int32) (S : si_St) : Option (Int32 × si_St) :=
  some (t0, S)
def f_X9_weighingCount (F : Nat) (x1 : Int32) (S : si_St) : Option (Int32 × si_St) :=
  Option.bind (f_X9_hasSet F x1 S) fun q1 => if q1.1 = 0 then (f_X9_weighingCount_h21 F (-1) q1.2) else (Option.bind (si_rd q1.2 20 x1) fun v2 => f_X9_weighingCount_h21 F v2 q1.2)
def f_X9_hypothesisCount_h20 (F : Nat) (t0 : Int32) (S : si_St) : Option (Int32 × si_St) :=
  some (t0, S)
def f_X9_hypothesisCount (F : Nat) (x1 : Int32) (S : si_St) : Option (Int32 × si_St) :=
  Option.bind (f_X9_hasSet F x1 S) fun q1 => if q1.1 = 0 then (f_X9_hypothesisCount_h20 F (-1) q1.2) else (Option.bind (f_X8_hypothesesOf F x1 q1.2) fun q2 => f_X9_hypothesisCount_h20 F q2.1 q2.2)
def f_X9_heavySuspects_h21 (F : Nat) (t0 : Int32) (S : si_St) : Option (Int32 × si_St) :=
  some (t0, S)
def f_X9_heavySuspects (F : Nat) (x1 : Int32) (S : si_St) : Option (Int32 × si_St) :=
  Option.bind (f_X9_hasSet F x1 S) fun q1 => if q1.1 = 0 then (f_X9_heavySuspects_h21 F (-1) q1.2) else (Option.bind (si_rd q1.2 17 x1) fun v2 => f_X9_heavySuspects_h21 F v2 q1.2)
def f_X9_lightSuspects_h21 (F : Nat) (t0 : Int32) (S : si_St) : Option (Int32 × si_St) :=
  some (t0, S)
def f_X9_lightSuspects (F : Nat) (x1 : Int32) (S : si_St) : Option (Int32 × si_St) :=
  Option.bind (f_X9_hasSet F x1 S) fun q1 => if q1.1 = 0 then (f_X9_lightSuspects_h21 F (-1) q1.2) else (Option.bind (si_rd q1.2 18 x1) fun v2 => f_X9_lightSuspects_h21 F v2 q1.2)
def f_X9_canBeGenuine_h21 (F : Nat) (t0 : Int32) (S : si_St) : Option (Int32 × si_St) :=
  some (t0, S)
def f_X9_canBeGenuine (F : Nat) (x1 : Int32) (S : si_St) : Option (Int32 × si_St) :=
  Option.bind (f_X9_hasSet F x1 S) fun q1 => if q1.1 = 0 then (f_X9_canBeGenuine_h21 F (-1) q1.2) else (Option.bind (si_rd q1.2 19 x1) fun v2 => f_X9_canBeGenuine_h21 F v2 q1.2)
def f_X9_finding_h20 (F : Nat) (t0 : Int32) (S : si_St) : Option (Int32 × si_St) :=
  some (t0, S)
def f_X9_finding (F : Nat) (x1 : Int32) (S : si_St) : Option (Int32 × si_St) :=
  Option.bind (f_X9_hasSet F x1 S) fun q1 => if q1.1 = 0 then (f_X9_finding_h20 F (-1) q1.2) else (Option.bind (f_X8_onlyHypothesis F x1 q1.2) fun q2 => f_X9_finding_h20 F q2.1 q2.2)
def f_X9_weighingsNeeded (F : Nat) (x1 : Int32) (S : si_St) : Option (Int32 × si_St) :=
  Option.bind (f_X9_hasSet F x1 S) fun q1 => if q1.1 = 0 then (some ((-1), q1.2)) else (Option.bind (f_X9_chooseSet F x1 q1.2) fun S2 => Option.bind (f_X5_needed F S2) fun q3 => Option.bind (f_X9_orNone F q3.1 q3.2) fun q4 => some (q4.1, q4.2))
def f_X9_bestLeft_h39 (F : Nat) (t0 : Int32) (S : si_St) : Option (Int32 × si_St) :=
  some (t0, S)
def f_X9_bestLeft (F : Nat) (x1 : Int32) (S : si_St) : Option (Int32 × si_St) :=
  Option.bind (f_X9_hasSet F x1 S) fun q1 => if q1.1 = 0 then (some ((-1), q1.2)) else (Option.bind (f_X9_chooseSet F x1 q1.2) fun S2 => Option.bind (f_X5_bestWeighing F S2) fun q3 => if q3.1 = 268435456 then (f_X9_bestLeft_h39 F (-2) q3.2) else (Option.bind (f_X5_leftPan F q3.1 q3.2) fun q4 => f_X9_bestLeft_h39 F q4.1 q4.2))
def f_X9_bestRight_h39 (F : Nat) (t0 : Int32) (S : si_St) : Option (Int32 × si_St) :=
  some (t0, S)
def f_X9_bestRight (F : Nat) (x1 : Int32) (S : si_St) : Option (Int32 × si_St) :=
  Option.bind (f_X9_hasSet F x1 S) fun q1 => if q1.1 = 0 then (some ((-1), q1.2)) else (Option.bind (f_X9_chooseSet F x1 q1.2) fun S2 => Option.bind (f_X5_bestWeighing F S2) fun q3 => if q3.1 = 268435456 then (f_X9_bestRight_h39 F (-2) q3.2) else (Option.bind (f_X5_rightPan F q3.1 q3.2) fun q4 => f_X9_bestRight_h39 F q4.1 q4.2))
def f_X9_fewestWeighings_h11 (F : Nat) (S : si_St) : Option (Int32 × si_St) :=
  some ((-1), S)
def f_X9_fewestWeighings_h35 (F : Nat) (t0 : Int32) (t1 : Int32) (t2 : Int32) (t3 : Int32) (S : si_St) : Option (Int32 × si_St) :=
  Option.bind (f_X5_choose F t3 t2 t1 t0 S) fun S1 => Option.bind (f_X5_needed F S1) fun q2 => Option.bind (f_X9_orNone F q2.1 q2.2) fun q3 => some (q3.1, q3.2)
def f_X9_fewestWeighings (F : Nat) (x1 : Int32) (x2 : Int32) (S : si_St) : Option (Int32 × si_St) :=
  if x1 < 2 then (f_X9_fewestWeighings_h11 F S) else (if x1 ≤ 12 then (Option.bind (some ((1 <<< (x1 &&& 31)) - 1)) fun v4 => if x2 = 0 then (f_X9_fewestWeighings_h35 F 0 v4 v4 x1 S) else (f_X9_fewestWeighings_h35 F 1 v4 v4 x1 S)) else (f_X9_fewestWeighings_h11 F S))
def f_X9_undo_h148 (F : Nat) (S : si_St) : Option (Int32 × si_St) :=
  Option.bind (si_bz 1) fun v1 => some (v1, S)
def f_X9_undo (F : Nat) (S : si_St) : Option (Int32 × si_St) :=
  Option.bind (f_X0_takeLatest F S) fun q2 => if q2.1 = (-1) then (Option.bind (si_bz 0) fun v15 => some (v15, q2.2)) else (Option.bind (si_rd q2.2 23 q2.1) fun v3 => Option.bind (si_rd q2.2 22 q2.1) fun v4 => if v4 = 0 then (Option.bind (si_pt q2.2 7 0 v3) fun S5 => f_X9_undo_h148 F S5) else (if v4 = 1 then (Option.bind (si_rd q2.2 12 v3) fun v6 => Option.bind (si_wr q2.2 12 v3 (v6 - 1)) fun S7 => f_X9_undo_h148 F S7) else (if v4 = 2 then (Option.bind (si_wr q2.2 11 v3 (-1)) fun S8 => f_X9_undo_h148 F S8) else (Option.bind (si_rd q2.2 24 q2.1) fun v9 => Option.bind (si_rd q2.2 25 q2.1) fun v10 => Option.bind (si_rd q2.2 26 q2.1) fun v11 => Option.bind (f_X8_put F v3 v9 v10 v11 q2.2) fun S12 => Option.bind (si_rd S12 20 v3) fun v13 => Option.bind (si_wr S12 20 v3 (v13 - 1)) fun S14 => f_X9_undo_h148 F S14))))
def f_X9_undoDepth (F : Nat) (S : si_St) : Option (Int32 × si_St) :=
  some ((S.1 21 0), S)
def f_X9_saveSnapshot_h9 (F : Nat) (S : si_St) : Option (Int32 × si_St) :=
  Option.bind (si_bz 0) fun v1 => some (v1, S)
def f_X9_saveSnapshot (F : Nat) (x1 : Int32) (S : si_St) : Option (Int32 × si_St) :=
  if x1 < 0 then (f_X9_saveSnapshot_h9 F S) else (if x1 < 2 then (Option.bind (f_X9_slotAt F x1 S) fun q2 => if ¬ si_kd q2.1 = 4 then none else Option.bind (f_X4_store F q2.1 q2.2) fun S3 => Option.bind (si_bz 1) fun v4 => some (v4, S3)) else (f_X9_saveSnapshot_h9 F S))
def f_X9_restoreSnapshot_h20 (F : Nat) (S : si_St) : Option (Int32 × si_St) :=
  Option.bind (si_bz 0) fun v1 => some (v1, S)
def f_X9_restoreSnapshot (F : Nat) (x1 : Int32) (S : si_St) : Option (Int32 × si_St) :=
  if x1 < 0 then (f_X9_restoreSnapshot_h20 F S) else (if 2 ≤ x1 then (f_X9_restoreSnapshot_h20 F S) else (Option.bind (f_X9_slotAt F x1 S) fun q2 => if ¬ si_kd q2.1 = 4 then none else if (q2.2.1 q2.1 2) = 0 then (f_X9_restoreSnapshot_h20 F q2.2) else (Option.bind (f_X9_slotAt F x1 q2.2) fun q3 => if ¬ si_kd q3.1 = 4 then none else Option.bind (f_X7_copyFrom F 7 (q3.1 + 1) q3.2) fun S4 => Option.bind (f_X9_slotAt F x1 S4) fun q5 => if ¬ si_kd q5.1 = 4 then none else Option.bind (f_X8_copyFrom F 16 (q5.1 + 10) q5.2) fun S6 => Option.bind (f_X0_clear F S6) fun S7 => Option.bind (si_bz 1) fun v8 => some (v8, S7))))
abbrev rm_X9_sealState : Room := { frames := 3, cells := 0, slots := 0, locals := 72 }
set_option maxHeartbeats 4000000 in
set_option maxRecDepth 100000 in
theorem c_X9_sealState (l : Launch) (E : si_Ev) (F : Nat) (x1 : Int32) (x2 : Int32) (S : si_St) (o : Int32 × si_St) (hf : f_X9_sealState F x1 x2 S = some o) : si_Mi l E yX9_sealState cX9_sealState 3 (some .int) rm_X9_sealState [.ref (E.2.1 0), .int x1, .int x2] S o := by
  refine si_ofWi (plainFor_of_name (by decide +kernel)) (Nat.le_of_ble_eq_true rfl) ?_
  intro p e s m args below meth c ls Q A X hw hA hl hret
  have hl : lv_has ls 3 [(0, .ref (E.2.1 0)), (1, .int x1), (2, .int x2)] := hl
  have B15 : ∀ (S : si_St) (H : Heap) (locs : List Loc) (ls : Array Slot) , f_X9_sealState_h15 F S = some o → si_Ws E A s.heap S H locs → lv_has ls 3 [] → W p l e rm_X9_sealState s m args below meth c H locs 0 0 Q (F0 m 15 ls []) := by
    intro   S H locs ls  hf hw hl
    unfold f_X9_sealState_h15 at hf
    refine lv_iconst (v := (-1)) X.1 X.2.1 dX9_sealState_15 (by decide) ?_
    exact hret _ _ _ _ _ _ hf hw dX9_sealState_16
  unfold f_X9_sealState at hf
  refine lv_aload_n X.1 X.2.1 dX9_sealState_0 rfl (lv_at hl 0 rfl) ?_
  refine lv_iload_n X.1 X.2.1 dX9_sealState_1 rfl (lv_at hl 1 rfl) ?_
  obtain ⟨q1, eq1, hf⟩ := si_ob hf
  refine si_cVi [.int x1] cal_X9_hasScale gm_RX9_125 X hw hA hl.1 (c_X9_hasScale l E F x1 S q1 eq1) si_cl9 rfl ⟨⟨rfl, rfl⟩, Nat.le_of_ble_eq_true rfl, Nat.le_of_ble_eq_true rfl⟩ rfl rfl (Nat.le_of_ble_eq_true rfl) ⟨Nat.zero_le _, Nat.zero_le _⟩ dX9_sealState_2 (fun H locs hw => ?_)
  refine lv_if_eq (tgt := 15) X.1 X.2.1 dX9_sealState_5 (by decide) (fun c5 => ?_) (fun c5 => ?_)
  · have hf := si_ip c5 hf
    exact B15 _ _ _ _ hf hw (lv_sub hl [] rfl)
  · have hf := si_in c5 hf
    refine lv_iload_n X.1 X.2.1 dX9_sealState_8 rfl (lv_at hl 2 rfl) ?_
    obtain ⟨q2, eq2, hf⟩ := si_ob hf
    refine si_cSi [.int x2] cal_X9_isDay gm_RX9_165 X hw hA hl.1 (c_X9_isDay l E F x2 q1.2 q2 eq2) ⟨⟨rfl, rfl⟩, Nat.le_of_ble_eq_true rfl, Nat.le_of_ble_eq_true rfl⟩ rfl rfl (Nat.le_of_ble_eq_true rfl) ⟨Nat.zero_le _, Nat.zero_le _⟩ dX9_sealState_9 (fun H locs hw => ?_)
    refine lv_if_ne (tgt := 17) X.1 X.2.1 dX9_sealState_12 (by decide) (fun c12 => ?_) (fun c12 => ?_)
    · have hf := si_in c12 hf
      refine lv_aload_n X.1 X.2.1 dX9_sealState_17 rfl (lv_at hl 0 rfl) ?_
      refine si_getR (k' := 57) (d := 57) X hw si_cl9 7 (by decide) gf_RX9_57 rfl rfl rfl (by decide) rfl dX9_sealState_18 ?_
      refine lv_aload_n X.1 X.2.1 dX9_sealState_21 rfl (lv_at hl 0 rfl) ?_
      obtain ⟨k93, ek93, hf⟩ := si_ob hf
      have hk93 := (si_mk_inv ek93).1
      refine si_gtM (d := 0) X hw si_cl9 9 (by decide) gf_RX9_71 rfl rfl rfl ek93 dX9_sealState_22 ?_
      refine lv_aload_n X.1 X.2.1 dX9_sealState_25 rfl (lv_at hl 0 rfl) ?_
      refine si_getR (k' := 7) (d := 7) X hw si_cl9 2 (by decide) gf_RX9_26 rfl rfl rfl (by decide) rfl dX9_sealState_26 ?_
      refine lv_iload_n X.1 X.2.1 dX9_sealState_29 rfl (lv_at hl 2 rfl) ?_
      obtain ⟨S4, eS4, hf⟩ := si_ob hf
      refine si_cVv [.ref (E.2.1 k93), .ref (E.2.1 7), .int x2] cal_X6_take gm_RX9_241 X hw hA hl.1 (c_X6_take l E F k93 hk93 x2 q2.2 S4 eS4) si_cl6 rfl ⟨⟨rfl, rfl⟩, Nat.le_of_ble_eq_true rfl, Nat.le_of_ble_eq_true rfl⟩ rfl rfl (Nat.le_of_ble_eq_true rfl) ⟨Nat.zero_le _, Nat.zero_le _⟩ dX9_sealState_30 (fun H locs hw => ?_)
      refine lv_aload_n X.1 X.2.1 dX9_sealState_33 rfl (lv_at hl 0 rfl) ?_
      refine si_getR (k' := 57) (d := 57) X hw si_cl9 7 (by decide) gf_RX9_57 rfl rfl rfl (by decide) rfl dX9_sealState_34 ?_
      refine si_getR (k' := 58) (d := 1) X hw si_cl6 0 (by decide) gf_RX9_245 rfl rfl rfl (by decide) rfl dX9_sealState_37 ?_
      refine lv_iload_n X.1 X.2.1 dX9_sealState_40 rfl (lv_at hl 1 rfl) ?_
      obtain ⟨v5, ev5, hf⟩ := si_ob hf
      refine si_iald X hw rfl ev5 dX9_sealState_41 ?_
      exact hret _ _ _ _ _ _ hf hw dX9_sealState_42
    · have hf := si_ip c12 hf
      exact B15 _ _ _ _ hf hw (lv_sub hl [] rfl)
abbrev rm_X9_expiryDay : Room := { frames := 3, cells := 0, slots := 0, locals := 72 }
set_option maxHeartbeats 4000000 in
set_option maxRecDepth 100000 in
theorem c_X9_expiryDay (l : Launch) (E : si_Ev) (F : Nat) (x1 : Int32) (x2 : Int32) (S : si_St) (o : Int32 × si_St) (hf : f_X9_expiryDay F x1 x2 S = some o) : si_Mi l E yX9_expiryDay cX9_expiryDay 3 (some .int) rm_X9_expiryDay [.ref (E.2.1 0), .int x1, .int x2] S o := by
  refine si_ofWi (plainFor_of_name (by decide +kernel)) (Nat.le_of_ble_eq_true rfl) ?_
  intro p e s m args below meth c ls Q A X hw hA hl hret
  have hl : lv_has ls 3 [(0, .ref (E.2.1 0)), (1, .int x1), (2, .int x2)] := hl
  have B15 : ∀ (S : si_St) (H : Heap) (locs : List Loc) (ls : Array Slot) , f_X9_expiryDay_h15 F S = some o → si_Ws E A s.heap S H locs → lv_has ls 3 [] → W p l e rm_X9_expiryDay s m args below meth c H locs 0 0 Q (F0 m 15 ls []) := by
    intro   S H locs ls  hf hw hl
    unfold f_X9_expiryDay_h15 at hf
    refine lv_iconst (v := (-1)) X.1 X.2.1 dX9_expiryDay_15 (by decide) ?_
    exact hret _ _ _ _ _ _ hf hw dX9_expiryDay_16
  have B64 : ∀ (t0 : Int32) (S : si_St) (H : Heap) (locs : List Loc) (ls : Array Slot) , f_X9_expiryDay_h64 F t0 S = some o → si_Ws E A s.heap S H locs → lv_has ls 3 [] → W p l e rm_X9_expiryDay s m args below meth c H locs 0 0 Q (F0 m 64 ls [.int t0]) := by
    intro t0  S H locs ls  hf hw hl
    unfold f_X9_expiryDay_h64 at hf
    exact hret _ _ _ _ _ _ hf hw dX9_expiryDay_64
  unfold f_X9_expiryDay at hf
  refine lv_aload_n X.1 X.2.1 dX9_expiryDay_0 rfl (lv_at hl 0 rfl) ?_
  refine lv_iload_n X.1 X.2.1 dX9_expiryDay_1 rfl (lv_at hl 1 rfl) ?_
  obtain ⟨q1, eq1, hf⟩ := si_ob hf
  refine si_cVi [.int x1] cal_X9_hasScale gm_RX9_125 X hw hA hl.1 (c_X9_hasScale l E F x1 S q1 eq1) si_cl9 rfl ⟨⟨rfl, rfl⟩, Nat.le_of_ble_eq_true rfl, Nat.le_of_ble_eq_true rfl⟩ rfl rfl (Nat.le_of_ble_eq_true rfl) ⟨Nat.zero_le _, Nat.zero_le _⟩ dX9_expiryDay_2 (fun H locs hw => ?_)
  refine lv_if_eq (tgt := 15) X.1 X.2.1 dX9_expiryDay_5 (by decide) (fun c5 => ?_) (fun c5 => ?_)
  · have hf := si_ip c5 hf
    exact B15 _ _ _ _ hf hw (lv_sub hl [] rfl)
  · have hf := si_in c5 hf
    refine lv_iload_n X.1 X.2.1 dX9_expiryDay_8 rfl (lv_at hl 2 rfl) ?_
    obtain ⟨q2, eq2, hf⟩ := si_ob hf
    refine si_cSi [.int x2] cal_X9_isDay gm_RX9_165 X hw hA hl.1 (c_X9_isDay l E F x2 q1.2 q2 eq2) ⟨⟨rfl, rfl⟩, Nat.le_of_ble_eq_true rfl, Nat.le_of_ble_eq_true rfl⟩ rfl rfl (Nat.le_of_ble_eq_true rfl) ⟨Nat.zero_le _, Nat.zero_le _⟩ dX9_expiryDay_9 (fun H locs hw => ?_)
    refine lv_if_ne (tgt := 17) X.1 X.2.1 dX9_expiryDay_12 (by decide) (fun c12 => ?_) (fun c12 => ?_)
    · have hf := si_in c12 hf
      refine lv_aload_n X.1 X.2.1 dX9_expiryDay_17 rfl (lv_at hl 0 rfl) ?_
      refine si_getR (k' := 57) (d := 57) X hw si_cl9 7 (by decide) gf_RX9_57 rfl rfl rfl (by decide) rfl dX9_expiryDay_18 ?_
      refine lv_aload_n X.1 X.2.1 dX9_expiryDay_21 rfl (lv_at hl 0 rfl) ?_
      obtain ⟨k93, ek93, hf⟩ := si_ob hf
      have hk93 := (si_mk_inv ek93).1
      refine si_gtM (d := 0) X hw si_cl9 9 (by decide) gf_RX9_71 rfl rfl rfl ek93 dX9_expiryDay_22 ?_
      refine lv_aload_n X.1 X.2.1 dX9_expiryDay_25 rfl (lv_at hl 0 rfl) ?_
      refine si_getR (k' := 7) (d := 7) X hw si_cl9 2 (by decide) gf_RX9_26 rfl rfl rfl (by decide) rfl dX9_expiryDay_26 ?_
      refine lv_iload_n X.1 X.2.1 dX9_expiryDay_29 rfl (lv_at hl 2 rfl) ?_
      obtain ⟨S4, eS4, hf⟩ := si_ob hf
      refine si_cVv [.ref (E.2.1 k93), .ref (E.2.1 7), .int x2] cal_X6_take gm_RX9_241 X hw hA hl.1 (c_X6_take l E F k93 hk93 x2 q2.2 S4 eS4) si_cl6 rfl ⟨⟨rfl, rfl⟩, Nat.le_of_ble_eq_true rfl, Nat.le_of_ble_eq_true rfl⟩ rfl rfl (Nat.le_of_ble_eq_true rfl) ⟨Nat.zero_le _, Nat.zero_le _⟩ dX9_expiryDay_30 (fun H locs hw => ?_)
      refine lv_aload_n X.1 X.2.1 dX9_expiryDay_33 rfl (lv_at hl 0 rfl) ?_
      refine si_getR (k' := 57) (d := 57) X hw si_cl9 7 (by decide) gf_RX9_57 rfl rfl rfl (by decide) rfl dX9_expiryDay_34 ?_
      refine si_getR (k' := 58) (d := 1) X hw si_cl6 0 (by decide) gf_RX9_245 rfl rfl rfl (by decide) rfl dX9_expiryDay_37 ?_
      refine lv_iload_n X.1 X.2.1 dX9_expiryDay_40 rfl (lv_at hl 1 rfl) ?_
      obtain ⟨v5, ev5, hf⟩ := si_ob hf
      refine si_iald X hw rfl ev5 dX9_expiryDay_41 ?_
      refine lv_iconst (v := 1) X.1 X.2.1 dX9_expiryDay_42 (by decide) ?_
      refine lv_icmp_ne (tgt := 62) X.1 X.2.1 dX9_expiryDay_43 (by decide) (fun c43 => ?_) (fun c43 => ?_)
      · have hf := si_in c43 hf
        refine lv_bipush (v := (-2)) X.1 X.2.1 dX9_expiryDay_62 (by decide) ?_
        exact B64 _ _ _ _ _ hf hw (lv_sub hl [] rfl)
      · have hf := si_ip c43 hf
        refine lv_aload_n X.1 X.2.1 dX9_expiryDay_46 rfl (lv_at hl 0 rfl) ?_
        refine si_getR (k' := 57) (d := 57) X hw si_cl9 7 (by decide) gf_RX9_57 rfl rfl rfl (by decide) rfl dX9_expiryDay_47 ?_
        refine si_getR (k' := 59) (d := 2) X hw si_cl6 1 (by decide) gf_RX9_248 rfl rfl rfl (by decide) rfl dX9_expiryDay_50 ?_
        refine lv_iload_n X.1 X.2.1 dX9_expiryDay_53 rfl (lv_at hl 1 rfl) ?_
        obtain ⟨v6, ev6, hf⟩ := si_ob hf
        refine si_iald X hw rfl ev6 dX9_expiryDay_54 ?_
        refine lv_sipush (v := 360) X.1 X.2.1 dX9_expiryDay_55 (by decide) ?_
        refine lv_imul X.1 X.2.1 dX9_expiryDay_58 ?_
        refine lv_goto (tgt := 64) X.1 X.2.1 dX9_expiryDay_59 (by decide) ?_
        exact B64 _ _ _ _ _ hf hw (lv_sub hl [] rfl)
    · have hf := si_ip c12 hf
      exact B15 _ _ _ _ hf hw (lv_sub hl [] rfl)
abbrev rm_X9_scalesWith : Room := { frames := 3, cells := 0, slots := 0, locals := 72 }
set_option maxHeartbeats 4000000 in
set_option maxRecDepth 100000 in
theorem c_X9_scalesWith (l : Launch) (E : si_Ev) (F : Nat) (x1 : Int32) (x2 : Int32) (S : si_St) (o : Int32 × si_St) (hf : f_X9_scalesWith F x1 x2 S = some o) : si_Mi l E yX9_scalesWith cX9_scalesWith 3 (some .int) rm_X9_scalesWith [.ref (E.2.1 0), .int x1, .int x2] S o := by
  refine si_ofWi (plainFor_of_name (by decide +kernel)) (Nat.le_of_ble_eq_true rfl) ?_
  intro p e s m args below meth c ls Q A X hw hA hl hret
  have hl : lv_has ls 3 [(0, .ref (E.2.1 0)), (1, .int x1), (2, .int x2)] := hl
  have B16 : ∀ (S : si_St) (H : Heap) (locs : List Loc) (ls : Array Slot) , f_X9_scalesWith_h16 F S = some o → si_Ws E A s.heap S H locs → lv_has ls 3 [] → W p l e rm_X9_scalesWith s m args below meth c H locs 0 0 Q (F0 m 16 ls []) := by
    intro   S H locs ls  hf hw hl
    unfold f_X9_scalesWith_h16 at hf
    refine lv_iconst (v := (-1)) X.1 X.2.1 dX9_scalesWith_16 (by decide) ?_
    exact hret _ _ _ _ _ _ hf hw dX9_scalesWith_17
  unfold f_X9_scalesWith at hf
  refine lv_iload_n X.1 X.2.1 dX9_scalesWith_0 rfl (lv_at hl 1 rfl) ?_
  refine lv_if_lt (tgt := 16) X.1 X.2.1 dX9_scalesWith_1 (by decide) (fun c1 => ?_) (fun c1 => ?_)
  · have hf := si_ip c1 hf
    exact B16 _ _ _ _ hf hw (lv_sub hl [] rfl)
  · have hf := si_in c1 hf
    refine lv_iload_n X.1 X.2.1 dX9_scalesWith_4 rfl (lv_at hl 1 rfl) ?_
    refine lv_iconst (v := 3) X.1 X.2.1 dX9_scalesWith_5 (by decide) ?_
    refine lv_icmp_gt (tgt := 16) X.1 X.2.1 dX9_scalesWith_6 (by decide) (fun c6 => ?_) (fun c6 => ?_)
    · have hf := si_ip c6 hf
      exact B16 _ _ _ _ hf hw (lv_sub hl [] rfl)
    · have hf := si_in c6 hf
      refine lv_iload_n X.1 X.2.1 dX9_scalesWith_9 rfl (lv_at hl 2 rfl) ?_
      obtain ⟨q1, eq1, hf⟩ := si_ob hf
      refine si_cSi [.int x2] cal_X9_isDay gm_RX9_165 X hw hA hl.1 (c_X9_isDay l E F x2 S q1 eq1) ⟨⟨rfl, rfl⟩, Nat.le_of_ble_eq_true rfl, Nat.le_of_ble_eq_true rfl⟩ rfl rfl (Nat.le_of_ble_eq_true rfl) ⟨Nat.zero_le _, Nat.zero_le _⟩ dX9_scalesWith_10 (fun H locs hw => ?_)
      refine lv_if_ne (tgt := 18) X.1 X.2.1 dX9_scalesWith_13 (by decide) (fun c13 => ?_) (fun c13 => ?_)
      · have hf := si_in c13 hf
        refine lv_aload_n X.1 X.2.1 dX9_scalesWith_18 rfl (lv_at hl 0 rfl) ?_
        refine si_getR (k' := 57) (d := 57) X hw si_cl9 7 (by decide) gf_RX9_57 rfl rfl rfl (by decide) rfl dX9_scalesWith_19 ?_
        refine lv_aload_n X.1 X.2.1 dX9_scalesWith_22 rfl (lv_at hl 0 rfl) ?_
        obtain ⟨k92, ek92, hf⟩ := si_ob hf
        have hk92 := (si_mk_inv ek92).1
        refine si_gtM (d := 0) X hw si_cl9 9 (by decide) gf_RX9_71 rfl rfl rfl ek92 dX9_scalesWith_23 ?_
        refine lv_aload_n X.1 X.2.1 dX9_scalesWith_26 rfl (lv_at hl 0 rfl) ?_
        refine si_getR (k' := 7) (d := 7) X hw si_cl9 2 (by decide) gf_RX9_26 rfl rfl rfl (by decide) rfl dX9_scalesWith_27 ?_
        refine lv_iload_n X.1 X.2.1 dX9_scalesWith_30 rfl (lv_at hl 2 rfl) ?_
        obtain ⟨S3, eS3, hf⟩ := si_ob hf
        refine si_cVv [.ref (E.2.1 k92), .ref (E.2.1 7), .int x2] cal_X6_take gm_RX9_241 X hw hA hl.1 (c_X6_take l E F k92 hk92 x2 q1.2 S3 eS3) si_cl6 rfl ⟨⟨rfl, rfl⟩, Nat.le_of_ble_eq_true rfl, Nat.le_of_ble_eq_true rfl⟩ rfl rfl (Nat.le_of_ble_eq_true rfl) ⟨Nat.zero_le _, Nat.zero_le _⟩ dX9_scalesWith_31 (fun H locs hw => ?_)
        refine lv_aload_n X.1 X.2.1 dX9_scalesWith_34 rfl (lv_at hl 0 rfl) ?_
        refine si_getR (k' := 57) (d := 57) X hw si_cl9 7 (by decide) gf_RX9_57 rfl rfl rfl (by decide) rfl dX9_scalesWith_35 ?_
        refine lv_iload_n X.1 X.2.1 dX9_scalesWith_38 rfl (lv_at hl 1 rfl) ?_
        obtain ⟨q4, eq4, hf⟩ := si_ob hf
        refine si_cVi [.int x1] cal_X6_scalesIn gm_RX9_251 X hw hA hl.1 (c_X6_scalesIn l E F x1 S3 q4 eq4) si_cl6 rfl ⟨⟨rfl, rfl⟩, Nat.le_of_ble_eq_true rfl, Nat.le_of_ble_eq_true rfl⟩ rfl rfl (Nat.le_of_ble_eq_true rfl) ⟨Nat.zero_le _, Nat.zero_le _⟩ dX9_scalesWith_39 (fun H locs hw => ?_)
        exact hret _ _ _ _ _ _ hf hw dX9_scalesWith_42
      · have hf := si_ip c13 hf
        exact B16 _ _ _ _ hf hw (lv_sub hl [] rfl)
abbrev rm_X9_risk : Room := { frames := 3, cells := 0, slots := 0, locals := 72 }
set_option maxHeartbeats 4000000 in
set_option maxRecDepth 100000 in
theorem c_X9_risk (l : Launch) (E : si_Ev) (F : Nat) (x1 : Int32) (x2 : Int32) (S : si_St) (o : Int32 × si_St) (hf : f_X9_risk F x1 x2 S = some o) : si_Mi l E yX9_risk cX9_risk 3 (some .int) rm_X9_risk [.ref (E.2.1 0), .int x1, .int x2] S o := by
  refine si_ofWi (plainFor_of_name (by decide +kernel)) (Nat.le_of_ble_eq_true rfl) ?_
  intro p e s m args below meth c ls Q A X hw hA hl hret
  have hl : lv_has ls 3 [(0, .ref (E.2.1 0)), (1, .int x1), (2, .int x2)] := hl
  have B15 : ∀ (S : si_St) (H : Heap) (locs : List Loc) (ls : Array Slot) , f_X9_risk_h15 F S = some o → si_Ws E A s.heap S H locs → lv_has ls 3 [] → W p l e rm_X9_risk s m args below meth c H locs 0 0 Q (F0 m 15 ls []) := by
    intro   S H locs ls  hf hw hl
    unfold f_X9_risk_h15 at hf
    refine lv_iconst (v := (-1)) X.1 X.2.1 dX9_risk_15 (by decide) ?_
    exact hret _ _ _ _ _ _ hf hw dX9_risk_16
  unfold f_X9_risk at hf
  refine lv_aload_n X.1 X.2.1 dX9_risk_0 rfl (lv_at hl 0 rfl) ?_
  refine lv_iload_n X.1 X.2.1 dX9_risk_1 rfl (lv_at hl 1 rfl) ?_
  obtain ⟨q1, eq1, hf⟩ := si_ob hf
  refine si_cVi [.int x1] cal_X9_hasScale gm_RX9_125 X hw hA hl.1 (c_X9_hasScale l E F x1 S q1 eq1) si_cl9 rfl ⟨⟨rfl, rfl⟩, Nat.le_of_ble_eq_true rfl, Nat.le_of_ble_eq_true rfl⟩ rfl rfl (Nat.le_of_ble_eq_true rfl) ⟨Nat.zero_le _, Nat.zero_le _⟩ dX9_risk_2 (fun H locs hw => ?_)
  refine lv_if_eq (tgt := 15) X.1 X.2.1 dX9_risk_5 (by decide) (fun c5 => ?_) (fun c5 => ?_)
  · have hf := si_ip c5 hf
    exact B15 _ _ _ _ hf hw (lv_sub hl [] rfl)
  · have hf := si_in c5 hf
    refine lv_iload_n X.1 X.2.1 dX9_risk_8 rfl (lv_at hl 2 rfl) ?_
    obtain ⟨q2, eq2, hf⟩ := si_ob hf
    refine si_cSi [.int x2] cal_X9_isDay gm_RX9_165 X hw hA hl.1 (c_X9_isDay l E F x2 q1.2 q2 eq2) ⟨⟨rfl, rfl⟩, Nat.le_of_ble_eq_true rfl, Nat.le_of_ble_eq_true rfl⟩ rfl rfl (Nat.le_of_ble_eq_true rfl) ⟨Nat.zero_le _, Nat.zero_le _⟩ dX9_risk_9 (fun H locs hw => ?_)
    refine lv_if_ne (tgt := 17) X.1 X.2.1 dX9_risk_12 (by decide) (fun c12 => ?_) (fun c12 => ?_)
    · have hf := si_in c12 hf
      refine lv_aload_n X.1 X.2.1 dX9_risk_17 rfl (lv_at hl 0 rfl) ?_
      refine si_getR (k' := 57) (d := 57) X hw si_cl9 7 (by decide) gf_RX9_57 rfl rfl rfl (by decide) rfl dX9_risk_18 ?_
      refine lv_aload_n X.1 X.2.1 dX9_risk_21 rfl (lv_at hl 0 rfl) ?_
      obtain ⟨k93, ek93, hf⟩ := si_ob hf
      have hk93 := (si_mk_inv ek93).1
      refine si_gtM (d := 0) X hw si_cl9 9 (by decide) gf_RX9_71 rfl rfl rfl ek93 dX9_risk_22 ?_
      refine lv_aload_n X.1 X.2.1 dX9_risk_25 rfl (lv_at hl 0 rfl) ?_
      refine si_getR (k' := 7) (d := 7) X hw si_cl9 2 (by decide) gf_RX9_26 rfl rfl rfl (by decide) rfl dX9_risk_26 ?_
      refine lv_iload_n X.1 X.2.1 dX9_risk_29 rfl (lv_at hl 2 rfl) ?_
      obtain ⟨S4, eS4, hf⟩ := si_ob hf
      refine si_cVv [.ref (E.2.1 k93), .ref (E.2.1 7), .int x2] cal_X6_take gm_RX9_241 X hw hA hl.1 (c_X6_take l E F k93 hk93 x2 q2.2 S4 eS4) si_cl6 rfl ⟨⟨rfl, rfl⟩, Nat.le_of_ble_eq_true rfl, Nat.le_of_ble_eq_true rfl⟩ rfl rfl (Nat.le_of_ble_eq_true rfl) ⟨Nat.zero_le _, Nat.zero_le _⟩ dX9_risk_30 (fun H locs hw => ?_)
      refine lv_aload_n X.1 X.2.1 dX9_risk_33 rfl (lv_at hl 0 rfl) ?_
      refine si_getR (k' := 57) (d := 57) X hw si_cl9 7 (by decide) gf_RX9_57 rfl rfl rfl (by decide) rfl dX9_risk_34 ?_
      refine si_getR (k' := 60) (d := 3) X hw si_cl6 2 (by decide) gf_RX9_254 rfl rfl rfl (by decide) rfl dX9_risk_37 ?_
      refine lv_iload_n X.1 X.2.1 dX9_risk_40 rfl (lv_at hl 1 rfl) ?_
      obtain ⟨v5, ev5, hf⟩ := si_ob hf
      refine si_iald X hw rfl ev5 dX9_risk_41 ?_
      exact hret _ _ _ _ _ _ hf hw dX9_risk_42
    · have hf := si_ip c12 hf
      exact B15 _ _ _ _ hf hw (lv_sub hl [] rfl)
abbrev rm_X9_riskiestTrader : Room := { frames := 3, cells := 0, slots := 0, locals := 72 }
set_option maxHeartbeats 4000000 in
set_option maxRecDepth 100000 in
theorem c_X9_riskiestTrader (l : Launch) (E : si_Ev) (F : Nat) (x1 : Int32) (S : si_St) (o : Int32 × si_St) (hf : f_X9_riskiestTrader F x1 S = some o) : si_Mi l E yX9_riskiestTrader cX9_riskiestTrader 2 (some .int) rm_X9_riskiestTrader [.ref (E.2.1 0), .int x1] S o := by
  refine si_ofWi (plainFor_of_name (by decide +kernel)) (Nat.le_of_ble_eq_true rfl) ?_
  intro p e s m args below meth c ls Q A X hw hA hl hret
  have hl : lv_has ls 2 [(0, .ref (E.2.1 0)), (1, .int x1)] := hl
  unfold f_X9_riskiestTrader at hf
  refine lv_iload_n X.1 X.2.1 dX9_riskiestTrader_0 rfl (lv_at hl 1 rfl) ?_
  obtain ⟨q1, eq1, hf⟩ := si_ob hf
  refine si_cSi [.int x1] cal_X9_isDay gm_RX9_165 X hw hA hl.1 (c_X9_isDay l E F x1 S q1 eq1) ⟨⟨rfl, rfl⟩, Nat.le_of_ble_eq_true rfl, Nat.le_of_ble_eq_true rfl⟩ rfl rfl (Nat.le_of_ble_eq_true rfl) ⟨Nat.zero_le _, Nat.zero_le _⟩ dX9_riskiestTrader_1 (fun H locs hw => ?_)
  refine lv_if_ne (tgt := 9) X.1 X.2.1 dX9_riskiestTrader_4 (by decide) (fun c4 => ?_) (fun c4 => ?_)
  · have hf := si_in c4 hf
    refine lv_aload_n X.1 X.2.1 dX9_riskiestTrader_9 rfl (lv_at hl 0 rfl) ?_
    obtain ⟨k92, ek92, hf⟩ := si_ob hf
    have hk92 := (si_mk_inv ek92).1
    refine si_gtM (d := 0) X hw si_cl9 9 (by decide) gf_RX9_71 rfl rfl rfl ek92 dX9_riskiestTrader_10 ?_
    refine si_getI X hw si_cl2 0 (by decide) gf_RX9_113 rfl hk92 rfl dX9_riskiestTrader_13 ?_
    refine lv_if_ne (tgt := 22) X.1 X.2.1 dX9_riskiestTrader_16 (by decide) (fun c16 => ?_) (fun c16 => ?_)
    · have hf := si_in c16 hf
      refine lv_aload_n X.1 X.2.1 dX9_riskiestTrader_22 rfl (lv_at hl 0 rfl) ?_
      refine si_getR (k' := 57) (d := 57) X hw si_cl9 7 (by decide) gf_RX9_57 rfl rfl rfl (by decide) rfl dX9_riskiestTrader_23 ?_
      refine lv_aload_n X.1 X.2.1 dX9_riskiestTrader_26 rfl (lv_at hl 0 rfl) ?_
      obtain ⟨k93, ek93, hf⟩ := si_ob hf
      have hk93 := (si_mk_inv ek93).1
      refine si_gtM (d := 0) X hw si_cl9 9 (by decide) gf_RX9_71 rfl rfl rfl ek93 dX9_riskiestTrader_27 ?_
      refine lv_aload_n X.1 X.2.1 dX9_riskiestTrader_30 rfl (lv_at hl 0 rfl) ?_
      refine si_getR (k' := 7) (d := 7) X hw si_cl9 2 (by decide) gf_RX9_26 rfl rfl rfl (by decide) rfl dX9_riskiestTrader_31 ?_
      refine lv_iload_n X.1 X.2.1 dX9_riskiestTrader_34 rfl (lv_at hl 1 rfl) ?_
      obtain ⟨S4, eS4, hf⟩ := si_ob hf
      refine si_cVv [.ref (E.2.1 k93), .ref (E.2.1 7), .int x1] cal_X6_take gm_RX9_241 X hw hA hl.1 (c_X6_take l E F k93 hk93 x1 q1.2 S4 eS4) si_cl6 rfl ⟨⟨rfl, rfl⟩, Nat.le_of_ble_eq_true rfl, Nat.le_of_ble_eq_true rfl⟩ rfl rfl (Nat.le_of_ble_eq_true rfl) ⟨Nat.zero_le _, Nat.zero_le _⟩ dX9_riskiestTrader_35 (fun H locs hw => ?_)
      refine lv_aload_n X.1 X.2.1 dX9_riskiestTrader_38 rfl (lv_at hl 0 rfl) ?_
      refine si_getR (k' := 57) (d := 57) X hw si_cl9 7 (by decide) gf_RX9_57 rfl rfl rfl (by decide) rfl dX9_riskiestTrader_39 ?_
      refine lv_aload_n X.1 X.2.1 dX9_riskiestTrader_42 rfl (lv_at hl 0 rfl) ?_
      obtain ⟨k95, ek95, hf⟩ := si_ob hf
      have hk95 := (si_mk_inv ek95).1
      refine si_gtM (d := 0) X hw si_cl9 9 (by decide) gf_RX9_71 rfl rfl rfl ek95 dX9_riskiestTrader_43 ?_
      obtain ⟨q6, eq6, hf⟩ := si_ob hf
      refine si_cVi [.ref (E.2.1 k95)] cal_X6_traderAtMostRisk gm_RX9_257 X hw hA hl.1 (c_X6_traderAtMostRisk l E F k95 hk95 S4 q6 eq6) si_cl6 rfl ⟨⟨rfl, rfl⟩, Nat.le_of_ble_eq_true rfl, Nat.le_of_ble_eq_true rfl⟩ rfl rfl (Nat.le_of_ble_eq_true rfl) ⟨Nat.zero_le _, Nat.zero_le _⟩ dX9_riskiestTrader_46 (fun H locs hw => ?_)
      exact hret _ _ _ _ _ _ hf hw dX9_riskiestTrader_49
    · have hf := si_ip c16 hf
      refine lv_bipush (v := (-2)) X.1 X.2.1 dX9_riskiestTrader_19 (by decide) ?_
      exact hret _ _ _ _ _ _ hf hw dX9_riskiestTrader_21
  · have hf := si_ip c4 hf
    refine lv_iconst (v := (-1)) X.1 X.2.1 dX9_riskiestTrader_7 (by decide) ?_
    exact hret _ _ _ _ _ _ hf hw dX9_riskiestTrader_8
abbrev rm_X9_lot : Room := { frames := 3, cells := 0, slots := 0, locals := 72 }
set_option maxHeartbeats 4000000 in
set_option maxRecDepth 100000 in
theorem c_X9_lot (l : Launch) (E : si_Ev) (F : Nat) (x1 : Int32) (x2 : Int32) (x3 : Int32) (S : si_St) (o : Int32 × si_St) (hf : f_X9_lot F x1 x2 x3 S = some o) : si_Mi l E yX9_lot cX9_lot 4 (some .int) rm_X9_lot [.ref (E.2.1 0), .int x1, .int x2, .int x3] S o := by
  refine si_ofWi (plainFor_of_name (by decide +kernel)) (Nat.le_of_ble_eq_true rfl) ?_
  intro p e s m args below meth c ls Q A X hw hA hl hret
  have hl : lv_has ls 4 [(0, .ref (E.2.1 0)), (1, .int x1), (2, .int x2), (3, .int x3)] := hl
  have B22 : ∀ (S : si_St) (H : Heap) (locs : List Loc) (ls : Array Slot) , f_X9_lot_h22 F S = some o → si_Ws E A s.heap S H locs → lv_has ls 4 [] → W p l e rm_X9_lot s m args below meth c H locs 0 0 Q (F0 m 22 ls []) := by
    intro   S H locs ls  hf hw hl
    unfold f_X9_lot_h22 at hf
    refine lv_iconst (v := (-1)) X.1 X.2.1 dX9_lot_22 (by decide) ?_
    exact hret _ _ _ _ _ _ hf hw dX9_lot_23
  unfold f_X9_lot at hf
  refine lv_iload_n X.1 X.2.1 dX9_lot_0 rfl (lv_at hl 1 rfl) ?_
  refine lv_if_lt (tgt := 22) X.1 X.2.1 dX9_lot_1 (by decide) (fun c1 => ?_) (fun c1 => ?_)
  · have hf := si_ip c1 hf
    exact B22 _ _ _ _ hf hw (lv_sub hl [] rfl)
  · have hf := si_in c1 hf
    refine lv_iload_n X.1 X.2.1 dX9_lot_4 rfl (lv_at hl 1 rfl) ?_
    refine lv_ldcw (v := 999999) X.1 X.2.1 X.2.2.2.1 (si_wd X gk_RX9_261) dX9_lot_5 ?_
    refine lv_icmp_gt (tgt := 22) X.1 X.2.1 dX9_lot_8 (by decide) (fun c8 => ?_) (fun c8 => ?_)
    · have hf := si_ip c8 hf
      exact B22 _ _ _ _ hf hw (lv_sub hl [] rfl)
    · have hf := si_in c8 hf
      refine lv_iload_n X.1 X.2.1 dX9_lot_11 rfl (lv_at hl 2 rfl) ?_
      refine lv_if_lt (tgt := 22) X.1 X.2.1 dX9_lot_12 (by decide) (fun c12 => ?_) (fun c12 => ?_)
      · have hf := si_ip c12 hf
        exact B22 _ _ _ _ hf hw (lv_sub hl [] rfl)
      · have hf := si_in c12 hf
        refine lv_iload_n X.1 X.2.1 dX9_lot_15 rfl (lv_at hl 3 rfl) ?_
        obtain ⟨q1, eq1, hf⟩ := si_ob hf
        refine si_cSi [.int x3] cal_X9_isDay gm_RX9_165 X hw hA hl.1 (c_X9_isDay l E F x3 S q1 eq1) ⟨⟨rfl, rfl⟩, Nat.le_of_ble_eq_true rfl, Nat.le_of_ble_eq_true rfl⟩ rfl rfl (Nat.le_of_ble_eq_true rfl) ⟨Nat.zero_le _, Nat.zero_le _⟩ dX9_lot_16 (fun H locs hw => ?_)
        refine lv_if_ne (tgt := 24) X.1 X.2.1 dX9_lot_19 (by decide) (fun c19 => ?_) (fun c19 => ?_)
        · have hf := si_in c19 hf
          refine lv_iload_n X.1 X.2.1 dX9_lot_24 rfl (lv_at hl 2 rfl) ?_
          refine lv_aload_n X.1 X.2.1 dX9_lot_25 rfl (lv_at hl 0 rfl) ?_
          obtain ⟨k92, ek92, hf⟩ := si_ob hf
          have hk92 := (si_mk_inv ek92).1
          refine si_gtM (d := 0) X hw si_cl9 9 (by decide) gf_RX9_71 rfl rfl rfl ek92 dX9_lot_26 ?_
          refine si_getI X hw si_cl2 1 (by decide) gf_RX9_116 rfl hk92 rfl dX9_lot_29 ?_
          refine lv_icmp_lt (tgt := 38) X.1 X.2.1 dX9_lot_32 (by decide) (fun c32 => ?_) (fun c32 => ?_)
          · have hf := si_ip c32 hf
            refine lv_aload_n X.1 X.2.1 dX9_lot_38 rfl (lv_at hl 0 rfl) ?_
            refine si_getR (k' := 57) (d := 57) X hw si_cl9 7 (by decide) gf_RX9_57 rfl rfl rfl (by decide) rfl dX9_lot_39 ?_
            refine lv_aload_n X.1 X.2.1 dX9_lot_42 rfl (lv_at hl 0 rfl) ?_
            obtain ⟨k93, ek93, hf⟩ := si_ob hf
            have hk93 := (si_mk_inv ek93).1
            refine si_gtM (d := 0) X hw si_cl9 9 (by decide) gf_RX9_71 rfl rfl rfl ek93 dX9_lot_43 ?_
            refine lv_aload_n X.1 X.2.1 dX9_lot_46 rfl (lv_at hl 0 rfl) ?_
            refine si_getR (k' := 7) (d := 7) X hw si_cl9 2 (by decide) gf_RX9_26 rfl rfl rfl (by decide) rfl dX9_lot_47 ?_
            refine lv_iload_n X.1 X.2.1 dX9_lot_50 rfl (lv_at hl 3 rfl) ?_
            obtain ⟨S4, eS4, hf⟩ := si_ob hf
            refine si_cVv [.ref (E.2.1 k93), .ref (E.2.1 7), .int x3] cal_X6_take gm_RX9_241 X hw hA hl.1 (c_X6_take l E F k93 hk93 x3 q1.2 S4 eS4) si_cl6 rfl ⟨⟨rfl, rfl⟩, Nat.le_of_ble_eq_true rfl, Nat.le_of_ble_eq_true rfl⟩ rfl rfl (Nat.le_of_ble_eq_true rfl) ⟨Nat.zero_le _, Nat.zero_le _⟩ dX9_lot_51 (fun H locs hw => ?_)
            refine lv_aload_n X.1 X.2.1 dX9_lot_54 rfl (lv_at hl 0 rfl) ?_
            refine si_getR (k' := 57) (d := 57) X hw si_cl9 7 (by decide) gf_RX9_57 rfl rfl rfl (by decide) rfl dX9_lot_55 ?_
            refine lv_iload_n X.1 X.2.1 dX9_lot_58 rfl (lv_at hl 1 rfl) ?_
            refine lv_iload_n X.1 X.2.1 dX9_lot_59 rfl (lv_at hl 2 rfl) ?_
            obtain ⟨q5, eq5, hf⟩ := si_ob hf
            refine si_cVi [.int x1, .int x2] cal_X6_draw gm_RX9_262 X hw hA hl.1 (c_X6_draw l E F x1 x2 S4 q5 eq5) si_cl6 rfl ⟨⟨rfl, rfl⟩, Nat.le_of_ble_eq_true rfl, Nat.le_of_ble_eq_true rfl⟩ rfl rfl (Nat.le_of_ble_eq_true rfl) ⟨Nat.zero_le _, Nat.zero_le _⟩ dX9_lot_60 (fun H locs hw => ?_)
            exact hret _ _ _ _ _ _ hf hw dX9_lot_63
          · have hf := si_in c32 hf
            refine lv_bipush (v := (-2)) X.1 X.2.1 dX9_lot_35 (by decide) ?_
            exact hret _ _ _ _ _ _ hf hw dX9_lot_37
        · have hf := si_ip c19 hf
          exact B22 _ _ _ _ hf hw (lv_sub hl [] rfl)
abbrev rm_X9_weightCount : Room := { frames := 1, cells := 0, slots := 0, locals := 21 }
set_option maxHeartbeats 4000000 in
set_option maxRecDepth 100000 in
theorem c_X9_weightCount (l : Launch) (E : si_Ev) (F : Nat) (x1 : Int32) (S : si_St) (o : Int32 × si_St) (hf : f_X9_weightCount F x1 S = some o) : si_Mi l E yX9_weightCount cX9_weightCount 2 (some .int) rm_X9_weightCount [.ref (E.2.1 0), .int x1] S o := by
  refine si_ofWi (plainFor_of_name (by decide +kernel)) (Nat.le_of_ble_eq_true rfl) ?_
  intro p e s m args below meth c ls Q A X hw hA hl hret
  have hl : lv_has ls 2 [(0, .ref (E.2.1 0)), (1, .int x1)] := hl
  have B21 : ∀ (t0 : Int32) (S : si_St) (H : Heap) (locs : List Loc) (ls : Array Slot) , f_X9_weightCount_h21 F t0 S = some o → si_Ws E A s.heap S H locs → lv_has ls 2 [] → W p l e rm_X9_weightCount s m args below meth c H locs 0 0 Q (F0 m 21 ls [.int t0]) := by
    intro t0  S H locs ls  hf hw hl
    unfold f_X9_weightCount_h21 at hf
    exact hret _ _ _ _ _ _ hf hw dX9_weightCount_21
  unfold f_X9_weightCount at hf
  refine lv_aload_n X.1 X.2.1 dX9_weightCount_0 rfl (lv_at hl 0 rfl) ?_
  refine lv_iload_n X.1 X.2.1 dX9_weightCount_1 rfl (lv_at hl 1 rfl) ?_
  obtain ⟨q1, eq1, hf⟩ := si_ob hf
  refine si_cVi [.int x1] cal_X9_hasSet gm_RX9_265 X hw hA hl.1 (c_X9_hasSet l E F x1 S q1 eq1) si_cl9 rfl ⟨⟨rfl, rfl⟩, Nat.le_of_ble_eq_true rfl, Nat.le_of_ble_eq_true rfl⟩ rfl rfl (Nat.le_of_ble_eq_true rfl) ⟨Nat.zero_le _, Nat.zero_le _⟩ dX9_weightCount_2 (fun H locs hw => ?_)
  refine lv_if_eq (tgt := 20) X.1 X.2.1 dX9_weightCount_5 (by decide) (fun c5 => ?_) (fun c5 => ?_)
  · have hf := si_ip c5 hf
    refine lv_iconst (v := (-1)) X.1 X.2.1 dX9_weightCount_20 (by decide) ?_
    exact B21 _ _ _ _ _ hf hw (lv_sub hl [] rfl)
  · have hf := si_in c5 hf
    refine lv_aload_n X.1 X.2.1 dX9_weightCount_8 rfl (lv_at hl 0 rfl) ?_
    obtain ⟨k92, ek92, hf⟩ := si_ob hf
    have hk92 := (si_mk_inv ek92).1
    refine si_gtM (d := 0) X hw si_cl9 9 (by decide) gf_RX9_71 rfl rfl rfl ek92 dX9_weightCount_9 ?_
    refine si_getR (k' := (k92 + 6)) (d := 6) X hw si_cl2 9 (by decide) gf_RX9_268 rfl hk92 rfl (by decide) rfl dX9_weightCount_12 ?_
    refine lv_iload_n X.1 X.2.1 dX9_weightCount_15 rfl (lv_at hl 1 rfl) ?_
    obtain ⟨v3, ev3, hf⟩ := si_ob hf
    refine si_iald X hw (sk_2_6 hk92) ev3 dX9_weightCount_16 ?_
    refine lv_goto (tgt := 21) X.1 X.2.1 dX9_weightCount_17 (by decide) ?_
    exact B21 _ _ _ _ _ hf hw (lv_sub hl [] rfl)
abbrev rm_X9_weigh : Room := { frames := 3, cells := 0, slots := 0, locals := 67 }
set_option maxHeartbeats 4000000 in
set_option maxRecDepth 100000 in
theorem c_X9_weigh (l : Launch) (E : si_Ev) (F : Nat) (x1 : Int32) (x2 : Int32) (x3 : Int32) (x4 : Int32) (S : si_St) (o : Int32 × si_St) (hf : f_X9_weigh F x1 x2 x3 x4 S = some o) : si_Mi l E yX9_weigh cX9_weigh 9 (some .int) rm_X9_weigh [.ref (E.2.1 0), .int x1, .int x2, .int x3, .int x4] S o := by
  refine si_ofWi (plainFor_of_name (by decide +kernel)) (Nat.le_of_ble_eq_true rfl) ?_
  intro p e s m args below meth c ls Q A X hw hA hl hret
  have hl : lv_has ls 9 [(0, .ref (E.2.1 0)), (1, .int x1), (2, .int x2), (3, .int x3), (4, .int x4)] := hl
  have B25 : ∀ (S : si_St) (H : Heap) (locs : List Loc) (ls : Array Slot) , f_X9_weigh_h25 F S = some o → si_Ws E A s.heap S H locs → lv_has ls 9 [] → W p l e rm_X9_weigh s m args below meth c H locs 0 0 Q (F0 m 25 ls []) := by
    intro   S H locs ls  hf hw hl
    unfold f_X9_weigh_h25 at hf
    refine lv_iconst (v := (-1)) X.1 X.2.1 dX9_weigh_25 (by decide) ?_
    exact hret _ _ _ _ _ _ hf hw dX9_weigh_26
  have B38 : ∀ (S : si_St) (H : Heap) (locs : List Loc) (ls : Array Slot) , f_X9_weigh_h38 F S = some o → si_Ws E A s.heap S H locs → lv_has ls 9 [] → W p l e rm_X9_weigh s m args below meth c H locs 0 0 Q (F0 m 38 ls []) := by
    intro   S H locs ls  hf hw hl
    unfold f_X9_weigh_h38 at hf
    refine lv_iconst (v := (-1)) X.1 X.2.1 dX9_weigh_38 (by decide) ?_
    exact hret _ _ _ _ _ _ hf hw dX9_weigh_39
  have B94 : ∀ (x1 : Int32) (x5 : Int32) (x6 : Int32) (t0 : Int32) (S : si_St) (H : Heap) (locs : List Loc) (ls : Array Slot) , f_X9_weigh_h94 F x1 x5 x6 t0 S = some o → si_Ws E A s.heap S H locs → lv_has ls 9 [(0, .ref (E.2.1 0)), (1, .int x1), (5, .int x5), (6, .int x6)] → W p l e rm_X9_weigh s m args below meth c H locs 0 0 Q (F0 m 94 ls [.int t0]) := by
    intro x1 x5 x6 t0  S H locs ls  hf hw hl
    unfold f_X9_weigh_h94 at hf
    refine lv_istore (lv' := [(7, .int t0), (0, .ref (E.2.1 0)), (1, .int x1), (5, .int x5), (6, .int x6)]) X.1 X.2.1 dX9_weigh_94 hl (by decide) rfl (fun ls hl => ?_)
    refine lv_iload X.1 X.2.1 dX9_weigh_96 (lv_at hl 3 rfl) ?_
    obtain ⟨q1, eq1, hf⟩ := si_ob hf
    refine si_cSi [.int x5] cal_J6_bitCount_0f7a4 gm_RX9_287 X hw hA hl.1 (c_J6_bitCount_0f7a4 l E F x5 S q1 eq1) ⟨⟨rfl, rfl⟩, Nat.le_of_ble_eq_true rfl, Nat.le_of_ble_eq_true rfl⟩ rfl rfl (Nat.le_of_ble_eq_true rfl) ⟨Nat.zero_le _, Nat.zero_le _⟩ dX9_weigh_98 (fun H locs hw => ?_)
    refine lv_iload X.1 X.2.1 dX9_weigh_101 (lv_at hl 4 rfl) ?_
    obtain ⟨q2, eq2, hf⟩ := si_ob hf
    refine si_cSi [.int x6] cal_J6_bitCount_0f7a4 gm_RX9_287 X hw hA hl.1 (c_J6_bitCount_0f7a4 l E F x6 q1.2 q2 eq2) ⟨⟨rfl, rfl⟩, Nat.le_of_ble_eq_true rfl, Nat.le_of_ble_eq_true rfl⟩ rfl rfl (Nat.le_of_ble_eq_true rfl) ⟨Nat.zero_le _, Nat.zero_le _⟩ dX9_weigh_103 (fun H locs hw => ?_)
    refine lv_iadd X.1 X.2.1 dX9_weigh_106 ?_
    refine lv_iload X.1 X.2.1 dX9_weigh_107 (lv_at hl 0 rfl) ?_
    refine lv_iadd X.1 X.2.1 dX9_weigh_109 ?_
    obtain ⟨v3, ev3, hf⟩ := si_ob hf
    refine si_nmI ev3 ?_
    refine lv_istore (lv' := [(8, .int v3), (7, .int t0), (0, .ref (E.2.1 0)), (1, .int x1), (5, .int x5), (6, .int x6)]) X.1 X.2.1 dX9_weigh_110 hl (by decide) rfl (fun ls hl => ?_)
    refine lv_iload X.1 X.2.1 dX9_weigh_112 (lv_at hl 0 rfl) ?_
    refine lv_if_ne (tgt := 120) X.1 X.2.1 dX9_weigh_114 (by decide) (fun c114 => ?_) (fun c114 => ?_)
    · have hf := si_in c114 hf
      refine lv_aload_n X.1 X.2.1 dX9_weigh_120 rfl (lv_at hl 2 rfl) ?_
      refine si_getR (k' := 16) (d := 16) X hw si_cl9 3 (by decide) gf_RX9_33 rfl rfl rfl (by decide) rfl dX9_weigh_121 ?_
      refine si_getR (k' := 20) (d := 4) X hw si_cl8 3 (by decide) gf_RX9_292 rfl rfl rfl (by decide) rfl dX9_weigh_124 ?_
      refine lv_iload_n X.1 X.2.1 dX9_weigh_127 rfl (lv_at hl 3 rfl) ?_
      obtain ⟨v4, ev4, hf⟩ := si_ob hf
      refine si_iald X hw rfl ev4 dX9_weigh_128 ?_
      refine lv_bipush (v := 20) X.1 X.2.1 dX9_weigh_129 (by decide) ?_
      refine lv_icmp_lt (tgt := 137) X.1 X.2.1 dX9_weigh_131 (by decide) (fun c131 => ?_) (fun c131 => ?_)
      · have hf := si_ip c131 hf
        refine lv_aload_n X.1 X.2.1 dX9_weigh_137 rfl (lv_at hl 2 rfl) ?_
        refine si_getR (k' := 21) (d := 21) X hw si_cl9 4 (by decide) gf_RX9_40 rfl rfl rfl (by decide) rfl dX9_weigh_138 ?_
        refine lv_iload_n X.1 X.2.1 dX9_weigh_141 rfl (lv_at hl 3 rfl) ?_
        refine lv_aload_n X.1 X.2.1 dX9_weigh_142 rfl (lv_at hl 2 rfl) ?_
        refine si_getR (k' := 16) (d := 16) X hw si_cl9 3 (by decide) gf_RX9_33 rfl rfl rfl (by decide) rfl dX9_weigh_143 ?_
        obtain ⟨S5, eS5, hf⟩ := si_ob hf
        refine si_cVv [.int x1, .ref (E.2.1 16)] cal_X0_addWeighing gm_RX9_295 X hw hA hl.1 (c_X0_addWeighing l E F x1 q2.2 S5 eS5) si_cl0 rfl ⟨⟨rfl, rfl⟩, Nat.le_of_ble_eq_true rfl, Nat.le_of_ble_eq_true rfl⟩ rfl rfl (Nat.le_of_ble_eq_true rfl) ⟨Nat.zero_le _, Nat.zero_le _⟩ dX9_weigh_146 (fun H locs hw => ?_)
        refine lv_aload_n X.1 X.2.1 dX9_weigh_149 rfl (lv_at hl 2 rfl) ?_
        refine si_getR (k' := 16) (d := 16) X hw si_cl9 3 (by decide) gf_RX9_33 rfl rfl rfl (by decide) rfl dX9_weigh_150 ?_
        refine lv_iload_n X.1 X.2.1 dX9_weigh_153 rfl (lv_at hl 3 rfl) ?_
        refine lv_iload X.1 X.2.1 dX9_weigh_154 (lv_at hl 4 rfl) ?_
        refine lv_iload X.1 X.2.1 dX9_weigh_156 (lv_at hl 5 rfl) ?_
        refine lv_iload X.1 X.2.1 dX9_weigh_158 (lv_at hl 1 rfl) ?_
        obtain ⟨S6, eS6, hf⟩ := si_ob hf
        refine si_cVv [.int x1, .int x5, .int x6, .int t0] cal_X8_put gm_RX9_299 X hw hA hl.1 (c_X8_put l E F x1 x5 x6 t0 S5 S6 eS6) si_cl8 rfl ⟨⟨rfl, rfl⟩, Nat.le_of_ble_eq_true rfl, Nat.le_of_ble_eq_true rfl⟩ rfl rfl (Nat.le_of_ble_eq_true rfl) ⟨Nat.zero_le _, Nat.zero_le _⟩ dX9_weigh_160 (fun H locs hw => ?_)
        refine lv_aload_n X.1 X.2.1 dX9_weigh_163 rfl (lv_at hl 2 rfl) ?_
        refine si_getR (k' := 16) (d := 16) X hw si_cl9 3 (by decide) gf_RX9_33 rfl rfl rfl (by decide) rfl dX9_weigh_164 ?_
        refine si_getR (k' := 20) (d := 4) X hw si_cl8 3 (by decide) gf_RX9_292 rfl rfl rfl (by decide) rfl dX9_weigh_167 ?_
        refine lv_iload_n X.1 X.2.1 dX9_weigh_170 rfl (lv_at hl 3 rfl) ?_
        refine lv_dup2_11 X.1 X.2.1 dX9_weigh_171 rfl rfl ?_
        obtain ⟨v7, ev7, hf⟩ := si_ob hf
        refine si_iald X hw rfl ev7 dX9_weigh_172 ?_
        refine lv_iconst (v := 1) X.1 X.2.1 dX9_weigh_173 (by decide) ?_
        refine lv_iadd X.1 X.2.1 dX9_weigh_174 ?_
        obtain ⟨S8, eS8, hf⟩ := si_ob hf
        refine si_iast X hw rfl eS8 dX9_weigh_175 (fun H locs hw => ?_)
        refine lv_iload X.1 X.2.1 dX9_weigh_176 (lv_at hl 0 rfl) ?_
        exact hret _ _ _ _ _ _ hf hw dX9_weigh_178
      · have hf := si_in c131 hf
        refine lv_bipush (v := (-3)) X.1 X.2.1 dX9_weigh_134 (by decide) ?_
        exact hret _ _ _ _ _ _ hf hw dX9_weigh_136
    · have hf := si_ip c114 hf
      refine lv_bipush (v := (-2)) X.1 X.2.1 dX9_weigh_117 (by decide) ?_
      exact hret _ _ _ _ _ _ hf hw dX9_weigh_119
  unfold f_X9_weigh at hf
  refine lv_aload_n X.1 X.2.1 dX9_weigh_0 rfl (lv_at hl 0 rfl) ?_
  refine lv_iload_n X.1 X.2.1 dX9_weigh_1 rfl (lv_at hl 1 rfl) ?_
  obtain ⟨q9, eq9, hf⟩ := si_ob hf
  refine si_cVi [.int x1] cal_X9_hasSet gm_RX9_265 X hw hA hl.1 (c_X9_hasSet l E F x1 S q9 eq9) si_cl9 rfl ⟨⟨rfl, rfl⟩, Nat.le_of_ble_eq_true rfl, Nat.le_of_ble_eq_true rfl⟩ rfl rfl (Nat.le_of_ble_eq_true rfl) ⟨Nat.zero_le _, Nat.zero_le _⟩ dX9_weigh_2 (fun H locs hw => ?_)
  refine lv_if_eq (tgt := 25) X.1 X.2.1 dX9_weigh_5 (by decide) (fun c5 => ?_) (fun c5 => ?_)
  · have hf := si_ip c5 hf
    exact B25 _ _ _ _ hf hw (lv_sub hl [] rfl)
  · have hf := si_in c5 hf
    refine lv_aload_n X.1 X.2.1 dX9_weigh_8 rfl (lv_at hl 0 rfl) ?_
    obtain ⟨k910, ek910, hf⟩ := si_ob hf
    have hk910 := (si_mk_inv ek910).1
    refine si_gtM (d := 0) X hw si_cl9 9 (by decide) gf_RX9_71 rfl rfl rfl ek910 dX9_weigh_9 ?_
    refine si_getR (k' := (k910 + 6)) (d := 6) X hw si_cl2 9 (by decide) gf_RX9_268 rfl hk910 rfl (by decide) rfl dX9_weigh_12 ?_
    refine lv_iload_n X.1 X.2.1 dX9_weigh_15 rfl (lv_at hl 1 rfl) ?_
    obtain ⟨v11, ev11, hf⟩ := si_ob hf
    refine si_iald X hw (sk_2_6 hk910) ev11 dX9_weigh_16 ?_
    refine lv_iload_n X.1 X.2.1 dX9_weigh_17 rfl (lv_at hl 2 rfl) ?_
    refine lv_iload_n X.1 X.2.1 dX9_weigh_18 rfl (lv_at hl 3 rfl) ?_
    obtain ⟨q12, eq12, hf⟩ := si_ob hf
    refine si_cSi [.int v11, .int x2, .int x3] cal_X9_isWeighing gm_RX9_271 X hw hA hl.1 (c_X9_isWeighing l E F v11 x2 x3 q9.2 q12 eq12) ⟨⟨rfl, rfl⟩, Nat.le_of_ble_eq_true rfl, Nat.le_of_ble_eq_true rfl⟩ rfl rfl (Nat.le_of_ble_eq_true rfl) ⟨Nat.zero_le _, Nat.zero_le _⟩ dX9_weigh_19 (fun H locs hw => ?_)
    refine lv_if_ne (tgt := 27) X.1 X.2.1 dX9_weigh_22 (by decide) (fun c22 => ?_) (fun c22 => ?_)
    · have hf := si_in c22 hf
      refine lv_iload X.1 X.2.1 dX9_weigh_27 (lv_at hl 4 rfl) ?_
      refine lv_if_lt (tgt := 38) X.1 X.2.1 dX9_weigh_29 (by decide) (fun c29 => ?_) (fun c29 => ?_)
      · have hf := si_ip c29 hf
        exact B38 _ _ _ _ hf hw (lv_sub hl [] rfl)
      · have hf := si_in c29 hf
        refine lv_iload X.1 X.2.1 dX9_weigh_32 (lv_at hl 4 rfl) ?_
        refine lv_iconst (v := 2) X.1 X.2.1 dX9_weigh_34 (by decide) ?_
        refine lv_icmp_le (tgt := 40) X.1 X.2.1 dX9_weigh_35 (by decide) (fun c35 => ?_) (fun c35 => ?_)
        · have hf := si_ip c35 hf
          refine lv_aload_n X.1 X.2.1 dX9_weigh_40 rfl (lv_at hl 0 rfl) ?_
          refine si_getR (k' := 16) (d := 16) X hw si_cl9 3 (by decide) gf_RX9_33 rfl rfl rfl (by decide) rfl dX9_weigh_41 ?_
          refine si_getR (k' := 17) (d := 1) X hw si_cl8 0 (by decide) gf_RX9_275 rfl rfl rfl (by decide) rfl dX9_weigh_44 ?_
          refine lv_iload_n X.1 X.2.1 dX9_weigh_47 rfl (lv_at hl 1 rfl) ?_
          obtain ⟨v13, ev13, hf⟩ := si_ob hf
          refine si_iald X hw rfl ev13 dX9_weigh_48 ?_
          refine lv_iload_n X.1 X.2.1 dX9_weigh_49 rfl (lv_at hl 2 rfl) ?_
          refine lv_iload_n X.1 X.2.1 dX9_weigh_50 rfl (lv_at hl 3 rfl) ?_
          refine lv_iload X.1 X.2.1 dX9_weigh_51 (lv_at hl 4 rfl) ?_
          obtain ⟨q14, eq14, hf⟩ := si_ob hf
          refine si_cSi [.int v13, .int x2, .int x3, .int x4] cal_X8_suspectsAfter gm_RX9_278 X hw hA hl.1 (c_X8_suspectsAfter l E F v13 x2 x3 x4 q12.2 q14 eq14) ⟨⟨rfl, rfl⟩, Nat.le_of_ble_eq_true rfl, Nat.le_of_ble_eq_true rfl⟩ rfl rfl (Nat.le_of_ble_eq_true rfl) ⟨Nat.zero_le _, Nat.zero_le _⟩ dX9_weigh_53 (fun H locs hw => ?_)
          refine lv_istore (lv' := [(5, .int q14.1), (0, .ref (E.2.1 0)), (1, .int x1), (2, .int x2), (3, .int x3), (4, .int x4)]) X.1 X.2.1 dX9_weigh_56 hl (by decide) rfl (fun ls hl => ?_)
          refine lv_aload_n X.1 X.2.1 dX9_weigh_58 rfl (lv_at hl 1 rfl) ?_
          refine si_getR (k' := 16) (d := 16) X hw si_cl9 3 (by decide) gf_RX9_33 rfl rfl rfl (by decide) rfl dX9_weigh_59 ?_
          refine si_getR (k' := 18) (d := 2) X hw si_cl8 1 (by decide) gf_RX9_281 rfl rfl rfl (by decide) rfl dX9_weigh_62 ?_
          refine lv_iload_n X.1 X.2.1 dX9_weigh_65 rfl (lv_at hl 2 rfl) ?_
          obtain ⟨v15, ev15, hf⟩ := si_ob hf
          refine si_iald X hw rfl ev15 dX9_weigh_66 ?_
          refine lv_iload_n X.1 X.2.1 dX9_weigh_67 rfl (lv_at hl 4 rfl) ?_
          refine lv_iload_n X.1 X.2.1 dX9_weigh_68 rfl (lv_at hl 3 rfl) ?_
          refine lv_iload X.1 X.2.1 dX9_weigh_69 (lv_at hl 5 rfl) ?_
          obtain ⟨q16, eq16, hf⟩ := si_ob hf
          refine si_cSi [.int v15, .int x3, .int x2, .int x4] cal_X8_suspectsAfter gm_RX9_278 X hw hA hl.1 (c_X8_suspectsAfter l E F v15 x3 x2 x4 q14.2 q16 eq16) ⟨⟨rfl, rfl⟩, Nat.le_of_ble_eq_true rfl, Nat.le_of_ble_eq_true rfl⟩ rfl rfl (Nat.le_of_ble_eq_true rfl) ⟨Nat.zero_le _, Nat.zero_le _⟩ dX9_weigh_71 (fun H locs hw => ?_)
          refine lv_istore (lv' := [(6, .int q16.1), (5, .int q14.1), (0, .ref (E.2.1 0)), (1, .int x1), (2, .int x2), (3, .int x3), (4, .int x4)]) X.1 X.2.1 dX9_weigh_74 hl (by decide) rfl (fun ls hl => ?_)
          refine lv_iload X.1 X.2.1 dX9_weigh_76 (lv_at hl 6 rfl) ?_
          refine lv_if_ne (tgt := 93) X.1 X.2.1 dX9_weigh_78 (by decide) (fun c78 => ?_) (fun c78 => ?_)
          · have hf := si_in c78 hf
            refine lv_iconst (v := 0) X.1 X.2.1 dX9_weigh_93 (by decide) ?_
            exact B94 _ _ _ _ _ _ _ _ hf hw (lv_sub hl [2, 3, 1, 0] rfl)
          · have hf := si_ip c78 hf
            refine lv_aload_n X.1 X.2.1 dX9_weigh_81 rfl (lv_at hl 2 rfl) ?_
            refine si_getR (k' := 16) (d := 16) X hw si_cl9 3 (by decide) gf_RX9_33 rfl rfl rfl (by decide) rfl dX9_weigh_82 ?_
            refine si_getR (k' := 19) (d := 3) X hw si_cl8 2 (by decide) gf_RX9_284 rfl rfl rfl (by decide) rfl dX9_weigh_85 ?_
            refine lv_iload_n X.1 X.2.1 dX9_weigh_88 rfl (lv_at hl 3 rfl) ?_
            obtain ⟨v17, ev17, hf⟩ := si_ob hf
            refine si_iald X hw rfl ev17 dX9_weigh_89 ?_
            refine lv_goto (tgt := 94) X.1 X.2.1 dX9_weigh_90 (by decide) ?_
            exact B94 _ _ _ _ _ _ _ _ hf hw (lv_sub hl [2, 3, 1, 0] rfl)
        · have hf := si_in c35 hf
          exact B38 _ _ _ _ hf hw (lv_sub hl [] rfl)
    · have hf := si_ip c22 hf
      exact B25 _ _ _ _ hf hw (lv_sub hl [] rfl)
abbrev rm_X9_weighingCount : Room := { frames := 1, cells := 0, slots := 0, locals := 21 }
set_option maxHeartbeats 4000000 in
set_option maxRecDepth 100000 in
theorem c_X9_weighingCount (l : Launch) (E : si_Ev) (F : Nat) (x1 : Int32) (S : si_St) (o : Int32 × si_St) (hf : f_X9_weighingCount F x1 S = some o) : si_Mi l E yX9_weighingCount cX9_weighingCount 2 (some .int) rm_X9_weighingCount [.ref (E.2.1 0), .int x1] S o := by
  refine si_ofWi (plainFor_of_name (by decide +kernel)) (Nat.le_of_ble_eq_true rfl) ?_
  intro p e s m args below meth c ls Q A X hw hA hl hret
  have hl : lv_has ls 2 [(0, .ref (E.2.1 0)), (1, .int x1)] := hl
  have B21 : ∀ (t0 : Int32) (S : si_St) (H : Heap) (locs : List Loc) (ls : Array Slot) , f_X9_weighingCount_h21 F t0 S = some o → si_Ws E A s.heap S H locs → lv_has ls 2 [] → W p l e rm_X9_weighingCount s m args below meth c H locs 0 0 Q (F0 m 21 ls [.int t0]) := by
    intro t0  S H locs ls  hf hw hl
    unfold f_X9_weighingCount_h21 at hf
    exact hret _ _ _ _ _ _ hf hw dX9_weighingCount_21
  unfold f_X9_weighingCount at hf
  refine lv_aload_n X.1 X.2.1 dX9_weighingCount_0 rfl (lv_at hl 0 rfl) ?_
  refine lv_iload_n X.1 X.2.1 dX9_weighingCount_1 rfl (lv_at hl 1 rfl) ?_
  obtain ⟨q1, eq1, hf⟩ := si_ob hf
  refine si_cVi [.int x1] cal_X9_hasSet gm_RX9_265 X hw hA hl.1 (c_X9_hasSet l E F x1 S q1 eq1) si_cl9 rfl ⟨⟨rfl, rfl⟩, Nat.le_of_ble_eq_true rfl, Nat.le_of_ble_eq_true rfl⟩ rfl rfl (Nat.le_of_ble_eq_true rfl) ⟨Nat.zero_le _, Nat.zero_le _⟩ dX9_weighingCount_2 (fun H locs hw => ?_)
  refine lv_if_eq (tgt := 20) X.1 X.2.1 dX9_weighingCount_5 (by decide) (fun c5 => ?_) (fun c5 => ?_)
  · have hf := si_ip c5 hf
    refine lv_iconst (v := (-1)) X.1 X.2.1 dX9_weighingCount_20 (by decide) ?_
    exact B21 _ _ _ _ _ hf hw (lv_sub hl [] rfl)
  · have hf := si_in c5 hf
    refine lv_aload_n X.1 X.2.1 dX9_weighingCount_8 rfl (lv_at hl 0 rfl) ?_
    refine si_getR (k' := 16) (d := 16) X hw si_cl9 3 (by decide) gf_RX9_33 rfl rfl rfl (by decide) rfl dX9_weighingCount_9 ?_
    refine si_getR (k' := 20) (d := 4) X hw si_cl8 3 (by decide) gf_RX9_292 rfl rfl rfl (by decide) rfl dX9_weighingCount_12 ?_
    refine lv_iload_n X.1 X.2.1 dX9_weighingCount_15 rfl (lv_at hl 1 rfl) ?_
    obtain ⟨v2, ev2, hf⟩ := si_ob hf
    refine si_iald X hw rfl ev2 dX9_weighingCount_16 ?_
    refine lv_goto (tgt := 21) X.1 X.2.1 dX9_weighingCount_17 (by decide) ?_
    exact B21 _ _ _ _ _ hf hw (lv_sub hl [] rfl)
abbrev rm_X9_hypothesisCount : Room := { frames := 2, cells := 0, slots := 0, locals := 41 }
set_option maxHeartbeats 4000000 in
set_option maxRecDepth 100000 in
theorem c_X9_hypothesisCount (l : Launch) (E : si_Ev) (F : Nat) (x1 : Int32) (S : si_St) (o : Int32 × si_St) (hf : f_X9_hypothesisCount F x1 S = some o) : si_Mi l E yX9_hypothesisCount cX9_hypothesisCount 2 (some .int) rm_X9_hypothesisCount [.ref (E.2.1 0), .int x1] S o := by
  refine si_ofWi (plainFor_of_name (by decide +kernel)) (Nat.le_of_ble_eq_true rfl) ?_
  intro p e s m args below meth c ls Q A X hw hA hl hret
  have hl : lv_has ls 2 [(0, .ref (E.2.1 0)), (1, .int x1)] := hl
  have B20 : ∀ (t0 : Int32) (S : si_St) (H : Heap) (locs : List Loc) (ls : Array Slot) , f_X9_hypothesisCount_h20 F t0 S = some o → si_Ws E A s.heap S H locs → lv_has ls 2 [] → W p l e rm_X9_hypothesisCount s m args below meth c H locs 0 0 Q (F0 m 20 ls [.int t0]) := by
    intro t0  S H locs ls  hf hw hl
    unfold f_X9_hypothesisCount_h20 at hf
    exact hret _ _ _ _ _ _ hf hw dX9_hypothesisCount_20
  unfold f_X9_hypothesisCount at hf
  refine lv_aload_n X.1 X.2.1 dX9_hypothesisCount_0 rfl (lv_at hl 0 rfl) ?_
  refine lv_iload_n X.1 X.2.1 dX9_hypothesisCount_1 rfl (lv_at hl 1 rfl) ?_
  obtain ⟨q1, eq1, hf⟩ := si_ob hf
  refine si_cVi [.int x1] cal_X9_hasSet gm_RX9_265 X hw hA hl.1 (c_X9_hasSet l E F x1 S q1 eq1) si_cl9 rfl ⟨⟨rfl, rfl⟩, Nat.le_of_ble_eq_true rfl, Nat.le_of_ble_eq_true rfl⟩ rfl rfl (Nat.le_of_ble_eq_true rfl) ⟨Nat.zero_le _, Nat.zero_le _⟩ dX9_hypothesisCount_2 (fun H locs hw => ?_)
  refine lv_if_eq (tgt := 19) X.1 X.2.1 dX9_hypothesisCount_5 (by decide) (fun c5 => ?_) (fun c5 => ?_)
  · have hf := si_ip c5 hf
    refine lv_iconst (v := (-1)) X.1 X.2.1 dX9_hypothesisCount_19 (by decide) ?_
    exact B20 _ _ _ _ _ hf hw (lv_sub hl [] rfl)
  · have hf := si_in c5 hf
    refine lv_aload_n X.1 X.2.1 dX9_hypothesisCount_8 rfl (lv_at hl 0 rfl) ?_
    refine si_getR (k' := 16) (d := 16) X hw si_cl9 3 (by decide) gf_RX9_33 rfl rfl rfl (by decide) rfl dX9_hypothesisCount_9 ?_
    refine lv_iload_n X.1 X.2.1 dX9_hypothesisCount_12 rfl (lv_at hl 1 rfl) ?_
    obtain ⟨q2, eq2, hf⟩ := si_ob hf
    refine si_cVi [.int x1] cal_X8_hypothesesOf gm_RX9_303 X hw hA hl.1 (c_X8_hypothesesOf l E F x1 q1.2 q2 eq2) si_cl8 rfl ⟨⟨rfl, rfl⟩, Nat.le_of_ble_eq_true rfl, Nat.le_of_ble_eq_true rfl⟩ rfl rfl (Nat.le_of_ble_eq_true rfl) ⟨Nat.zero_le _, Nat.zero_le _⟩ dX9_hypothesisCount_13 (fun H locs hw => ?_)
    refine lv_goto (tgt := 20) X.1 X.2.1 dX9_hypothesisCount_16 (by decide) ?_
    exact B20 _ _ _ _ _ hf hw (lv_sub hl [] rfl)
abbrev rm_X9_heavySuspects : Room := { frames := 1, cells := 0, slots := 0, locals := 21 }
set_option maxHeartbeats 4000000 in
set_option maxRecDepth 100000 in
theorem c_X9_heavySuspects (l : Launch) (E : si_Ev) (F : Nat) (x1 : Int32) (S : si_St) (o : Int32 × si_St) (hf : f_X9_heavySuspects F x1 S = some o) : si_Mi l E yX9_heavySuspects cX9_heavySuspects 2 (some .int) rm_X9_heavySuspects [.ref (E.2.1 0), .int x1] S o := by
  refine si_ofWi (plainFor_of_name (by decide +kernel)) (Nat.le_of_ble_eq_true rfl) ?_
  intro p e s m args below meth c ls Q A X hw hA hl hret
  have hl : lv_has ls 2 [(0, .ref (E.2.1 0)), (1, .int x1)] := hl
  have B21 : ∀ (t0 : Int32) (S : si_St) (H : Heap) (locs : List Loc) (ls : Array Slot) , f_X9_heavySuspects_h21 F t0 S = some o → si_Ws E A s.heap S H locs → lv_has ls 2 [] → W p l e rm_X9_heavySuspects s m args below meth c H locs 0 0 Q (F0 m 21 ls [.int t0]) := by
    intro t0  S H locs ls  hf hw hl
    unfold f_X9_heavySuspects_h21 at hf
    exact hret _ _ _ _ _ _ hf hw dX9_heavySuspects_21
  unfold f_X9_heavySuspects at hf
  refine lv_aload_n X.1 X.2.1 dX9_heavySuspects_0 rfl (lv_at hl 0 rfl) ?_
  refine lv_iload_n X.1 X.2.1 dX9_heavySuspects_1 rfl (lv_at hl 1 rfl) ?_
  obtain ⟨q1, eq1, hf⟩ := si_ob hf
  refine si_cVi [.int x1] cal_X9_hasSet gm_RX9_265 X hw hA hl.1 (c_X9_hasSet l E F x1 S q1 eq1) si_cl9 rfl ⟨⟨rfl, rfl⟩, Nat.le_of_ble_eq_true rfl, Nat.le_of_ble_eq_true rfl⟩ rfl rfl (Nat.le_of_ble_eq_true rfl) ⟨Nat.zero_le _, Nat.zero_le _⟩ dX9_heavySuspects_2 (fun H locs hw => ?_)
  refine lv_if_eq (tgt := 20) X.1 X.2.1 dX9_heavySuspects_5 (by decide) (fun c5 => ?_) (fun c5 => ?_)
  · have hf := si_ip c5 hf
    refine lv_iconst (v := (-1)) X.1 X.2.1 dX9_heavySuspects_20 (by decide) ?_
    exact B21 _ _ _ _ _ hf hw (lv_sub hl [] rfl)
  · have hf := si_in c5 hf
    refine lv_aload_n X.1 X.2.1 dX9_heavySuspects_8 rfl (lv_at hl 0 rfl) ?_
    refine si_getR (k' := 16) (d := 16) X hw si_cl9 3 (by decide) gf_RX9_33 rfl rfl rfl (by decide) rfl dX9_heavySuspects_9 ?_
    refine si_getR (k' := 17) (d := 1) X hw si_cl8 0 (by decide) gf_RX9_275 rfl rfl rfl (by decide) rfl dX9_heavySuspects_12 ?_
    refine lv_iload_n X.1 X.2.1 dX9_heavySuspects_15 rfl (lv_at hl 1 rfl) ?_
    obtain ⟨v2, ev2, hf⟩ := si_ob hf
    refine si_iald X hw rfl ev2 dX9_heavySuspects_16 ?_
    refine lv_goto (tgt := 21) X.1 X.2.1 dX9_heavySuspects_17 (by decide) ?_
    exact B21 _ _ _ _ _ hf hw (lv_sub hl [] rfl)
abbrev rm_X9_lightSuspects : Room := { frames := 1, cells := 0, slots := 0, locals := 21 }
set_option maxHeartbeats 4000000 in
set_option maxRecDepth 100000 in
theorem c_X9_lightSuspects (l : Launch) (E : si_Ev) (F : Nat) (x1 : Int32) (S : si_St) (o : Int32 × si_St) (hf : f_X9_lightSuspects F x1 S = some o) : si_Mi l E yX9_lightSuspects cX9_lightSuspects 2 (some .int) rm_X9_lightSuspects [.ref (E.2.1 0), .int x1] S o := by
  refine si_ofWi (plainFor_of_name (by decide +kernel)) (Nat.le_of_ble_eq_true rfl) ?_
  intro p e s m args below meth c ls Q A X hw hA hl hret
  have hl : lv_has ls 2 [(0, .ref (E.2.1 0)), (1, .int x1)] := hl
  have B21 : ∀ (t0 : Int32) (S : si_St) (H : Heap) (locs : List Loc) (ls : Array Slot) , f_X9_lightSuspects_h21 F t0 S = some o → si_Ws E A s.heap S H locs → lv_has ls 2 [] → W p l e rm_X9_lightSuspects s m args below meth c H locs 0 0 Q (F0 m 21 ls [.int t0]) := by
    intro t0  S H locs ls  hf hw hl
    unfold f_X9_lightSuspects_h21 at hf
    exact hret _ _ _ _ _ _ hf hw dX9_lightSuspects_21
  unfold f_X9_lightSuspects at hf
  refine lv_aload_n X.1 X.2.1 dX9_lightSuspects_0 rfl (lv_at hl 0 rfl) ?_
  refine lv_iload_n X.1 X.2.1 dX9_lightSuspects_1 rfl (lv_at hl 1 rfl) ?_
  obtain ⟨q1, eq1, hf⟩ := si_ob hf
  refine si_cVi [.int x1] cal_X9_hasSet gm_RX9_265 X hw hA hl.1 (c_X9_hasSet l E F x1 S q1 eq1) si_cl9 rfl ⟨⟨rfl, rfl⟩, Nat.le_of_ble_eq_true rfl, Nat.le_of_ble_eq_true rfl⟩ rfl rfl (Nat.le_of_ble_eq_true rfl) ⟨Nat.zero_le _, Nat.zero_le _⟩ dX9_lightSuspects_2 (fun H locs hw => ?_)
  refine lv_if_eq (tgt := 20) X.1 X.2.1 dX9_lightSuspects_5 (by decide) (fun c5 => ?_) (fun c5 => ?_)
  · have hf := si_ip c5 hf
    refine lv_iconst (v := (-1)) X.1 X.2.1 dX9_lightSuspects_20 (by decide) ?_
    exact B21 _ _ _ _ _ hf hw (lv_sub hl [] rfl)
  · have hf := si_in c5 hf
    refine lv_aload_n X.1 X.2.1 dX9_lightSuspects_8 rfl (lv_at hl 0 rfl) ?_
    refine si_getR (k' := 16) (d := 16) X hw si_cl9 3 (by decide) gf_RX9_33 rfl rfl rfl (by decide) rfl dX9_lightSuspects_9 ?_
    refine si_getR (k' := 18) (d := 2) X hw si_cl8 1 (by decide) gf_RX9_281 rfl rfl rfl (by decide) rfl dX9_lightSuspects_12 ?_
    refine lv_iload_n X.1 X.2.1 dX9_lightSuspects_15 rfl (lv_at hl 1 rfl) ?_
    obtain ⟨v2, ev2, hf⟩ := si_ob hf
    refine si_iald X hw rfl ev2 dX9_lightSuspects_16 ?_
    refine lv_goto (tgt := 21) X.1 X.2.1 dX9_lightSuspects_17 (by decide) ?_
    exact B21 _ _ _ _ _ hf hw (lv_sub hl [] rfl)
abbrev rm_X9_canBeGenuine : Room := { frames := 1, cells := 0, slots := 0, locals := 21 }
set_option maxHeartbeats 4000000 in
set_option maxRecDepth 100000 in
theorem c_X9_canBeGenuine (l : Launch) (E : si_Ev) (F : Nat) (x1 : Int32) (S : si_St) (o : Int32 × si_St) (hf : f_X9_canBeGenuine F x1 S = some o) : si_Mi l E yX9_canBeGenuine cX9_canBeGenuine 2 (some .int) rm_X9_canBeGenuine [.ref (E.2.1 0), .int x1] S o := by
  refine si_ofWi (plainFor_of_name (by decide +kernel)) (Nat.le_of_ble_eq_true rfl) ?_
  intro p e s m args below meth c ls Q A X hw hA hl hret
  have hl : lv_has ls 2 [(0, .ref (E.2.1 0)), (1, .int x1)] := hl
  have B21 : ∀ (t0 : Int32) (S : si_St) (H : Heap) (locs : List Loc) (ls : Array Slot) , f_X9_canBeGenuine_h21 F t0 S = some o → si_Ws E A s.heap S H locs → lv_has ls 2 [] → W p l e rm_X9_canBeGenuine s m args below meth c H locs 0 0 Q (F0 m 21 ls [.int t0]) := by
    intro t0  S H locs ls  hf hw hl
    unfold f_X9_canBeGenuine_h21 at hf
    exact hret _ _ _ _ _ _ hf hw dX9_canBeGenuine_21
  unfold f_X9_canBeGenuine at hf
  refine lv_aload_n X.1 X.2.1 dX9_canBeGenuine_0 rfl (lv_at hl 0 rfl) ?_
  refine lv_iload_n X.1 X.2.1 dX9_canBeGenuine_1 rfl (lv_at hl 1 rfl) ?_
  obtain ⟨q1, eq1, hf⟩ := si_ob hf
  refine si_cVi [.int x1] cal_X9_hasSet gm_RX9_265 X hw hA hl.1 (c_X9_hasSet l E F x1 S q1 eq1) si_cl9 rfl ⟨⟨rfl, rfl⟩, Nat.le_of_ble_eq_true rfl, Nat.le_of_ble_eq_true rfl⟩ rfl rfl (Nat.le_of_ble_eq_true rfl) ⟨Nat.zero_le _, Nat.zero_le _⟩ dX9_canBeGenuine_2 (fun H locs hw => ?_)
  refine lv_if_eq (tgt := 20) X.1 X.2.1 dX9_canBeGenuine_5 (by decide) (fun c5 => ?_) (fun c5 => ?_)
  · have hf := si_ip c5 hf
    refine lv_iconst (v := (-1)) X.1 X.2.1 dX9_canBeGenuine_20 (by decide) ?_
    exact B21 _ _ _ _ _ hf hw (lv_sub hl [] rfl)
  · have hf := si_in c5 hf
    refine lv_aload_n X.1 X.2.1 dX9_canBeGenuine_8 rfl (lv_at hl 0 rfl) ?_
    refine si_getR (k' := 16) (d := 16) X hw si_cl9 3 (by decide) gf_RX9_33 rfl rfl rfl (by decide) rfl dX9_canBeGenuine_9 ?_
    refine si_getR (k' := 19) (d := 3) X hw si_cl8 2 (by decide) gf_RX9_284 rfl rfl rfl (by decide) rfl dX9_canBeGenuine_12 ?_
    refine lv_iload_n X.1 X.2.1 dX9_canBeGenuine_15 rfl (lv_at hl 1 rfl) ?_
    obtain ⟨v2, ev2, hf⟩ := si_ob hf
    refine si_iald X hw rfl ev2 dX9_canBeGenuine_16 ?_
    refine lv_goto (tgt := 21) X.1 X.2.1 dX9_canBeGenuine_17 (by decide) ?_
    exact B21 _ _ _ _ _ hf hw (lv_sub hl [] rfl)
abbrev rm_X9_finding : Room := { frames := 3, cells := 0, slots := 0, locals := 62 }
set_option maxHeartbeats 4000000 in
set_option maxRecDepth 100000 in
theorem c_X9_finding (l : Launch) (E : si_Ev) (F : Nat) (x1 : Int32) (S : si_St) (o : Int32 × si_St) (hf : f_X9_finding F x1 S = some o) : si_Mi l E yX9_finding cX9_finding 2 (some .int) rm_X9_finding [.ref (E.2.1 0), .int x1] S o := by
  refine si_ofWi (plainFor_of_name (by decide +kernel)) (Nat.le_of_ble_eq_true rfl) ?_
  intro p e s m args below meth c ls Q A X hw hA hl hret
  have hl : lv_has ls 2 [(0, .ref (E.2.1 0)), (1, .int x1)] := hl
  have B20 : ∀ (t0 : Int32) (S : si_St) (H : Heap) (locs : List Loc) (ls : Array Slot) , f_X9_finding_h20 F t0 S = some o → si_Ws E A s.heap S H locs → lv_has ls 2 [] → W p l e rm_X9_finding s m args below meth c H locs 0 0 Q (F0 m 20 ls [.int t0]) := by
    intro t0  S H locs ls  hf hw hl
    unfold f_X9_finding_h20 at hf
    exact hret _ _ _ _ _ _ hf hw dX9_finding_20
  unfold f_X9_finding at hf
  refine lv_aload_n X.1 X.2.1 dX9_finding_0 rfl (lv_at hl 0 rfl) ?_
  refine lv_iload_n X.1 X.2.1 dX9_finding_1 rfl (lv_at hl 1 rfl) ?_
  obtain ⟨q1, eq1, hf⟩ := si_ob hf
  refine si_cVi [.int x1] cal_X9_hasSet gm_RX9_265 X hw hA hl.1 (c_X9_hasSet l E F x1 S q1 eq1) si_cl9 rfl ⟨⟨rfl, rfl⟩, Nat.le_of_ble_eq_true rfl, Nat.le_of_ble_eq_true rfl⟩ rfl rfl (Nat.le_of_ble_eq_true rfl) ⟨Nat.zero_le _, Nat.zero_le _⟩ dX9_finding_2 (fun H locs hw => ?_)
  refine lv_if_eq (tgt := 19) X.1 X.2.1 dX9_finding_5 (by decide) (fun c5 => ?_) (fun c5 => ?_)
  · have hf := si_ip c5 hf
    refine lv_iconst (v := (-1)) X.1 X.2.1 dX9_finding_19 (by decide) ?_
    exact B20 _ _ _ _ _ hf hw (lv_sub hl [] rfl)
  · have hf := si_in c5 hf
    refine lv_aload_n X.1 X.2.1 dX9_finding_8 rfl (lv_at hl 0 rfl) ?_
    refine si_getR (k' := 16) (d := 16) X hw si_cl9 3 (by decide) gf_RX9_33 rfl rfl rfl (by decide) rfl dX9_finding_9 ?_
    refine lv_iload_n X.1 X.2.1 dX9_finding_12 rfl (lv_at hl 1 rfl) ?_
    obtain ⟨q2, eq2, hf⟩ := si_ob hf
    refine si_cVi [.int x1] cal_X8_onlyHypothesis gm_RX9_306 X hw hA hl.1 (c_X8_onlyHypothesis l E F x1 q1.2 q2 eq2) si_cl8 rfl ⟨⟨rfl, rfl⟩, Nat.le_of_ble_eq_true rfl, Nat.le_of_ble_eq_true rfl⟩ rfl rfl (Nat.le_of_ble_eq_true rfl) ⟨Nat.zero_le _, Nat.zero_le _⟩ dX9_finding_13 (fun H locs hw => ?_)
    refine lv_goto (tgt := 20) X.1 X.2.1 dX9_finding_16 (by decide) ?_
    exact B20 _ _ _ _ _ hf hw (lv_sub hl [] rfl)
abbrev rm_X9_weighingsNeeded : Room := { frames := 6, cells := 0, slots := 0, locals := 144 }
set_option maxHeartbeats 4000000 in
set_option maxRecDepth 100000 in
theorem c_X9_weighingsNeeded (l : Launch) (E : si_Ev) (F : Nat) (x1 : Int32) (S : si_St) (o : Int32 × si_St) (hf : f_X9_weighingsNeeded F x1 S = some o) : si_Mi l E yX9_weighingsNeeded cX9_weighingsNeeded 2 (some .int) rm_X9_weighingsNeeded [.ref (E.2.1 0), .int x1] S o := by
  refine si_ofWi (plainFor_of_name (by decide +kernel)) (Nat.le_of_ble_eq_true rfl) ?_
  intro p e s m args below meth c ls Q A X hw hA hl hret
  have hl : lv_has ls 2 [(0, .ref (E.2.1 0)), (1, .int x1)] := hl
  unfold f_X9_weighingsNeeded at hf
  refine lv_aload_n X.1 X.2.1 dX9_weighingsNeeded_0 rfl (lv_at hl 0 rfl) ?_
  refine lv_iload_n X.1 X.2.1 dX9_weighingsNeeded_1 rfl (lv_at hl 1 rfl) ?_
  obtain ⟨q1, eq1, hf⟩ := si_ob hf
  refine si_cVi [.int x1] cal_X9_hasSet gm_RX9_265 X hw hA hl.1 (c_X9_hasSet l E F x1 S q1 eq1) si_cl9 rfl ⟨⟨rfl, rfl⟩, Nat.le_of_ble_eq_true rfl, Nat.le_of_ble_eq_true rfl⟩ rfl rfl (Nat.le_of_ble_eq_true rfl) ⟨Nat.zero_le _, Nat.zero_le _⟩ dX9_weighingsNeeded_2 (fun H locs hw => ?_)
  refine lv_if_ne (tgt := 10) X.1 X.2.1 dX9_weighingsNeeded_5 (by decide) (fun c5 => ?_) (fun c5 => ?_)
  · have hf := si_in c5 hf
    refine lv_aload_n X.1 X.2.1 dX9_weighingsNeeded_10 rfl (lv_at hl 0 rfl) ?_
    refine lv_iload_n X.1 X.2.1 dX9_weighingsNeeded_11 rfl (lv_at hl 1 rfl) ?_
    obtain ⟨S2, eS2, hf⟩ := si_ob hf
    refine si_cVv [.int x1] cal_X9_chooseSet gm_RX9_309 X hw hA hl.1 (c_X9_chooseSet l E F x1 q1.2 S2 eS2) si_cl9 rfl ⟨⟨rfl, rfl⟩, Nat.le_of_ble_eq_true rfl, Nat.le_of_ble_eq_true rfl⟩ rfl rfl (Nat.le_of_ble_eq_true rfl) ⟨Nat.zero_le _, Nat.zero_le _⟩ dX9_weighingsNeeded_12 (fun H locs hw => ?_)
    refine lv_aload_n X.1 X.2.1 dX9_weighingsNeeded_15 rfl (lv_at hl 0 rfl) ?_
    refine si_getR (k' := 65) (d := 65) X hw si_cl9 8 (by decide) gf_RX9_64 rfl rfl rfl (by decide) rfl dX9_weighingsNeeded_16 ?_
    obtain ⟨q3, eq3, hf⟩ := si_ob hf
    refine si_cVi [] cal_X5_needed gm_RX9_312 X hw hA hl.1 (c_X5_needed l E F S2 q3 eq3) si_cl5 rfl ⟨⟨rfl, rfl⟩, Nat.le_of_ble_eq_true rfl, Nat.le_of_ble_eq_true rfl⟩ rfl rfl (Nat.le_of_ble_eq_true rfl) ⟨Nat.zero_le _, Nat.zero_le _⟩ dX9_weighingsNeeded_19 (fun H locs hw => ?_)
    obtain ⟨q4, eq4, hf⟩ := si_ob hf
    refine si_cSi [.int q3.1] cal_X9_orNone gm_RX9_316 X hw hA hl.1 (c_X9_orNone l E F q3.1 q3.2 q4 eq4) ⟨⟨rfl, rfl⟩, Nat.le_of_ble_eq_true rfl, Nat.le_of_ble_eq_true rfl⟩ rfl rfl (Nat.le_of_ble_eq_true rfl) ⟨Nat.zero_le _, Nat.zero_le _⟩ dX9_weighingsNeeded_22 (fun H locs hw => ?_)
    exact hret _ _ _ _ _ _ hf hw dX9_weighingsNeeded_25
  · have hf := si_ip c5 hf
    refine lv_iconst (v := (-1)) X.1 X.2.1 dX9_weighingsNeeded_8 (by decide) ?_
    exact hret _ _ _ _ _ _ hf hw dX9_weighingsNeeded_9
abbrev rm_X9_bestLeft : Room := { frames := 6, cells := 0, slots := 0, locals := 144 }
set_option maxHeartbeats 4000000 in
set_option maxRecDepth 100000 in
theorem c_X9_bestLeft (l : Launch) (E : si_Ev) (F : Nat) (x1 : Int32) (S : si_St) (o : Int32 × si_St) (hf : f_X9_bestLeft F x1 S = some o) : si_Mi l E yX9_bestLeft cX9_bestLeft 3 (some .int) rm_X9_bestLeft [.ref (E.2.1 0), .int x1] S o := by
  refine si_ofWi (plainFor_of_name (by decide +kernel)) (Nat.le_of_ble_eq_true rfl) ?_
  intro p e s m args below meth c ls Q A X hw hA hl hret
  have hl : lv_has ls 3 [(0, .ref (E.2.1 0)), (1, .int x1)] := hl
  have B39 : ∀ (t0 : Int32) (S : si_St) (H : Heap) (locs : List Loc) (ls : Array Slot) , f_X9_bestLeft_h39 F t0 S = some o → si_Ws E A s.heap S H locs → lv_has ls 3 [] → W p l e rm_X9_bestLeft s m args below meth c H locs 0 0 Q (F0 m 39 ls [.int t0]) := by
    intro t0  S H locs ls  hf hw hl
    unfold f_X9_bestLeft_h39 at hf
    exact hret _ _ _ _ _ _ hf hw dX9_bestLeft_39
  unfold f_X9_bestLeft at hf
  refine lv_aload_n X.1 X.2.1 dX9_bestLeft_0 rfl (lv_at hl 0 rfl) ?_
  refine lv_iload_n X.1 X.2.1 dX9_bestLeft_1 rfl (lv_at hl 1 rfl) ?_
  obtain ⟨q1, eq1, hf⟩ := si_ob hf
  refine si_cVi [.int x1] cal_X9_hasSet gm_RX9_265 X hw hA hl.1 (c_X9_hasSet l E F x1 S q1 eq1) si_cl9 rfl ⟨⟨rfl, rfl⟩, Nat.le_of_ble_eq_true rfl, Nat.le_of_ble_eq_true rfl⟩ rfl rfl (Nat.le_of_ble_eq_true rfl) ⟨Nat.zero_le _, Nat.zero_le _⟩ dX9_bestLeft_2 (fun H locs hw => ?_)
  refine lv_if_ne (tgt := 10) X.1 X.2.1 dX9_bestLeft_5 (by decide) (fun c5 => ?_) (fun c5 => ?_)
  · have hf := si_in c5 hf
    refine lv_aload_n X.1 X.2.1 dX9_bestLeft_10 rfl (lv_at hl 0 rfl) ?_
    refine lv_iload_n X.1 X.2.1 dX9_bestLeft_11 rfl (lv_at hl 1 rfl) ?_
    obtain ⟨S2, eS2, hf⟩ := si_ob hf
    refine si_cVv [.int x1] cal_X9_chooseSet gm_RX9_309 X hw hA hl.1 (c_X9_chooseSet l E F x1 q1.2 S2 eS2) si_cl9 rfl ⟨⟨rfl, rfl⟩, Nat.le_of_ble_eq_true rfl, Nat.le_of_ble_eq_true rfl⟩ rfl rfl (Nat.le_of_ble_eq_true rfl) ⟨Nat.zero_le _, Nat.zero_le _⟩ dX9_bestLeft_12 (fun H locs hw => ?_)
    refine lv_aload_n X.1 X.2.1 dX9_bestLeft_15 rfl (lv_at hl 0 rfl) ?_
    refine si_getR (k' := 65) (d := 65) X hw si_cl9 8 (by decide) gf_RX9_64 rfl rfl rfl (by decide) rfl dX9_bestLeft_16 ?_
    obtain ⟨q3, eq3, hf⟩ := si_ob hf
    refine si_cVi [] cal_X5_bestWeighing gm_RX9_319 X hw hA hl.1 (c_X5_bestWeighing l E F S2 q3 eq3) si_cl5 rfl ⟨⟨rfl, rfl⟩, Nat.le_of_ble_eq_true rfl, Nat.le_of_ble_eq_true rfl⟩ rfl rfl (Nat.le_of_ble_eq_true rfl) ⟨Nat.zero_le _, Nat.zero_le _⟩ dX9_bestLeft_19 (fun H locs hw => ?_)
    refine lv_istore_n (lv' := [(2, .int q3.1), (0, .ref (E.2.1 0)), (1, .int x1)]) X.1 X.2.1 dX9_bestLeft_22 rfl hl (by decide) rfl (fun ls hl => ?_)
    refine lv_iload_n X.1 X.2.1 dX9_bestLeft_23 rfl (lv_at hl 0 rfl) ?_
    refine lv_ldcw (v := 268435456) X.1 X.2.1 X.2.2.2.1 (si_wd X gk_RX9_322) dX9_bestLeft_24 ?_
    refine lv_icmp_ne (tgt := 35) X.1 X.2.1 dX9_bestLeft_27 (by decide) (fun c27 => ?_) (fun c27 => ?_)
    · have hf := si_in c27 hf
      refine lv_iload_n X.1 X.2.1 dX9_bestLeft_35 rfl (lv_at hl 0 rfl) ?_
      obtain ⟨q4, eq4, hf⟩ := si_ob hf
      refine si_cSi [.int q3.1] cal_X5_leftPan gm_RX9_323 X hw hA hl.1 (c_X5_leftPan l E F q3.1 q3.2 q4 eq4) ⟨⟨rfl, rfl⟩, Nat.le_of_ble_eq_true rfl, Nat.le_of_ble_eq_true rfl⟩ rfl rfl (Nat.le_of_ble_eq_true rfl) ⟨Nat.zero_le _, Nat.zero_le _⟩ dX9_bestLeft_36 (fun H locs hw => ?_)
      exact B39 _ _ _ _ _ hf hw (lv_sub hl [] rfl)
    · have hf := si_ip c27 hf
      refine lv_bipush (v := (-2)) X.1 X.2.1 dX9_bestLeft_30 (by decide) ?_
      refine lv_goto (tgt := 39) X.1 X.2.1 dX9_bestLeft_32 (by decide) ?_
      exact B39 _ _ _ _ _ hf hw (lv_sub hl [] rfl)
  · have hf := si_ip c5 hf
    refine lv_iconst (v := (-1)) X.1 X.2.1 dX9_bestLeft_8 (by decide) ?_
    exact hret _ _ _ _ _ _ hf hw dX9_bestLeft_9
abbrev rm_X9_bestRight : Room := { frames := 6, cells := 0, slots := 0, locals := 144 }
set_option maxHeartbeats 4000000 in
set_option maxRecDepth 100000 in
theorem c_X9_bestRight (l : Launch) (E : si_Ev) (F : Nat) (x1 : Int32) (S : si_St) (o : Int32 × si_St) (hf : f_X9_bestRight F x1 S = some o) : si_Mi l E yX9_bestRight cX9_bestRight 3 (some .int) rm_X9_bestRight [.ref (E.2.1 0), .int x1] S o := by
  refine si_ofWi (plainFor_of_name (by decide +kernel)) (Nat.le_of_ble_eq_true rfl) ?_
  intro p e s m args below meth c ls Q A X hw hA hl hret
  have hl : lv_has ls 3 [(0, .ref (E.2.1 0)), (1, .int x1)] := hl
  have B39 : ∀ (t0 : Int32) (S : si_St) (H : Heap) (locs : List Loc) (ls : Array Slot) , f_X9_bestRight_h39 F t0 S = some o → si_Ws E A s.heap S H locs → lv_has ls 3 [] → W p l e rm_X9_bestRight s m args below meth c H locs 0 0 Q (F0 m 39 ls [.int t0]) := by
    intro t0  S H locs ls  hf hw hl
    unfold f_X9_bestRight_h39 at hf
    exact hret _ _ _ _ _ _ hf hw dX9_bestRight_39
  unfold f_X9_bestRight at hf
  refine lv_aload_n X.1 X.2.1 dX9_bestRight_0 rfl (lv_at hl 0 rfl) ?_
  refine lv_iload_n X.1 X.2.1 dX9_bestRight_1 rfl (lv_at hl 1 rfl) ?_
  obtain ⟨q1, eq1, hf⟩ := si_ob hf
  refine si_cVi [.int x1] cal_X9_hasSet gm_RX9_265 X hw hA hl.1 (c_X9_hasSet l E F x1 S q1 eq1) si_cl9 rfl ⟨⟨rfl, rfl⟩, Nat.le_of_ble_eq_true rfl, Nat.le_of_ble_eq_true rfl⟩ rfl rfl (Nat.le_of_ble_eq_true rfl) ⟨Nat.zero_le _, Nat.zero_le _⟩ dX9_bestRight_2 (fun H locs hw => ?_)
  refine lv_if_ne (tgt := 10) X.1 X.2.1 dX9_bestRight_5 (by decide) (fun c5 => ?_) (fun c5 => ?_)
  · have hf := si_in c5 hf
    refine lv_aload_n X.1 X.2.1 dX9_bestRight_10 rfl (lv_at hl 0 rfl) ?_
    refine lv_iload_n X.1 X.2.1 dX9_bestRight_11 rfl (lv_at hl 1 rfl) ?_
    obtain ⟨S2, eS2, hf⟩ := si_ob hf
    refine si_cVv [.int x1] cal_X9_chooseSet gm_RX9_309 X hw hA hl.1 (c_X9_chooseSet l E F x1 q1.2 S2 eS2) si_cl9 rfl ⟨⟨rfl, rfl⟩, Nat.le_of_ble_eq_true rfl, Nat.le_of_ble_eq_true rfl⟩ rfl rfl (Nat.le_of_ble_eq_true rfl) ⟨Nat.zero_le _, Nat.zero_le _⟩ dX9_bestRight_12 (fun H locs hw => ?_)
    refine lv_aload_n X.1 X.2.1 dX9_bestRight_15 rfl (lv_at hl 0 rfl) ?_
    refine si_getR (k' := 65) (d := 65) X hw si_cl9 8 (by decide) gf_RX9_64 rfl rfl rfl (by decide) rfl dX9_bestRight_16 ?_
    obtain ⟨q3, eq3, hf⟩ := si_ob hf
    refine si_cVi [] cal_X5_bestWeighing gm_RX9_319 X hw hA hl.1 (c_X5_bestWeighing l E F S2 q3 eq3) si_cl5 rfl ⟨⟨rfl, rfl⟩, Nat.le_of_ble_eq_true rfl, Nat.le_of_ble_eq_true rfl⟩ rfl rfl (Nat.le_of_ble_eq_true rfl) ⟨Nat.zero_le _, Nat.zero_le _⟩ dX9_bestRight_19 (fun H locs hw => ?_)
    refine lv_istore_n (lv' := [(2, .int q3.1), (0, .ref (E.2.1 0)), (1, .int x1)]) X.1 X.2.1 dX9_bestRight_22 rfl hl (by decide) rfl (fun ls hl => ?_)
    refine lv_iload_n X.1 X.2.1 dX9_bestRight_23 rfl (lv_at hl 0 rfl) ?_
    refine lv_ldcw (v := 268435456) X.1 X.2.1 X.2.2.2.1 (si_wd X gk_RX9_322) dX9_bestRight_24 ?_
    refine lv_icmp_ne (tgt := 35) X.1 X.2.1 dX9_bestRight_27 (by decide) (fun c27 => ?_) (fun c27 => ?_)
    · have hf := si_in c27 hf
      refine lv_iload_n X.1 X.2.1 dX9_bestRight_35 rfl (lv_at hl 0 rfl) ?_
      obtain ⟨q4, eq4, hf⟩ := si_ob hf
      refine si_cSi [.int q3.1] cal_X5_rightPan gm_RX9_326 X hw hA hl.1 (c_X5_rightPan l E F q3.1 q3.2 q4 eq4) ⟨⟨rfl, rfl⟩, Nat.le_of_ble_eq_true rfl, Nat.le_of_ble_eq_true rfl⟩ rfl rfl (Nat.le_of_ble_eq_true rfl) ⟨Nat.zero_le _, Nat.zero_le _⟩ dX9_bestRight_36 (fun H locs hw => ?_)
      exact B39 _ _ _ _ _ hf hw (lv_sub hl [] rfl)
    · have hf := si_ip c27 hf
      refine lv_bipush (v := (-2)) X.1 X.2.1 dX9_bestRight_30 (by decide) ?_
      refine lv_goto (tgt := 39) X.1 X.2.1 dX9_bestRight_32 (by decide) ?_
      exact B39 _ _ _ _ _ hf hw (lv_sub hl [] rfl)
  · have hf := si_ip c5 hf
    refine lv_iconst (v := (-1)) X.1 X.2.1 dX9_bestRight_8 (by decide) ?_
    exact hret _ _ _ _ _ _ hf hw dX9_bestRight_9
abbrev rm_X9_fewestWeighings : Room := { frames := 5, cells := 0, slots := 0, locals := 123 }
set_option maxHeartbeats 4000000 in
set_option maxRecDepth 100000 in
theorem c_X9_fewestWeighings (l : Launch) (E : si_Ev) (F : Nat) (x1 : Int32) (x2 : Int32) (S : si_St) (o : Int32 × si_St) (hf : f_X9_fewestWeighings F x1 x2 S = some o) : si_Mi l E yX9_fewestWeighings cX9_fewestWeighings 4 (some .int) rm_X9_fewestWeighings [.ref (E.2.1 0), .int x1, .int x2] S o := by
  refine si_ofWi (plainFor_of_name (by decide +kernel)) (Nat.le_of_ble_eq_true rfl) ?_
  intro p e s m args below meth c ls Q A X hw hA hl hret
  have hl : lv_has ls 4 [(0, .ref (E.2.1 0)), (1, .int x1), (2, .int x2)] := hl
  have B11 : ∀ (S : si_St) (H : Heap) (locs : List Loc) (ls : Array Slot) , f_X9_fewestWeighings_h11 F S = some o → si_Ws E A s.heap S H locs → lv_has ls 4 [] → W p l e rm_X9_fewestWeighings s m args below meth c H locs 0 0 Q (F0 m 11 ls []) := by
    intro   S H locs ls  hf hw hl
    unfold f_X9_fewestWeighings_h11 at hf
    refine lv_iconst (v := (-1)) X.1 X.2.1 dX9_fewestWeighings_11 (by decide) ?_
    exact hret _ _ _ _ _ _ hf hw dX9_fewestWeighings_12
  have B35 : ∀ (t0 : Int32) (t1 : Int32) (t2 : Int32) (t3 : Int32) (S : si_St) (H : Heap) (locs : List Loc) (ls : Array Slot) , f_X9_fewestWeighings_h35 F t0 t1 t2 t3 S = some o → si_Ws E A s.heap S H locs → lv_has ls 4 [(0, .ref (E.2.1 0))] → W p l e rm_X9_fewestWeighings s m args below meth c H locs 0 0 Q (F0 m 35 ls [.int t0, .int t1, .int t2, .int t3, .ref (E.2.1 65)]) := by
    intro t0 t1 t2 t3  S H locs ls  hf hw hl
    unfold f_X9_fewestWeighings_h35 at hf
    obtain ⟨S1, eS1, hf⟩ := si_ob hf
    refine si_cVv [.int t3, .int t2, .int t1, .int t0] cal_X5_choose gm_RX9_329 X hw hA hl.1 (c_X5_choose l E F t3 t2 t1 t0 S S1 eS1) si_cl5 rfl ⟨⟨rfl, rfl⟩, Nat.le_of_ble_eq_true rfl, Nat.le_of_ble_eq_true rfl⟩ rfl rfl (Nat.le_of_ble_eq_true rfl) ⟨Nat.zero_le _, Nat.zero_le _⟩ dX9_fewestWeighings_35 (fun H locs hw => ?_)
    refine lv_aload_n X.1 X.2.1 dX9_fewestWeighings_38 rfl (lv_at hl 0 rfl) ?_
    refine si_getR (k' := 65) (d := 65) X hw si_cl9 8 (by decide) gf_RX9_64 rfl rfl rfl (by decide) rfl dX9_fewestWeighings_39 ?_
    obtain ⟨q2, eq2, hf⟩ := si_ob hf
    refine si_cVi [] cal_X5_needed gm_RX9_312 X hw hA hl.1 (c_X5_needed l E F S1 q2 eq2) si_cl5 rfl ⟨⟨rfl, rfl⟩, Nat.le_of_ble_eq_true rfl, Nat.le_of_ble_eq_true rfl⟩ rfl rfl (Nat.le_of_ble_eq_true rfl) ⟨Nat.zero_le _, Nat.zero_le _⟩ dX9_fewestWeighings_42 (fun H locs hw => ?_)
    obtain ⟨q3, eq3, hf⟩ := si_ob hf
    refine si_cSi [.int q2.1] cal_X9_orNone gm_RX9_316 X hw hA hl.1 (c_X9_orNone l E F q2.1 q2.2 q3 eq3) ⟨⟨rfl, rfl⟩, Nat.le_of_ble_eq_true rfl, Nat.le_of_ble_eq_true rfl⟩ rfl rfl (Nat.le_of_ble_eq_true rfl) ⟨Nat.zero_le _, Nat.zero_le _⟩ dX9_fewestWeighings_45 (fun H locs hw => ?_)
    exact hret _ _ _ _ _ _ hf hw dX9_fewestWeighings_48
  unfold f_X9_fewestWeighings at hf
  refine lv_iload_n X.1 X.2.1 dX9_fewestWeighings_0 rfl (lv_at hl 1 rfl) ?_
  refine lv_iconst (v := 2) X.1 X.2.1 dX9_fewestWeighings_1 (by decide) ?_
  refine lv_icmp_lt (tgt := 11) X.1 X.2.1 dX9_fewestWeighings_2 (by decide) (fun c2 => ?_) (fun c2 => ?_)
  · have hf := si_ip c2 hf
    exact B11 _ _ _ _ hf hw (lv_sub hl [] rfl)
  · have hf := si_in c2 hf
    refine lv_iload_n X.1 X.2.1 dX9_fewestWeighings_5 rfl (lv_at hl 1 rfl) ?_
    refine lv_bipush (v := 12) X.1 X.2.1 dX9_fewestWeighings_6 (by decide) ?_
    refine lv_icmp_le (tgt := 13) X.1 X.2.1 dX9_fewestWeighings_8 (by decide) (fun c8 => ?_) (fun c8 => ?_)
    · have hf := si_ip c8 hf
      refine lv_iconst (v := 1) X.1 X.2.1 dX9_fewestWeighings_13 (by decide) ?_
      refine lv_iload_n X.1 X.2.1 dX9_fewestWeighings_14 rfl (lv_at hl 1 rfl) ?_
      refine lv_ishl X.1 X.2.1 dX9_fewestWeighings_15 ?_
      refine lv_iconst (v := 1) X.1 X.2.1 dX9_fewestWeighings_16 (by decide) ?_
      refine lv_isub X.1 X.2.1 dX9_fewestWeighings_17 ?_
      obtain ⟨v4, ev4, hf⟩ := si_ob hf
      refine si_nmI ev4 ?_
      refine lv_istore_n (lv' := [(3, .int v4), (0, .ref (E.2.1 0)), (1, .int x1), (2, .int x2)]) X.1 X.2.1 dX9_fewestWeighings_18 rfl hl (by decide) rfl (fun ls hl => ?_)
      refine lv_aload_n X.1 X.2.1 dX9_fewestWeighings_19 rfl (lv_at hl 1 rfl) ?_
      refine si_getR (k' := 65) (d := 65) X hw si_cl9 8 (by decide) gf_RX9_64 rfl rfl rfl (by decide) rfl dX9_fewestWeighings_20 ?_
      refine lv_iload_n X.1 X.2.1 dX9_fewestWeighings_23 rfl (lv_at hl 2 rfl) ?_
      refine lv_iload_n X.1 X.2.1 dX9_fewestWeighings_24 rfl (lv_at hl 0 rfl) ?_
      refine lv_iload_n X.1 X.2.1 dX9_fewestWeighings_25 rfl (lv_at hl 0 rfl) ?_
      refine lv_iload_n X.1 X.2.1 dX9_fewestWeighings_26 rfl (lv_at hl 3 rfl) ?_
      refine lv_if_eq (tgt := 34) X.1 X.2.1 dX9_fewestWeighings_27 (by decide) (fun c27 => ?_) (fun c27 => ?_)
      · have hf := si_ip c27 hf
        refine lv_iconst (v := 0) X.1 X.2.1 dX9_fewestWeighings_34 (by decide) ?_
        exact B35 _ _ _ _ _ _ _ _ hf hw (lv_sub hl [1] rfl)
      · have hf := si_in c27 hf
        refine lv_iconst (v := 1) X.1 X.2.1 dX9_fewestWeighings_30 (by decide) ?_
        refine lv_goto (tgt := 35) X.1 X.2.1 dX9_fewestWeighings_31 (by decide) ?_
        exact B35 _ _ _ _ _ _ _ _ hf hw (lv_sub hl [1] rfl)
    · have hf := si_in c8 hf
      exact B11 _ _ _ _ hf hw (lv_sub hl [] rfl)
abbrev rm_X9_undo : Room := { frames := 1, cells := 0, slots := 0, locals := 24 }
set_option maxHeartbeats 4000000 in
set_option maxRecDepth 100000 in
theorem c_X9_undo (l : Launch) (E : si_Ev) (F : Nat) (S : si_St) (o : Int32 × si_St) (hf : f_X9_undo F S = some o) : si_Mi l E yX9_undo cX9_undo 3 (some .boolean) rm_X9_undo [.ref (E.2.1 0)] S o := by
  refine si_ofWz (plainFor_of_name (by decide +kernel)) (Nat.le_of_ble_eq_true rfl) ?_
  intro p e s m args below meth c ls Q A X hw hA hl hret
  have hl : lv_has ls 3 [(0, .ref (E.2.1 0))] := hl
  have B148 : ∀ (S : si_St) (H : Heap) (locs : List Loc) (ls : Array Slot) , f_X9_undo_h148 F S = some o → si_Ws E A s.heap S H locs → lv_has ls 3 [] → W p l e rm_X9_undo s m args below meth c H locs 0 0 Q (F0 m 148 ls []) := by
    intro   S H locs ls  hf hw hl
    unfold f_X9_undo_h148 at hf
    refine lv_iconst (v := 1) X.1 X.2.1 dX9_undo_148 (by decide) ?_
    obtain ⟨v1, ev1, hf⟩ := si_ob hf
    exact hret _ _ _ _ _ _ (si_bzf ev1 hf) (si_nz (si_bz_inv ev1).1) hw dX9_undo_149
  unfold f_X9_undo at hf
  refine lv_aload_n X.1 X.2.1 dX9_undo_0 rfl (lv_at hl 0 rfl) ?_
  refine si_getR (k' := 21) (d := 21) X hw si_cl9 4 (by decide) gf_RX9_40 rfl rfl rfl (by decide) rfl dX9_undo_1 ?_
  obtain ⟨q2, eq2, hf⟩ := si_ob hf
  refine si_cVi [] cal_X0_takeLatest gm_RX9_332 X hw hA hl.1 (c_X0_takeLatest l E F S q2 eq2) si_cl0 rfl ⟨⟨rfl, rfl⟩, Nat.le_of_ble_eq_true rfl, Nat.le_of_ble_eq_true rfl⟩ rfl rfl (Nat.le_of_ble_eq_true rfl) ⟨Nat.zero_le _, Nat.zero_le _⟩ dX9_undo_4 (fun H locs hw => ?_)
  refine lv_istore_n (lv' := [(1, .int q2.1), (0, .ref (E.2.1 0))]) X.1 X.2.1 dX9_undo_7 rfl hl (by decide) rfl (fun ls hl => ?_)
  refine lv_iload_n X.1 X.2.1 dX9_undo_8 rfl (lv_at hl 0 rfl) ?_
  refine lv_iconst (v := (-1)) X.1 X.2.1 dX9_undo_9 (by decide) ?_
  refine lv_icmp_ne (tgt := 15) X.1 X.2.1 dX9_undo_10 (by decide) (fun c10 => ?_) (fun c10 => ?_)
  · have hf := si_in c10 hf
    refine lv_aload_n X.1 X.2.1 dX9_undo_15 rfl (lv_at hl 1 rfl) ?_
    refine si_getR (k' := 21) (d := 21) X hw si_cl9 4 (by decide) gf_RX9_40 rfl rfl rfl (by decide) rfl dX9_undo_16 ?_
    refine si_getR (k' := 23) (d := 2) X hw si_cl0 3 (by decide) gf_RX9_335 rfl rfl rfl (by decide) rfl dX9_undo_19 ?_
    refine lv_iload_n X.1 X.2.1 dX9_undo_22 rfl (lv_at hl 0 rfl) ?_
    obtain ⟨v3, ev3, hf⟩ := si_ob hf
    refine si_iald X hw rfl ev3 dX9_undo_23 ?_
    refine lv_istore_n (lv' := [(2, .int v3), (1, .int q2.1), (0, .ref (E.2.1 0))]) X.1 X.2.1 dX9_undo_24 rfl hl (by decide) rfl (fun ls hl => ?_)
    refine lv_aload_n X.1 X.2.1 dX9_undo_25 rfl (lv_at hl 2 rfl) ?_
    refine si_getR (k' := 21) (d := 21) X hw si_cl9 4 (by decide) gf_RX9_40 rfl rfl rfl (by decide) rfl dX9_undo_26 ?_
    refine si_getR (k' := 22) (d := 1) X hw si_cl0 2 (by decide) gf_RX9_338 rfl rfl rfl (by decide) rfl dX9_undo_29 ?_
    refine lv_iload_n X.1 X.2.1 dX9_undo_32 rfl (lv_at hl 1 rfl) ?_
    obtain ⟨v4, ev4, hf⟩ := si_ob hf
    refine si_iald X hw rfl ev4 dX9_undo_33 ?_
    rcases Decidable.em (v4 = 0) with c34_0 | c34_0
    · have hf := si_ip c34_0 hf
      refine lv_tableIn (tgt := 60) X.1 X.2.1 dX9_undo_34 (by rw [c34_0]; decide) (by rw [c34_0]; decide) (off := 26) (by rw [c34_0]; rfl) (by decide) ?_
      refine lv_aload_n X.1 X.2.1 dX9_undo_60 rfl (lv_at hl 2 rfl) ?_
      refine si_getR (k' := 7) (d := 7) X hw si_cl9 2 (by decide) gf_RX9_26 rfl rfl rfl (by decide) rfl dX9_undo_61 ?_
      refine lv_iload_n X.1 X.2.1 dX9_undo_64 rfl (lv_at hl 0 rfl) ?_
      obtain ⟨S5, eS5, hf⟩ := si_ob hf
      refine si_ptI X hw si_cl7 0 (by decide) gf_RX9_97 rfl rfl rfl rfl rfl eS5 dX9_undo_65 (fun H locs hw => ?_)
      refine lv_goto (tgt := 148) X.1 X.2.1 dX9_undo_68 (by decide) ?_
      exact B148 _ _ _ _ hf hw (lv_sub hl [] rfl)
    · have hf := si_in c34_0 hf
      rcases Decidable.em (v4 = 1) with c34_1 | c34_1
      · have hf := si_ip c34_1 hf
        refine lv_tableIn (tgt := 71) X.1 X.2.1 dX9_undo_34 (by rw [c34_1]; decide) (by rw [c34_1]; decide) (off := 37) (by rw [c34_1]; rfl) (by decide) ?_
        refine lv_aload_n X.1 X.2.1 dX9_undo_71 rfl (lv_at hl 2 rfl) ?_
        refine si_getR (k' := 7) (d := 7) X hw si_cl9 2 (by decide) gf_RX9_26 rfl rfl rfl (by decide) rfl dX9_undo_72 ?_
        refine si_getR (k' := 12) (d := 5) X hw si_cl7 5 (by decide) gf_RX9_201 rfl rfl rfl (by decide) rfl dX9_undo_75 ?_
        refine lv_iload_n X.1 X.2.1 dX9_undo_78 rfl (lv_at hl 0 rfl) ?_
        refine lv_dup2_11 X.1 X.2.1 dX9_undo_79 rfl rfl ?_
        obtain ⟨v6, ev6, hf⟩ := si_ob hf
        refine si_iald X hw rfl ev6 dX9_undo_80 ?_
        refine lv_iconst (v := 1) X.1 X.2.1 dX9_undo_81 (by decide) ?_
        refine lv_isub X.1 X.2.1 dX9_undo_82 ?_
        obtain ⟨S7, eS7, hf⟩ := si_ob hf
        refine si_iast X hw rfl eS7 dX9_undo_83 (fun H locs hw => ?_)
        refine lv_goto (tgt := 148) X.1 X.2.1 dX9_undo_84 (by decide) ?_
        exact B148 _ _ _ _ hf hw (lv_sub hl [] rfl)
      · have hf := si_in c34_1 hf
        rcases Decidable.em (v4 = 2) with c34_2 | c34_2
        · have hf := si_ip c34_2 hf
          refine lv_tableIn (tgt := 87) X.1 X.2.1 dX9_undo_34 (by rw [c34_2]; decide) (by rw [c34_2]; decide) (off := 53) (by rw [c34_2]; rfl) (by decide) ?_
          refine lv_aload_n X.1 X.2.1 dX9_undo_87 rfl (lv_at hl 2 rfl) ?_
          refine si_getR (k' := 7) (d := 7) X hw si_cl9 2 (by decide) gf_RX9_26 rfl rfl rfl (by decide) rfl dX9_undo_88 ?_
          refine si_getR (k' := 11) (d := 4) X hw si_cl7 4 (by decide) gf_RX9_238 rfl rfl rfl (by decide) rfl dX9_undo_91 ?_
          refine lv_iload_n X.1 X.2.1 dX9_undo_94 rfl (lv_at hl 0 rfl) ?_
          refine lv_iconst (v := (-1)) X.1 X.2.1 dX9_undo_95 (by decide) ?_
          obtain ⟨S8, eS8, hf⟩ := si_ob hf
          refine si_iast X hw rfl eS8 dX9_undo_96 (fun H locs hw => ?_)
          refine lv_goto (tgt := 148) X.1 X.2.1 dX9_undo_97 (by decide) ?_
          exact B148 _ _ _ _ hf hw (lv_sub hl [] rfl)
        · have hf := si_in c34_2 hf
          have n0 : ¬ (v4).toInt = 0 := si_toInt_ne c34_0
          have n1 : ¬ (v4).toInt = 1 := si_toInt_ne c34_1
          have n2 : ¬ (v4).toInt = 2 := si_toInt_ne c34_2
          refine lv_tableOut (tgt := 100) X.1 X.2.1 dX9_undo_34 (by omega) (by decide) ?_
          refine lv_aload_n X.1 X.2.1 dX9_undo_100 rfl (lv_at hl 2 rfl) ?_
          refine si_getR (k' := 16) (d := 16) X hw si_cl9 3 (by decide) gf_RX9_33 rfl rfl rfl (by decide) rfl dX9_undo_101 ?_
          refine lv_iload_n X.1 X.2.1 dX9_undo_104 rfl (lv_at hl 0 rfl) ?_
          refine lv_aload_n X.1 X.2.1 dX9_undo_105 rfl (lv_at hl 2 rfl) ?_
          refine si_getR (k' := 21) (d := 21) X hw si_cl9 4 (by decide) gf_RX9_40 rfl rfl rfl (by decide) rfl dX9_undo_106 ?_
          refine si_getR (k' := 24) (d := 3) X hw si_cl0 4 (by decide) gf_RX9_341 rfl rfl rfl (by decide) rfl dX9_undo_109 ?_
          refine lv_iload_n X.1 X.2.1 dX9_undo_112 rfl (lv_at hl 1 rfl) ?_
          obtain ⟨v9, ev9, hf⟩ := si_ob hf
          refine si_iald X hw rfl ev9 dX9_undo_113 ?_
          refine lv_aload_n X.1 X.2.1 dX9_undo_114 rfl (lv_at hl 2 rfl) ?_
          refine si_getR (k' := 21) (d := 21) X hw si_cl9 4 (by decide) gf_RX9_40 rfl rfl rfl (by decide) rfl dX9_undo_115 ?_
          refine si_getR (k' := 25) (d := 4) X hw si_cl0 5 (by decide) gf_RX9_342 rfl rfl rfl (by decide) rfl dX9_undo_118 ?_
          refine lv_iload_n X.1 X.2.1 dX9_undo_121 rfl (lv_at hl 1 rfl) ?_
          obtain ⟨v10, ev10, hf⟩ := si_ob hf
          refine si_iald X hw rfl ev10 dX9_undo_122 ?_
          refine lv_aload_n X.1 X.2.1 dX9_undo_123 rfl (lv_at hl 2 rfl) ?_
          refine si_getR (k' := 21) (d := 21) X hw si_cl9 4 (by decide) gf_RX9_40 rfl rfl rfl (by decide) rfl dX9_undo_124 ?_
          refine si_getR (k' := 26) (d := 5) X hw si_cl0 6 (by decide) gf_RX9_343 rfl rfl rfl (by decide) rfl dX9_undo_127 ?_
          refine lv_iload_n X.1 X.2.1 dX9_undo_130 rfl (lv_at hl 1 rfl) ?_
          obtain ⟨v11, ev11, hf⟩ := si_ob hf
          refine si_iald X hw rfl ev11 dX9_undo_131 ?_
          obtain ⟨S12, eS12, hf⟩ := si_ob hf
          refine si_cVv [.int v3, .int v9, .int v10, .int v11] cal_X8_put gm_RX9_299 X hw hA hl.1 (c_X8_put l E F v3 v9 v10 v11 q2.2 S12 eS12) si_cl8 rfl ⟨⟨rfl, rfl⟩, Nat.le_of_ble_eq_true rfl, Nat.le_of_ble_eq_true rfl⟩ rfl rfl (Nat.le_of_ble_eq_true rfl) ⟨Nat.zero_le _, Nat.zero_le _⟩ dX9_undo_132 (fun H locs hw => ?_)
          refine lv_aload_n X.1 X.2.1 dX9_undo_135 rfl (lv_at hl 2 rfl) ?_
          refine si_getR (k' := 16) (d := 16) X hw si_cl9 3 (by decide) gf_RX9_33 rfl rfl rfl (by decide) rfl dX9_undo_136 ?_
          refine si_getR (k' := 20) (d := 4) X hw si_cl8 3 (by decide) gf_RX9_292 rfl rfl rfl (by decide) rfl dX9_undo_139 ?_
          refine lv_iload_n X.1 X.2.1 dX9_undo_142 rfl (lv_at hl 0 rfl) ?_
          refine lv_dup2_11 X.1 X.2.1 dX9_undo_143 rfl rfl ?_
          obtain ⟨v13, ev13, hf⟩ := si_ob hf
          refine si_iald X hw rfl ev13 dX9_undo_144 ?_
          refine lv_iconst (v := 1) X.1 X.2.1 dX9_undo_145 (by decide) ?_
          refine lv_isub X.1 X.2.1 dX9_undo_146 ?_
          obtain ⟨S14, eS14, hf⟩ := si_ob hf
          refine si_iast X hw rfl eS14 dX9_undo_147 (fun H locs hw => ?_)
          exact B148 _ _ _ _ hf hw (lv_sub hl [] rfl)
  · have hf := si_ip c10 hf
    refine lv_iconst (v := 0) X.1 X.2.1 dX9_undo_13 (by decide) ?_
    obtain ⟨v15, ev15, hf⟩ := si_ob hf
    exact hret _ _ _ _ _ _ (si_bzf ev15 hf) (si_nz (si_bz_inv ev15).1) hw dX9_undo_14
abbrev rm_X9_undoDepth : Room := { frames := 0, cells := 0, slots := 0, locals := 0 }
set_option maxHeartbeats 4000000 in
set_option maxRecDepth 100000 in
theorem c_X9_undoDepth (l : Launch) (E : si_Ev) (F : Nat) (S : si_St) (o : Int32 × si_St) (hf : f_X9_undoDepth F S = some o) : si_Mi l E yX9_undoDepth cX9_undoDepth 1 (some .int) rm_X9_undoDepth [.ref (E.2.1 0)] S o := by
  refine si_ofWi (plainFor_of_name (by decide +kernel)) (Nat.le_of_ble_eq_true rfl) ?_
  intro p e s m args below meth c ls Q A X hw hA hl hret
  have hl : lv_has ls 1 [(0, .ref (E.2.1 0))] := hl
  unfold f_X9_undoDepth at hf
  refine lv_aload_n X.1 X.2.1 dX9_undoDepth_0 rfl (lv_at hl 0 rfl) ?_
  refine si_getR (k' := 21) (d := 21) X hw si_cl9 4 (by decide) gf_RX9_40 rfl rfl rfl (by decide) rfl dX9_undoDepth_1 ?_
  refine si_getI X hw si_cl0 0 (by decide) gf_RX9_344 rfl rfl rfl dX9_undoDepth_4 ?_
  exact hret _ _ _ _ _ _ hf hw dX9_undoDepth_7
abbrev rm_X9_saveSnapshot : Room := { frames := 3, cells := 0, slots := 0, locals := 83 }
set_option maxHeartbeats 4000000 in
set_option maxRecDepth 100000 in
theorem c_X9_saveSnapshot (l : Launch) (E : si_Ev) (F : Nat) (x1 : Int32) (S : si_St) (o : Int32 × si_St) (hf : f_X9_saveSnapshot F x1 S = some o) : si_Mi l E yX9_saveSnapshot cX9_saveSnapshot 2 (some .boolean) rm_X9_saveSnapshot [.ref (E.2.1 0), .int x1] S o := by
  refine si_ofWz (plainFor_of_name (by decide +kernel)) (Nat.le_of_ble_eq_true rfl) ?_
  intro p e s m args below meth c ls Q A X hw hA hl hret
  have hl : lv_has ls 2 [(0, .ref (E.2.1 0)), (1, .int x1)] := hl
  have B9 : ∀ (S : si_St) (H : Heap) (locs : List Loc) (ls : Array Slot) , f_X9_saveSnapshot_h9 F S = some o → si_Ws E A s.heap S H locs → lv_has ls 2 [] → W p l e rm_X9_saveSnapshot s m args below meth c H locs 0 0 Q (F0 m 9 ls []) := by
    intro   S H locs ls  hf hw hl
    unfold f_X9_saveSnapshot_h9 at hf
    refine lv_iconst (v := 0) X.1 X.2.1 dX9_saveSnapshot_9 (by decide) ?_
    obtain ⟨v1, ev1, hf⟩ := si_ob hf
    exact hret _ _ _ _ _ _ (si_bzf ev1 hf) (si_nz (si_bz_inv ev1).1) hw dX9_saveSnapshot_10
  unfold f_X9_saveSnapshot at hf
  refine lv_iload_n X.1 X.2.1 dX9_saveSnapshot_0 rfl (lv_at hl 1 rfl) ?_
  refine lv_if_lt (tgt := 9) X.1 X.2.1 dX9_saveSnapshot_1 (by decide) (fun c1 => ?_) (fun c1 => ?_)
  · have hf := si_ip c1 hf
    exact B9 _ _ _ _ hf hw (lv_sub hl [] rfl)
  · have hf := si_in c1 hf
    refine lv_iload_n X.1 X.2.1 dX9_saveSnapshot_4 rfl (lv_at hl 1 rfl) ?_
    refine lv_iconst (v := 2) X.1 X.2.1 dX9_saveSnapshot_5 (by decide) ?_
    refine lv_icmp_lt (tgt := 11) X.1 X.2.1 dX9_saveSnapshot_6 (by decide) (fun c6 => ?_) (fun c6 => ?_)
    · have hf := si_ip c6 hf
      refine lv_aload_n X.1 X.2.1 dX9_saveSnapshot_11 rfl (lv_at hl 0 rfl) ?_
      refine lv_iload_n X.1 X.2.1 dX9_saveSnapshot_12 rfl (lv_at hl 1 rfl) ?_
      obtain ⟨q2, eq2, hf⟩ := si_ob hf
      refine si_cVr [.int x1] cal_X9_slotAt gm_RX9_347 X hw hA hl.1 (c_X9_slotAt l E F x1 S q2 eq2) si_cl9 rfl ⟨⟨rfl, rfl⟩, Nat.le_of_ble_eq_true rfl, Nat.le_of_ble_eq_true rfl⟩ rfl rfl (Nat.le_of_ble_eq_true rfl) ⟨Nat.zero_le _, Nat.zero_le _⟩ dX9_saveSnapshot_13 (fun H locs hw => ?_)
      have hq2_1 : si_kd q2.1 = 4 := Decidable.byContradiction fun h9 => by rw [if_pos h9] at hf; cases hf
      have hf := si_in (not_not_intro hq2_1) hf
      refine lv_aload_n X.1 X.2.1 dX9_saveSnapshot_16 rfl (lv_at hl 0 rfl) ?_
      refine si_getR (k' := 7) (d := 7) X hw si_cl9 2 (by decide) gf_RX9_26 rfl rfl rfl (by decide) rfl dX9_saveSnapshot_17 ?_
      refine lv_aload_n X.1 X.2.1 dX9_saveSnapshot_20 rfl (lv_at hl 0 rfl) ?_
      refine si_getR (k' := 16) (d := 16) X hw si_cl9 3 (by decide) gf_RX9_33 rfl rfl rfl (by decide) rfl dX9_saveSnapshot_21 ?_
      obtain ⟨S3, eS3, hf⟩ := si_ob hf
      refine si_cVv [.ref (E.2.1 7), .ref (E.2.1 16)] cal_X4_store gm_RX9_351 X hw hA hl.1 (c_X4_store l E F q2.1 hq2_1 q2.2 S3 eS3) si_cl4 hq2_1 ⟨⟨rfl, rfl⟩, Nat.le_of_ble_eq_true rfl, Nat.le_of_ble_eq_true rfl⟩ rfl rfl (Nat.le_of_ble_eq_true rfl) ⟨Nat.zero_le _, Nat.zero_le _⟩ dX9_saveSnapshot_24 (fun H locs hw => ?_)
      refine lv_iconst (v := 1) X.1 X.2.1 dX9_saveSnapshot_27 (by decide) ?_
      obtain ⟨v4, ev4, hf⟩ := si_ob hf
      exact hret _ _ _ _ _ _ (si_bzf ev4 hf) (si_nz (si_bz_inv ev4).1) hw dX9_saveSnapshot_28
    · have hf := si_in c6 hf
      exact B9 _ _ _ _ hf hw (lv_sub hl [] rfl)
abbrev rm_X9_restoreSnapshot : Room := { frames := 2, cells := 0, slots := 0, locals := 61 }
set_option maxHeartbeats 4000000 in
set_option maxRecDepth 100000 in
theorem c_X9_restoreSnapshot (l : Launch) (E : si_Ev) (F : Nat) (x1 : Int32) (S : si_St) (o : Int32 × si_St) (hf : f_X9_restoreSnapshot F x1 S = some o) : si_Mi l E yX9_restoreSnapshot cX9_restoreSnapshot 2 (some .boolean) rm_X9_restoreSnapshot [.ref (E.2.1 0), .int x1] S o := by
  refine si_ofWz (plainFor_of_name (by decide +kernel)) (Nat.le_of_ble_eq_true rfl) ?_
  intro p e s m args below meth c ls Q A X hw hA hl hret
  have hl : lv_has ls 2 [(0, .ref (E.2.1 0)), (1, .int x1)] := hl
  have B20 : ∀ (S : si_St) (H : Heap) (locs : List Loc) (ls : Array Slot) , f_X9_restoreSnapshot_h20 F S = some o → si_Ws E A s.heap S H locs → lv_has ls 2 [] → W p l e rm_X9_restoreSnapshot s m args below meth c H locs 0 0 Q (F0 m 20 ls []) := by
    intro   S H locs ls  hf hw hl
    unfold f_X9_restoreSnapshot_h20 at hf
    refine lv_iconst (v := 0) X.1 X.2.1 dX9_restoreSnapshot_20 (by decide) ?_
    obtain ⟨v1, ev1, hf⟩ := si_ob hf
    exact hret _ _ _ _ _ _ (si_bzf ev1 hf) (si_nz (si_bz_inv ev1).1) hw dX9_restoreSnapshot_21
  unfold f_X9_restoreSnapshot at hf
  refine lv_iload_n X.1 X.2.1 dX9_restoreSnapshot_0 rfl (lv_at hl 1 rfl) ?_
  refine lv_if_lt (tgt := 20) X.1 X.2.1 dX9_restoreSnapshot_1 (by decide) (fun c1 => ?_) (fun c1 => ?_)
  · have hf := si_ip c1 hf
    exact B20 _ _ _ _ hf hw (lv_sub hl [] rfl)
  · have hf := si_in c1 hf
    refine lv_iload_n X.1 X.2.1 dX9_restoreSnapshot_4 rfl (lv_at hl 1 rfl) ?_
    refine lv_iconst (v := 2) X.1 X.2.1 dX9_restoreSnapshot_5 (by decide) ?_
    refine lv_icmp_ge (tgt := 20) X.1 X.2.1 dX9_restoreSnapshot_6 (by decide) (fun c6 => ?_) (fun c6 => ?_)
    · have hf := si_ip c6 hf
      exact B20 _ _ _ _ hf hw (lv_sub hl [] rfl)
    · have hf := si_in c6 hf
      refine lv_aload_n X.1 X.2.1 dX9_restoreSnapshot_9 rfl (lv_at hl 0 rfl) ?_
      refine lv_iload_n X.1 X.2.1 dX9_restoreSnapshot_10 rfl (lv_at hl 1 rfl) ?_
      obtain ⟨q2, eq2, hf⟩ := si_ob hf
      refine si_cVr [.int x1] cal_X9_slotAt gm_RX9_347 X hw hA hl.1 (c_X9_slotAt l E F x1 S q2 eq2) si_cl9 rfl ⟨⟨rfl, rfl⟩, Nat.le_of_ble_eq_true rfl, Nat.le_of_ble_eq_true rfl⟩ rfl rfl (Nat.le_of_ble_eq_true rfl) ⟨Nat.zero_le _, Nat.zero_le _⟩ dX9_restoreSnapshot_11 (fun H locs hw => ?_)
      have hq2_1 : si_kd q2.1 = 4 := Decidable.byContradiction fun h9 => by rw [if_pos h9] at hf; cases hf
      have hf := si_in (not_not_intro hq2_1) hf
      refine si_getI X hw si_cl4 2 (by decide) gf_RX9_106 rfl hq2_1 rfl dX9_restoreSnapshot_14 ?_
      refine lv_if_ne (tgt := 22) X.1 X.2.1 dX9_restoreSnapshot_17 (by decide) (fun c17 => ?_) (fun c17 => ?_)
      · have hf := si_in c17 hf
        refine lv_aload_n X.1 X.2.1 dX9_restoreSnapshot_22 rfl (lv_at hl 0 rfl) ?_
        refine si_getR (k' := 7) (d := 7) X hw si_cl9 2 (by decide) gf_RX9_26 rfl rfl rfl (by decide) rfl dX9_restoreSnapshot_23 ?_
        refine lv_aload_n X.1 X.2.1 dX9_restoreSnapshot_26 rfl (lv_at hl 0 rfl) ?_
        refine lv_iload_n X.1 X.2.1 dX9_restoreSnapshot_27 rfl (lv_at hl 1 rfl) ?_
        obtain ⟨q3, eq3, hf⟩ := si_ob hf
        refine si_cVr [.int x1] cal_X9_slotAt gm_RX9_347 X hw hA hl.1 (c_X9_slotAt l E F x1 q2.2 q3 eq3) si_cl9 rfl ⟨⟨rfl, rfl⟩, Nat.le_of_ble_eq_true rfl, Nat.le_of_ble_eq_true rfl⟩ rfl rfl (Nat.le_of_ble_eq_true rfl) ⟨Nat.zero_le _, Nat.zero_le _⟩ dX9_restoreSnapshot_28 (fun H locs hw => ?_)
        have hq3_1 : si_kd q3.1 = 4 := Decidable.byContradiction fun h9 => by rw [if_pos h9] at hf; cases hf
        have hf := si_in (not_not_intro hq3_1) hf
        refine si_getR (k' := (q3.1 + 1)) (d := 1) X hw si_cl4 0 (by decide) gf_RX9_355 rfl hq3_1 rfl (by decide) rfl dX9_restoreSnapshot_31 ?_
        obtain ⟨S4, eS4, hf⟩ := si_ob hf
        refine si_cVv [.ref (E.2.1 (q3.1 + 1))] cal_X7_copyFrom gm_RX9_356 X hw hA hl.1 (c_X7_copyFrom l E F 7 (q3.1 + 1) rfl (sk_4_1 hq3_1) q3.2 S4 eS4) si_cl7 rfl ⟨⟨rfl, rfl⟩, Nat.le_of_ble_eq_true rfl, Nat.le_of_ble_eq_true rfl⟩ rfl rfl (Nat.le_of_ble_eq_true rfl) ⟨Nat.zero_le _, Nat.zero_le _⟩ dX9_restoreSnapshot_34 (fun H locs hw => ?_)
        refine lv_aload_n X.1 X.2.1 dX9_restoreSnapshot_37 rfl (lv_at hl 0 rfl) ?_
        refine si_getR (k' := 16) (d := 16) X hw si_cl9 3 (by decide) gf_RX9_33 rfl rfl rfl (by decide) rfl dX9_restoreSnapshot_38 ?_
        refine lv_aload_n X.1 X.2.1 dX9_restoreSnapshot_41 rfl (lv_at hl 0 rfl) ?_
        refine lv_iload_n X.1 X.2.1 dX9_restoreSnapshot_42 rfl (lv_at hl 1 rfl) ?_
        obtain ⟨q5, eq5, hf⟩ := si_ob hf
        refine si_cVr [.int x1] cal_X9_slotAt gm_RX9_347 X hw hA hl.1 (c_X9_slotAt l E F x1 S4 q5 eq5) si_cl9 rfl ⟨⟨rfl, rfl⟩, Nat.le_of_ble_eq_true rfl, Nat.le_of_ble_eq_true rfl⟩ rfl rfl (Nat.le_of_ble_eq_true rfl) ⟨Nat.zero_le _, Nat.zero_le _⟩ dX9_restoreSnapshot_43 (fun H locs hw => ?_)
        have hq5_1 : si_kd q5.1 = 4 := Decidable.byContradiction fun h9 => by rw [if_pos h9] at hf; cases hf
        have hf := si_in (not_not_intro hq5_1) hf
        refine si_getR (k' := (q5.1 + 10)) (d := 10) X hw si_cl4 1 (by decide) gf_RX9_360 rfl hq5_1 rfl (by decide) rfl dX9_restoreSnapshot_46 ?_
        obtain ⟨S6, eS6, hf⟩ := si_ob hf
        refine si_cVv [.ref (E.2.1 (q5.1 + 10))] cal_X8_copyFrom gm_RX9_361 X hw hA hl.1 (c_X8_copyFrom l E F 16 (q5.1 + 10) rfl (sk_4_10 hq5_1) q5.2 S6 eS6) si_cl8 rfl ⟨⟨rfl, rfl⟩, Nat.le_of_ble_eq_true rfl, Nat.le_of_ble_eq_true rfl⟩ rfl rfl (Nat.le_of_ble_eq_true rfl) ⟨Nat.zero_le _, Nat.zero_le _⟩ dX9_restoreSnapshot_49 (fun H locs hw => ?_)
        refine lv_aload_n X.1 X.2.1 dX9_restoreSnapshot_52 rfl (lv_at hl 0 rfl) ?_
        refine si_getR (k' := 21) (d := 21) X hw si_cl9 4 (by decide) gf_RX9_40 rfl rfl rfl (by decide) rfl dX9_restoreSnapshot_53 ?_
        obtain ⟨S7, eS7, hf⟩ := si_ob hf
        refine si_cVv [] cal_X0_clear gm_RX9_103 X hw hA hl.1 (c_X0_clear l E F S6 S7 eS7) si_cl0 rfl ⟨⟨rfl, rfl⟩, Nat.le_of_ble_eq_true rfl, Nat.le_of_ble_eq_true rfl⟩ rfl rfl (Nat.le_of_ble_eq_true rfl) ⟨Nat.zero_le _, Nat.zero_le _⟩ dX9_restoreSnapshot_56 (fun H locs hw => ?_)
        refine lv_iconst (v := 1) X.1 X.2.1 dX9_restoreSnapshot_59 (by decide) ?_
        obtain ⟨v8, ev8, hf⟩ := si_ob hf
        exact hret _ _ _ _ _ _ (si_bzf ev8 hf) (si_nz (si_bz_inv ev8).1) hw dX9_restoreSnapshot_60
      · have hf := si_ip c17 hf
        exact B20 _ _ _ _ hf hw (lv_sub hl [] rfl)

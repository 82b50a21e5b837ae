theorem dX9_isDay_0 : decode cX9_isDay 0 = .ok (.iload_n 0, 1) := by decide +kernel
theorem dX9_isDay_1 : decode cX9_isDay 1 = .ok (.ifCond .lt 14, 3) := by decide +kernel
theorem dX9_isDay_4 : decode cX9_isDay 4 = .ok (.iload_n 0, 1) := by decide +kernel
theorem dX9_isDay_5 : decode cX9_isDay 5 = .ok (.sipush 9999, 3) := by decide +kernel
theorem dX9_isDay_8 : decode cX9_isDay 8 = .ok (.if_icmp .gt 7, 3) := by decide +kernel
theorem dX9_isDay_11 : decode cX9_isDay 11 = .ok (.iconst 1, 1) := by decide +kernel
theorem dX9_isDay_12 : decode cX9_isDay 12 = .ok (.goto 4, 3) := by decide +kernel
theorem dX9_isDay_15 : decode cX9_isDay 15 = .ok (.iconst 0, 1) := by decide +kernel
theorem dX9_isDay_16 : decode cX9_isDay 16 = .ok (.ireturn, 1) := by decide +kernel
theorem dX9_isWeighing_0 : decode cX9_isWeighing 0 = .ok (.iload_n 1, 1) := by decide +kernel
theorem dX9_isWeighing_1 : decode cX9_isWeighing 1 = .ok (.iload_n 2, 1) := by decide +kernel
theorem dX9_isWeighing_2 : decode cX9_isWeighing 2 = .ok (.ior, 1) := by decide +kernel
theorem dX9_isWeighing_3 : decode cX9_isWeighing 3 = .ok (.iconst 1, 1) := by decide +kernel
theorem dX9_isWeighing_4 : decode cX9_isWeighing 4 = .ok (.iload_n 0, 1) := by decide +kernel
theorem dX9_isWeighing_5 : decode cX9_isWeighing 5 = .ok (.ishl, 1) := by decide +kernel
theorem dX9_isWeighing_6 : decode cX9_isWeighing 6 = .ok (.ineg, 1) := by decide +kernel
theorem dX9_isWeighing_7 : decode cX9_isWeighing 7 = .ok (.iand, 1) := by decide +kernel
theorem dX9_isWeighing_8 : decode cX9_isWeighing 8 = .ok (.ifCond .ne 7, 3) := by decide +kernel
theorem dX9_isWeighing_11 : decode cX9_isWeighing 11 = .ok (.iconst 1, 1) := by decide +kernel
theorem dX9_isWeighing_12 : decode cX9_isWeighing 12 = .ok (.goto 4, 3) := by decide +kernel
theorem dX9_isWeighing_15 : decode cX9_isWeighing 15 = .ok (.iconst 0, 1) := by decide +kernel
theorem dX9_isWeighing_16 : decode cX9_isWeighing 16 = .ok (.istore_n 3, 1) := by decide +kernel
theorem dX9_isWeighing_17 : decode cX9_isWeighing 17 = .ok (.iload_n 1, 1) := by decide +kernel
theorem dX9_isWeighing_18 : decode cX9_isWeighing 18 = .ok (.iload_n 2, 1) := by decide +kernel
theorem dX9_isWeighing_19 : decode cX9_isWeighing 19 = .ok (.iand, 1) := by decide +kernel
theorem dX9_isWeighing_20 : decode cX9_isWeighing 20 = .ok (.ifCond .ne 7, 3) := by decide +kernel
theorem dX9_isWeighing_23 : decode cX9_isWeighing 23 = .ok (.iconst 1, 1) := by decide +kernel
theorem dX9_isWeighing_24 : decode cX9_isWeighing 24 = .ok (.goto 4, 3) := by decide +kernel
theorem dX9_isWeighing_27 : decode cX9_isWeighing 27 = .ok (.iconst 0, 1) := by decide +kernel
theorem dX9_isWeighing_28 : decode cX9_isWeighing 28 = .ok (.istore 4, 2) := by decide +kernel
theorem dX9_isWeighing_30 : decode cX9_isWeighing 30 = .ok (.iload_n 1, 1) := by decide +kernel
theorem dX9_isWeighing_31 : decode cX9_isWeighing 31 = .ok (.invokestatic 287, 3) := by decide +kernel
theorem dX9_isWeighing_34 : decode cX9_isWeighing 34 = .ok (.iload_n 2, 1) := by decide +kernel
theorem dX9_isWeighing_35 : decode cX9_isWeighing 35 = .ok (.invokestatic 287, 3) := by decide +kernel
theorem dX9_isWeighing_38 : decode cX9_isWeighing 38 = .ok (.if_icmp .ne 7, 3) := by decide +kernel
theorem dX9_isWeighing_41 : decode cX9_isWeighing 41 = .ok (.iconst 1, 1) := by decide +kernel
theorem dX9_isWeighing_42 : decode cX9_isWeighing 42 = .ok (.goto 4, 3) := by decide +kernel
theorem dX9_isWeighing_45 : decode cX9_isWeighing 45 = .ok (.iconst 0, 1) := by decide +kernel
theorem dX9_isWeighing_46 : decode cX9_isWeighing 46 = .ok (.istore 5, 2) := by decide +kernel
theorem dX9_isWeighing_48 : decode cX9_isWeighing 48 = .ok (.iload_n 3, 1) := by decide +kernel
theorem dX9_isWeighing_49 : decode cX9_isWeighing 49 = .ok (.ifCond .eq 21, 3) := by decide +kernel
theorem dX9_isWeighing_52 : decode cX9_isWeighing 52 = .ok (.iload 4, 2) := by decide +kernel
theorem dX9_isWeighing_54 : decode cX9_isWeighing 54 = .ok (.ifCond .eq 16, 3) := by decide +kernel
theorem dX9_isWeighing_57 : decode cX9_isWeighing 57 = .ok (.iload 5, 2) := by decide +kernel
theorem dX9_isWeighing_59 : decode cX9_isWeighing 59 = .ok (.ifCond .eq 11, 3) := by decide +kernel
theorem dX9_isWeighing_62 : decode cX9_isWeighing 62 = .ok (.iload_n 1, 1) := by decide +kernel
theorem dX9_isWeighing_63 : decode cX9_isWeighing 63 = .ok (.ifCond .eq 7, 3) := by decide +kernel
theorem dX9_isWeighing_66 : decode cX9_isWeighing 66 = .ok (.iconst 1, 1) := by decide +kernel
theorem dX9_isWeighing_67 : decode cX9_isWeighing 67 = .ok (.goto 4, 3) := by decide +kernel
theorem dX9_isWeighing_70 : decode cX9_isWeighing 70 = .ok (.iconst 0, 1) := by decide +kernel
theorem dX9_isWeighing_71 : decode cX9_isWeighing 71 = .ok (.ireturn, 1) := by decide +kernel
theorem dX9_orNone_0 : decode cX9_orNone 0 = .ok (.iload_n 0, 1) := by decide +kernel
theorem dX9_orNone_1 : decode cX9_orNone 1 = .ok (.bipush 99, 2) := by decide +kernel
theorem dX9_orNone_3 : decode cX9_orNone 3 = .ok (.if_icmp .ne 8, 3) := by decide +kernel
theorem dX9_orNone_6 : decode cX9_orNone 6 = .ok (.bipush (-2), 2) := by decide +kernel
theorem dX9_orNone_8 : decode cX9_orNone 8 = .ok (.goto 4, 3) := by decide +kernel
theorem dX9_orNone_11 : decode cX9_orNone 11 = .ok (.iload_n 0, 1) := by decide +kernel
theorem dX9_orNone_12 : decode cX9_orNone 12 = .ok (.ireturn, 1) := by decide +kernel
theorem dX9_slotAt_0 : decode cX9_slotAt 0 = .ok (.iload_n 1, 1) := by decide +kernel
theorem dX9_slotAt_1 : decode cX9_slotAt 1 = .ok (.ifCond .ne 10, 3) := by decide +kernel
theorem dX9_slotAt_4 : decode cX9_slotAt 4 = .ok (.aload_n 0, 1) := by decide +kernel
theorem dX9_slotAt_5 : decode cX9_slotAt 5 = .ok (.getfield 47, 3) := by decide +kernel
theorem dX9_slotAt_8 : decode cX9_slotAt 8 = .ok (.goto 7, 3) := by decide +kernel
theorem dX9_slotAt_11 : decode cX9_slotAt 11 = .ok (.aload_n 0, 1) := by decide +kernel
theorem dX9_slotAt_12 : decode cX9_slotAt 12 = .ok (.getfield 51, 3) := by decide +kernel
theorem dX9_slotAt_15 : decode cX9_slotAt 15 = .ok (.areturn, 1) := by decide +kernel
theorem dX9_hasScale_0 : decode cX9_hasScale 0 = .ok (.iload_n 1, 1) := by decide +kernel
theorem dX9_hasScale_1 : decode cX9_hasScale 1 = .ok (.ifCond .lt 18, 3) := by decide +kernel
theorem dX9_hasScale_4 : decode cX9_hasScale 4 = .ok (.iload_n 1, 1) := by decide +kernel
theorem dX9_hasScale_5 : decode cX9_hasScale 5 = .ok (.aload_n 0, 1) := by decide +kernel
theorem dX9_hasScale_6 : decode cX9_hasScale 6 = .ok (.getfield 71, 3) := by decide +kernel
theorem dX9_hasScale_9 : decode cX9_hasScale 9 = .ok (.getfield 116, 3) := by decide +kernel
theorem dX9_hasScale_12 : decode cX9_hasScale 12 = .ok (.if_icmp .ge 7, 3) := by decide +kernel
theorem dX9_hasScale_15 : decode cX9_hasScale 15 = .ok (.iconst 1, 1) := by decide +kernel
theorem dX9_hasScale_16 : decode cX9_hasScale 16 = .ok (.goto 4, 3) := by decide +kernel
theorem dX9_hasScale_19 : decode cX9_hasScale 19 = .ok (.iconst 0, 1) := by decide +kernel
theorem dX9_hasScale_20 : decode cX9_hasScale 20 = .ok (.ireturn, 1) := by decide +kernel
theorem dX9_hasVisit_0 : decode cX9_hasVisit 0 = .ok (.iload_n 1, 1) := by decide +kernel
theorem dX9_hasVisit_1 : decode cX9_hasVisit 1 = .ok (.ifCond .lt 18, 3) := by decide +kernel
theorem dX9_hasVisit_4 : decode cX9_hasVisit 4 = .ok (.iload_n 1, 1) := by decide +kernel
theorem dX9_hasVisit_5 : decode cX9_hasVisit 5 = .ok (.aload_n 0, 1) := by decide +kernel
theorem dX9_hasVisit_6 : decode cX9_hasVisit 6 = .ok (.getfield 26, 3) := by decide +kernel
theorem dX9_hasVisit_9 : decode cX9_hasVisit 9 = .ok (.getfield 97, 3) := by decide +kernel
theorem dX9_hasVisit_12 : decode cX9_hasVisit 12 = .ok (.if_icmp .ge 7, 3) := by decide +kernel
theorem dX9_hasVisit_15 : decode cX9_hasVisit 15 = .ok (.iconst 1, 1) := by decide +kernel
theorem dX9_hasVisit_16 : decode cX9_hasVisit 16 = .ok (.goto 4, 3) := by decide +kernel
theorem dX9_hasVisit_19 : decode cX9_hasVisit 19 = .ok (.iconst 0, 1) := by decide +kernel
theorem dX9_hasVisit_20 : decode cX9_hasVisit 20 = .ok (.ireturn, 1) := by decide +kernel
theorem dX9_hasTest_0 : decode cX9_hasTest 0 = .ok (.aload_n 0, 1) := by decide +kernel
theorem dX9_hasTest_1 : decode cX9_hasTest 1 = .ok (.iload_n 1, 1) := by decide +kernel
theorem dX9_hasTest_2 : decode cX9_hasTest 2 = .ok (.invokevirtual 181, 3) := by decide +kernel
theorem dX9_hasTest_5 : decode cX9_hasTest 5 = .ok (.ifCond .eq 24, 3) := by decide +kernel
theorem dX9_hasTest_8 : decode cX9_hasTest 8 = .ok (.iload_n 2, 1) := by decide +kernel
theorem dX9_hasTest_9 : decode cX9_hasTest 9 = .ok (.ifCond .lt 20, 3) := by decide +kernel
theorem dX9_hasTest_12 : decode cX9_hasTest 12 = .ok (.iload_n 2, 1) := by decide +kernel
theorem dX9_hasTest_13 : decode cX9_hasTest 13 = .ok (.aload_n 0, 1) := by decide +kernel
theorem dX9_hasTest_14 : decode cX9_hasTest 14 = .ok (.getfield 26, 3) := by decide +kernel
theorem dX9_hasTest_17 : decode cX9_hasTest 17 = .ok (.getfield 201, 3) := by decide +kernel
theorem dX9_hasTest_20 : decode cX9_hasTest 20 = .ok (.iload_n 1, 1) := by decide +kernel
theorem dX9_hasTest_21 : decode cX9_hasTest 21 = .ok (.iaload, 1) := by decide +kernel
theorem dX9_hasTest_22 : decode cX9_hasTest 22 = .ok (.if_icmp .ge 7, 3) := by decide +kernel
theorem dX9_hasTest_25 : decode cX9_hasTest 25 = .ok (.iconst 1, 1) := by decide +kernel
theorem dX9_hasTest_26 : decode cX9_hasTest 26 = .ok (.goto 4, 3) := by decide +kernel
theorem dX9_hasTest_29 : decode cX9_hasTest 29 = .ok (.iconst 0, 1) := by decide +kernel
theorem dX9_hasTest_30 : decode cX9_hasTest 30 = .ok (.ireturn, 1) := by decide +kernel
theorem dX9_hasSet_0 : decode cX9_hasSet 0 = .ok (.iload_n 1, 1) := by decide +kernel
theorem dX9_hasSet_1 : decode cX9_hasSet 1 = .ok (.ifCond .lt 18, 3) := by decide +kernel
theorem dX9_hasSet_4 : decode cX9_hasSet 4 = .ok (.iload_n 1, 1) := by decide +kernel
theorem dX9_hasSet_5 : decode cX9_hasSet 5 = .ok (.aload_n 0, 1) := by decide +kernel
theorem dX9_hasSet_6 : decode cX9_hasSet 6 = .ok (.getfield 71, 3) := by decide +kernel
theorem dX9_hasSet_9 : decode cX9_hasSet 9 = .ok (.getfield 122, 3) := by decide +kernel
theorem dX9_hasSet_12 : decode cX9_hasSet 12 = .ok (.if_icmp .ge 7, 3) := by decide +kernel
theorem dX9_hasSet_15 : decode cX9_hasSet 15 = .ok (.iconst 1, 1) := by decide +kernel
theorem dX9_hasSet_16 : decode cX9_hasSet 16 = .ok (.goto 4, 3) := by decide +kernel
theorem dX9_hasSet_19 : decode cX9_hasSet 19 = .ok (.iconst 0, 1) := by decide +kernel
theorem dX9_hasSet_20 : decode cX9_hasSet 20 = .ok (.ireturn, 1) := by decide +kernel
theorem dX9_chooseSet_0 : decode cX9_chooseSet 0 = .ok (.aload_n 0, 1) := by decide +kernel
theorem dX9_chooseSet_1 : decode cX9_chooseSet 1 = .ok (.getfield 64, 3) := by decide +kernel
theorem dX9_chooseSet_4 : decode cX9_chooseSet 4 = .ok (.aload_n 0, 1) := by decide +kernel
theorem dX9_chooseSet_5 : decode cX9_chooseSet 5 = .ok (.getfield 71, 3) := by decide +kernel
theorem dX9_chooseSet_8 : decode cX9_chooseSet 8 = .ok (.getfield 268, 3) := by decide +kernel
theorem dX9_chooseSet_11 : decode cX9_chooseSet 11 = .ok (.iload_n 1, 1) := by decide +kernel
theorem dX9_chooseSet_12 : decode cX9_chooseSet 12 = .ok (.iaload, 1) := by decide +kernel
theorem dX9_chooseSet_13 : decode cX9_chooseSet 13 = .ok (.aload_n 0, 1) := by decide +kernel
theorem dX9_chooseSet_14 : decode cX9_chooseSet 14 = .ok (.getfield 33, 3) := by decide +kernel
theorem dX9_chooseSet_17 : decode cX9_chooseSet 17 = .ok (.getfield 275, 3) := by decide +kernel
theorem dX9_chooseSet_20 : decode cX9_chooseSet 20 = .ok (.iload_n 1, 1) := by decide +kernel
theorem dX9_chooseSet_21 : decode cX9_chooseSet 21 = .ok (.iaload, 1) := by decide +kernel
theorem dX9_chooseSet_22 : decode cX9_chooseSet 22 = .ok (.aload_n 0, 1) := by decide +kernel
theorem dX9_chooseSet_23 : decode cX9_chooseSet 23 = .ok (.getfield 33, 3) := by decide +kernel
theorem dX9_chooseSet_26 : decode cX9_chooseSet 26 = .ok (.getfield 281, 3) := by decide +kernel
theorem dX9_chooseSet_29 : decode cX9_chooseSet 29 = .ok (.iload_n 1, 1) := by decide +kernel
theorem dX9_chooseSet_30 : decode cX9_chooseSet 30 = .ok (.iaload, 1) := by decide +kernel
theorem dX9_chooseSet_31 : decode cX9_chooseSet 31 = .ok (.aload_n 0, 1) := by decide +kernel
theorem dX9_chooseSet_32 : decode cX9_chooseSet 32 = .ok (.getfield 33, 3) := by decide +kernel
theorem dX9_chooseSet_35 : decode cX9_chooseSet 35 = .ok (.getfield 284, 3) := by decide +kernel
theorem dX9_chooseSet_38 : decode cX9_chooseSet 38 = .ok (.iload_n 1, 1) := by decide +kernel
theorem dX9_chooseSet_39 : decode cX9_chooseSet 39 = .ok (.iaload, 1) := by decide +kernel
theorem dX9_chooseSet_40 : decode cX9_chooseSet 40 = .ok (.invokevirtual 329, 3) := by decide +kernel
theorem dX9_chooseSet_43 : decode cX9_chooseSet 43 = .ok (.return_, 1) := by decide +kernel
theorem dX9_append_0 : decode cX9_append 0 = .ok (.aload_n 0, 1) := by decide +kernel
theorem dX9_append_1 : decode cX9_append 1 = .ok (.getfield 10, 3) := by decide +kernel
theorem dX9_append_4 : decode cX9_append 4 = .ok (.getfield 78, 3) := by decide +kernel
theorem dX9_append_7 : decode cX9_append 7 = .ok (.bipush 20, 2) := by decide +kernel
theorem dX9_append_9 : decode cX9_append 9 = .ok (.iadd, 1) := by decide +kernel
theorem dX9_append_10 : decode cX9_append 10 = .ok (.sipush 800, 3) := by decide +kernel
theorem dX9_append_13 : decode cX9_append 13 = .ok (.if_icmp .le 6, 3) := by decide +kernel
theorem dX9_append_16 : decode cX9_append 16 = .ok (.bipush (-3), 2) := by decide +kernel
theorem dX9_append_18 : decode cX9_append 18 = .ok (.ireturn, 1) := by decide +kernel
theorem dX9_append_19 : decode cX9_append 19 = .ok (.aload_n 0, 1) := by decide +kernel
theorem dX9_append_20 : decode cX9_append 20 = .ok (.getfield 10, 3) := by decide +kernel
theorem dX9_append_23 : decode cX9_append 23 = .ok (.iload_n 1, 1) := by decide +kernel
theorem dX9_append_24 : decode cX9_append 24 = .ok (.invokevirtual 82, 3) := by decide +kernel
theorem dX9_append_27 : decode cX9_append 27 = .ok (.aload_n 0, 1) := by decide +kernel
theorem dX9_append_28 : decode cX9_append 28 = .ok (.getfield 10, 3) := by decide +kernel
theorem dX9_append_31 : decode cX9_append 31 = .ok (.iload_n 2, 1) := by decide +kernel
theorem dX9_append_32 : decode cX9_append 32 = .ok (.invokevirtual 82, 3) := by decide +kernel
theorem dX9_append_35 : decode cX9_append 35 = .ok (.aload_n 0, 1) := by decide +kernel
theorem dX9_append_36 : decode cX9_append 36 = .ok (.getfield 10, 3) := by decide +kernel
theorem dX9_append_39 : decode cX9_append 39 = .ok (.iload_n 3, 1) := by decide +kernel
theorem dX9_append_40 : decode cX9_append 40 = .ok (.invokevirtual 82, 3) := by decide +kernel
theorem dX9_append_43 : decode cX9_append 43 = .ok (.aload_n 0, 1) := by decide +kernel
theorem dX9_append_44 : decode cX9_append 44 = .ok (.getfield 10, 3) := by decide +kernel
theorem dX9_append_47 : decode cX9_append 47 = .ok (.iload 4, 2) := by decide +kernel
theorem dX9_append_49 : decode cX9_append 49 = .ok (.invokevirtual 82, 3) := by decide +kernel
theorem dX9_append_52 : decode cX9_append 52 = .ok (.aload_n 0, 1) := by decide +kernel
theorem dX9_append_53 : decode cX9_append 53 = .ok (.getfield 10, 3) := by decide +kernel
theorem dX9_append_56 : decode cX9_append 56 = .ok (.iload 5, 2) := by decide +kernel
theorem dX9_append_58 : decode cX9_append 58 = .ok (.invokevirtual 82, 3) := by decide +kernel
theorem dX9_append_61 : decode cX9_append 61 = .ok (.aload_n 0, 1) := by decide +kernel
theorem dX9_append_62 : decode cX9_append 62 = .ok (.getfield 10, 3) := by decide +kernel
theorem dX9_append_65 : decode cX9_append 65 = .ok (.getfield 78, 3) := by decide +kernel
theorem dX9_append_68 : decode cX9_append 68 = .ok (.ireturn, 1) := by decide +kernel
theorem dX9_takeDraft_0 : decode cX9_takeDraft 0 = .ok (.aload_n 0, 1) := by decide +kernel
theorem dX9_takeDraft_1 : decode cX9_takeDraft 1 = .ok (.getfield 71, 3) := by decide +kernel
theorem dX9_takeDraft_4 : decode cX9_takeDraft 4 = .ok (.astore_n 1, 1) := by decide +kernel
theorem dX9_takeDraft_5 : decode cX9_takeDraft 5 = .ok (.aload_n 0, 1) := by decide +kernel
theorem dX9_takeDraft_6 : decode cX9_takeDraft 6 = .ok (.aload_n 0, 1) := by decide +kernel
theorem dX9_takeDraft_7 : decode cX9_takeDraft 7 = .ok (.getfield 75, 3) := by decide +kernel
theorem dX9_takeDraft_10 : decode cX9_takeDraft 10 = .ok (.putfield 71, 3) := by decide +kernel
theorem dX9_takeDraft_13 : decode cX9_takeDraft 13 = .ok (.aload_n 0, 1) := by decide +kernel
theorem dX9_takeDraft_14 : decode cX9_takeDraft 14 = .ok (.aload_n 1, 1) := by decide +kernel
theorem dX9_takeDraft_15 : decode cX9_takeDraft 15 = .ok (.putfield 75, 3) := by decide +kernel
theorem dX9_takeDraft_18 : decode cX9_takeDraft 18 = .ok (.aload_n 0, 1) := by decide +kernel
theorem dX9_takeDraft_19 : decode cX9_takeDraft 19 = .ok (.getfield 19, 3) := by decide +kernel
theorem dX9_takeDraft_22 : decode cX9_takeDraft 22 = .ok (.aload_n 0, 1) := by decide +kernel
theorem dX9_takeDraft_23 : decode cX9_takeDraft 23 = .ok (.getfield 71, 3) := by decide +kernel
theorem dX9_takeDraft_26 : decode cX9_takeDraft 26 = .ok (.invokevirtual 93, 3) := by decide +kernel
theorem dX9_takeDraft_29 : decode cX9_takeDraft 29 = .ok (.aload_n 0, 1) := by decide +kernel
theorem dX9_takeDraft_30 : decode cX9_takeDraft 30 = .ok (.getfield 26, 3) := by decide +kernel
theorem dX9_takeDraft_33 : decode cX9_takeDraft 33 = .ok (.iconst 0, 1) := by decide +kernel
theorem dX9_takeDraft_34 : decode cX9_takeDraft 34 = .ok (.putfield 97, 3) := by decide +kernel
theorem dX9_takeDraft_37 : decode cX9_takeDraft 37 = .ok (.aload_n 0, 1) := by decide +kernel
theorem dX9_takeDraft_38 : decode cX9_takeDraft 38 = .ok (.getfield 33, 3) := by decide +kernel
theorem dX9_takeDraft_41 : decode cX9_takeDraft 41 = .ok (.aload_n 0, 1) := by decide +kernel
theorem dX9_takeDraft_42 : decode cX9_takeDraft 42 = .ok (.getfield 71, 3) := by decide +kernel
theorem dX9_takeDraft_45 : decode cX9_takeDraft 45 = .ok (.invokevirtual 100, 3) := by decide +kernel
theorem dX9_takeDraft_48 : decode cX9_takeDraft 48 = .ok (.aload_n 0, 1) := by decide +kernel
theorem dX9_takeDraft_49 : decode cX9_takeDraft 49 = .ok (.getfield 40, 3) := by decide +kernel
theorem dX9_takeDraft_52 : decode cX9_takeDraft 52 = .ok (.invokevirtual 103, 3) := by decide +kernel
theorem dX9_takeDraft_55 : decode cX9_takeDraft 55 = .ok (.aload_n 0, 1) := by decide +kernel
theorem dX9_takeDraft_56 : decode cX9_takeDraft 56 = .ok (.getfield 47, 3) := by decide +kernel
theorem dX9_takeDraft_59 : decode cX9_takeDraft 59 = .ok (.iconst 0, 1) := by decide +kernel
theorem dX9_takeDraft_60 : decode cX9_takeDraft 60 = .ok (.putfield 106, 3) := by decide +kernel
theorem dX9_takeDraft_63 : decode cX9_takeDraft 63 = .ok (.aload_n 0, 1) := by decide +kernel
theorem dX9_takeDraft_64 : decode cX9_takeDraft 64 = .ok (.getfield 51, 3) := by decide +kernel
theorem dX9_takeDraft_67 : decode cX9_takeDraft 67 = .ok (.iconst 0, 1) := by decide +kernel
theorem dX9_takeDraft_68 : decode cX9_takeDraft 68 = .ok (.putfield 106, 3) := by decide +kernel
theorem dX9_takeDraft_71 : decode cX9_takeDraft 71 = .ok (.return_, 1) := by decide +kernel
theorem dX9_parse_0 : decode cX9_parse 0 = .ok (.iload_n 1, 1) := by decide +kernel
theorem dX9_parse_1 : decode cX9_parse 1 = .ok (.ifCond .lt 14, 3) := by decide +kernel
theorem dX9_parse_4 : decode cX9_parse 4 = .ok (.iload_n 1, 1) := by decide +kernel
theorem dX9_parse_5 : decode cX9_parse 5 = .ok (.aload_n 0, 1) := by decide +kernel
theorem dX9_parse_6 : decode cX9_parse 6 = .ok (.getfield 10, 3) := by decide +kernel
theorem dX9_parse_9 : decode cX9_parse 9 = .ok (.getfield 78, 3) := by decide +kernel
theorem dX9_parse_12 : decode cX9_parse 12 = .ok (.if_icmp .le 5, 3) := by decide +kernel
theorem dX9_parse_15 : decode cX9_parse 15 = .ok (.iconst (-1), 1) := by decide +kernel
theorem dX9_parse_16 : decode cX9_parse 16 = .ok (.ireturn, 1) := by decide +kernel
theorem dX9_parse_17 : decode cX9_parse 17 = .ok (.aload_n 0, 1) := by decide +kernel
theorem dX9_parse_18 : decode cX9_parse 18 = .ok (.getfield 10, 3) := by decide +kernel
theorem dX9_parse_21 : decode cX9_parse 21 = .ok (.iload_n 1, 1) := by decide +kernel
theorem dX9_parse_22 : decode cX9_parse 22 = .ok (.aload_n 0, 1) := by decide +kernel
theorem dX9_parse_23 : decode cX9_parse 23 = .ok (.getfield 75, 3) := by decide +kernel
theorem dX9_parse_26 : decode cX9_parse 26 = .ok (.invokevirtual 86, 3) := by decide +kernel
theorem dX9_parse_29 : decode cX9_parse 29 = .ok (.istore_n 2, 1) := by decide +kernel
theorem dX9_parse_30 : decode cX9_parse 30 = .ok (.aload_n 0, 1) := by decide +kernel
theorem dX9_parse_31 : decode cX9_parse 31 = .ok (.getfield 10, 3) := by decide +kernel
theorem dX9_parse_34 : decode cX9_parse 34 = .ok (.iconst 0, 1) := by decide +kernel
theorem dX9_parse_35 : decode cX9_parse 35 = .ok (.putfield 78, 3) := by decide +kernel
theorem dX9_parse_38 : decode cX9_parse 38 = .ok (.iload_n 2, 1) := by decide +kernel
theorem dX9_parse_39 : decode cX9_parse 39 = .ok (.ifCond .ne 7, 3) := by decide +kernel
theorem dX9_parse_42 : decode cX9_parse 42 = .ok (.aload_n 0, 1) := by decide +kernel
theorem dX9_parse_43 : decode cX9_parse 43 = .ok (.invokevirtual 90, 3) := by decide +kernel
theorem dX9_parse_46 : decode cX9_parse 46 = .ok (.iload_n 2, 1) := by decide +kernel
theorem dX9_parse_47 : decode cX9_parse 47 = .ok (.ireturn, 1) := by decide +kernel
theorem dX9_errorPosition_0 : decode cX9_errorPosition 0 = .ok (.aload_n 0, 1) := by decide +kernel
theorem dX9_errorPosition_1 : decode cX9_errorPosition 1 = .ok (.getfield 10, 3) := by decide +kernel
theorem dX9_errorPosition_4 : decode cX9_errorPosition 4 = .ok (.getfield 110, 3) := by decide +kernel
theorem dX9_errorPosition_7 : decode cX9_errorPosition 7 = .ok (.ireturn, 1) := by decide +kernel
theorem dX9_traderCount_0 : decode cX9_traderCount 0 = .ok (.aload_n 0, 1) := by decide +kernel
theorem dX9_traderCount_1 : decode cX9_traderCount 1 = .ok (.getfield 71, 3) := by decide +kernel
theorem dX9_traderCount_4 : decode cX9_traderCount 4 = .ok (.getfield 113, 3) := by decide +kernel
theorem dX9_traderCount_7 : decode cX9_traderCount 7 = .ok (.ireturn, 1) := by decide +kernel
theorem dX9_scaleCount_0 : decode cX9_scaleCount 0 = .ok (.aload_n 0, 1) := by decide +kernel
theorem dX9_scaleCount_1 : decode cX9_scaleCount 1 = .ok (.getfield 71, 3) := by decide +kernel
theorem dX9_scaleCount_4 : decode cX9_scaleCount 4 = .ok (.getfield 116, 3) := by decide +kernel
theorem dX9_scaleCount_7 : decode cX9_scaleCount 7 = .ok (.ireturn, 1) := by decide +kernel
theorem dX9_massCount_0 : decode cX9_massCount 0 = .ok (.aload_n 0, 1) := by decide +kernel
theorem dX9_massCount_1 : decode cX9_massCount 1 = .ok (.getfield 71, 3) := by decide +kernel
theorem dX9_massCount_4 : decode cX9_massCount 4 = .ok (.getfield 119, 3) := by decide +kernel
theorem dX9_massCount_7 : decode cX9_massCount 7 = .ok (.ireturn, 1) := by decide +kernel
theorem dX9_setCount_0 : decode cX9_setCount 0 = .ok (.aload_n 0, 1) := by decide +kernel
theorem dX9_setCount_1 : decode cX9_setCount 1 = .ok (.getfield 71, 3) := by decide +kernel
theorem dX9_setCount_4 : decode cX9_setCount 4 = .ok (.getfield 122, 3) := by decide +kernel
theorem dX9_setCount_7 : decode cX9_setCount 7 = .ok (.ireturn, 1) := by decide +kernel
theorem dX9_trader_0 : decode cX9_trader 0 = .ok (.aload_n 0, 1) := by decide +kernel
theorem dX9_trader_1 : decode cX9_trader 1 = .ok (.iload_n 1, 1) := by decide +kernel
theorem dX9_trader_2 : decode cX9_trader 2 = .ok (.invokevirtual 125, 3) := by decide +kernel
theorem dX9_trader_5 : decode cX9_trader 5 = .ok (.ifCond .eq 15, 3) := by decide +kernel
theorem dX9_trader_8 : decode cX9_trader 8 = .ok (.aload_n 0, 1) := by decide +kernel
theorem dX9_trader_9 : decode cX9_trader 9 = .ok (.getfield 71, 3) := by decide +kernel
theorem dX9_trader_12 : decode cX9_trader 12 = .ok (.getfield 129, 3) := by decide +kernel
theorem dX9_trader_15 : decode cX9_trader 15 = .ok (.iload_n 1, 1) := by decide +kernel
theorem dX9_trader_16 : decode cX9_trader 16 = .ok (.iaload, 1) := by decide +kernel
theorem dX9_trader_17 : decode cX9_trader 17 = .ok (.goto 4, 3) := by decide +kernel
theorem dX9_trader_20 : decode cX9_trader 20 = .ok (.iconst (-1), 1) := by decide +kernel
theorem dX9_trader_21 : decode cX9_trader 21 = .ok (.ireturn, 1) := by decide +kernel
theorem dX9_capacity_0 : decode cX9_capacity 0 = .ok (.aload_n 0, 1) := by decide +kernel
theorem dX9_capacity_1 : decode cX9_capacity 1 = .ok (.iload_n 1, 1) := by decide +kernel
theorem dX9_capacity_2 : decode cX9_capacity 2 = .ok (.invokevirtual 125, 3) := by decide +kernel
theorem dX9_capacity_5 : decode cX9_capacity 5 = .ok (.ifCond .eq 15, 3) := by decide +kernel
theorem dX9_capacity_8 : decode cX9_capacity 8 = .ok (.aload_n 0, 1) := by decide +kernel
theorem dX9_capacity_9 : decode cX9_capacity 9 = .ok (.getfield 71, 3) := by decide +kernel
theorem dX9_capacity_12 : decode cX9_capacity 12 = .ok (.getfield 133, 3) := by decide +kernel
theorem dX9_capacity_15 : decode cX9_capacity 15 = .ok (.iload_n 1, 1) := by decide +kernel
theorem dX9_capacity_16 : decode cX9_capacity 16 = .ok (.iaload, 1) := by decide +kernel
theorem dX9_capacity_17 : decode cX9_capacity 17 = .ok (.goto 4, 3) := by decide +kernel
theorem dX9_capacity_20 : decode cX9_capacity 20 = .ok (.iconst (-1), 1) := by decide +kernel
theorem dX9_capacity_21 : decode cX9_capacity 21 = .ok (.ireturn, 1) := by decide +kernel
theorem dX9_massValue_0 : decode cX9_massValue 0 = .ok (.iload_n 1, 1) := by decide +kernel
theorem dX9_massValue_1 : decode cX9_massValue 1 = .ok (.ifCond .lt 26, 3) := by decide +kernel
theorem dX9_massValue_4 : decode cX9_massValue 4 = .ok (.iload_n 1, 1) := by decide +kernel
theorem dX9_massValue_5 : decode cX9_massValue 5 = .ok (.aload_n 0, 1) := by decide +kernel
theorem dX9_massValue_6 : decode cX9_massValue 6 = .ok (.getfield 71, 3) := by decide +kernel
theorem dX9_massValue_9 : decode cX9_massValue 9 = .ok (.getfield 119, 3) := by decide +kernel
theorem dX9_massValue_12 : decode cX9_massValue 12 = .ok (.if_icmp .ge 15, 3) := by decide +kernel
theorem dX9_massValue_15 : decode cX9_massValue 15 = .ok (.aload_n 0, 1) := by decide +kernel
theorem dX9_massValue_16 : decode cX9_massValue 16 = .ok (.getfield 71, 3) := by decide +kernel
theorem dX9_massValue_19 : decode cX9_massValue 19 = .ok (.getfield 152, 3) := by decide +kernel
theorem dX9_massValue_22 : decode cX9_massValue 22 = .ok (.iload_n 1, 1) := by decide +kernel
theorem dX9_massValue_23 : decode cX9_massValue 23 = .ok (.iaload, 1) := by decide +kernel
theorem dX9_massValue_24 : decode cX9_massValue 24 = .ok (.goto 4, 3) := by decide +kernel
theorem dX9_massValue_27 : decode cX9_massValue 27 = .ok (.iconst (-1), 1) := by decide +kernel
theorem dX9_massValue_28 : decode cX9_massValue 28 = .ok (.ireturn, 1) := by decide +kernel
theorem dX9_fewestMasses_0 : decode cX9_fewestMasses 0 = .ok (.iload_n 1, 1) := by decide +kernel
theorem dX9_fewestMasses_1 : decode cX9_fewestMasses 1 = .ok (.ifCond .ge 7, 3) := by decide +kernel
theorem dX9_fewestMasses_4 : decode cX9_fewestMasses 4 = .ok (.iconst (-1), 1) := by decide +kernel
theorem dX9_fewestMasses_5 : decode cX9_fewestMasses 5 = .ok (.goto 11, 3) := by decide +kernel
theorem dX9_fewestMasses_8 : decode cX9_fewestMasses 8 = .ok (.aload_n 0, 1) := by decide +kernel
theorem dX9_fewestMasses_9 : decode cX9_fewestMasses 9 = .ok (.getfield 19, 3) := by decide +kernel
theorem dX9_fewestMasses_12 : decode cX9_fewestMasses 12 = .ok (.iload_n 1, 1) := by decide +kernel
theorem dX9_fewestMasses_13 : decode cX9_fewestMasses 13 = .ok (.invokevirtual 155, 3) := by decide +kernel
theorem dX9_fewestMasses_16 : decode cX9_fewestMasses 16 = .ok (.ireturn, 1) := by decide +kernel
theorem dX9_closestLoad_0 : decode cX9_closestLoad 0 = .ok (.iload_n 1, 1) := by decide +kernel
theorem dX9_closestLoad_1 : decode cX9_closestLoad 1 = .ok (.ifCond .ge 7, 3) := by decide +kernel
theorem dX9_closestLoad_4 : decode cX9_closestLoad 4 = .ok (.iconst (-1), 1) := by decide +kernel
theorem dX9_closestLoad_5 : decode cX9_closestLoad 5 = .ok (.goto 11, 3) := by decide +kernel
theorem dX9_closestLoad_8 : decode cX9_closestLoad 8 = .ok (.aload_n 0, 1) := by decide +kernel
theorem dX9_closestLoad_9 : decode cX9_closestLoad 9 = .ok (.getfield 19, 3) := by decide +kernel
theorem dX9_closestLoad_12 : decode cX9_closestLoad 12 = .ok (.iload_n 1, 1) := by decide +kernel
theorem dX9_closestLoad_13 : decode cX9_closestLoad 13 = .ok (.invokevirtual 159, 3) := by decide +kernel
theorem dX9_closestLoad_16 : decode cX9_closestLoad 16 = .ok (.ireturn, 1) := by decide +kernel
theorem dX9_twoPans_0 : decode cX9_twoPans 0 = .ok (.iload_n 1, 1) := by decide +kernel
theorem dX9_twoPans_1 : decode cX9_twoPans 1 = .ok (.ifCond .ge 7, 3) := by decide +kernel
theorem dX9_twoPans_4 : decode cX9_twoPans 4 = .ok (.iconst (-1), 1) := by decide +kernel
theorem dX9_twoPans_5 : decode cX9_twoPans 5 = .ok (.goto 11, 3) := by decide +kernel
theorem dX9_twoPans_8 : decode cX9_twoPans 8 = .ok (.aload_n 0, 1) := by decide +kernel
theorem dX9_twoPans_9 : decode cX9_twoPans 9 = .ok (.getfield 19, 3) := by decide +kernel
theorem dX9_twoPans_12 : decode cX9_twoPans 12 = .ok (.iload_n 1, 1) := by decide +kernel
theorem dX9_twoPans_13 : decode cX9_twoPans 13 = .ok (.invokevirtual 162, 3) := by decide +kernel
theorem dX9_twoPans_16 : decode cX9_twoPans 16 = .ok (.ireturn, 1) := by decide +kernel
theorem dX9_startVisit_0 : decode cX9_startVisit 0 = .ok (.aload_n 0, 1) := by decide +kernel
theorem dX9_startVisit_1 : decode cX9_startVisit 1 = .ok (.iload_n 1, 1) := by decide +kernel
theorem dX9_startVisit_2 : decode cX9_startVisit 2 = .ok (.invokevirtual 125, 3) := by decide +kernel
theorem dX9_startVisit_5 : decode cX9_startVisit 5 = .ok (.ifCond .eq 22, 3) := by decide +kernel
theorem dX9_startVisit_8 : decode cX9_startVisit 8 = .ok (.iload_n 2, 1) := by decide +kernel
theorem dX9_startVisit_9 : decode cX9_startVisit 9 = .ok (.invokestatic 165, 3) := by decide +kernel
theorem dX9_startVisit_12 : decode cX9_startVisit 12 = .ok (.ifCond .eq 15, 3) := by decide +kernel
theorem dX9_startVisit_15 : decode cX9_startVisit 15 = .ok (.iload_n 2, 1) := by decide +kernel
theorem dX9_startVisit_16 : decode cX9_startVisit 16 = .ok (.aload_n 0, 1) := by decide +kernel
theorem dX9_startVisit_17 : decode cX9_startVisit 17 = .ok (.getfield 26, 3) := by decide +kernel
theorem dX9_startVisit_20 : decode cX9_startVisit 20 = .ok (.iload_n 1, 1) := by decide +kernel
theorem dX9_startVisit_21 : decode cX9_startVisit 21 = .ok (.invokevirtual 168, 3) := by decide +kernel
theorem dX9_startVisit_24 : decode cX9_startVisit 24 = .ok (.if_icmp .ge 5, 3) := by decide +kernel
theorem dX9_startVisit_27 : decode cX9_startVisit 27 = .ok (.iconst (-1), 1) := by decide +kernel
theorem dX9_startVisit_28 : decode cX9_startVisit 28 = .ok (.ireturn, 1) := by decide +kernel
theorem dX9_startVisit_29 : decode cX9_startVisit 29 = .ok (.aload_n 0, 1) := by decide +kernel
theorem dX9_startVisit_30 : decode cX9_startVisit 30 = .ok (.getfield 26, 3) := by decide +kernel
theorem dX9_startVisit_33 : decode cX9_startVisit 33 = .ok (.iload_n 1, 1) := by decide +kernel
theorem dX9_startVisit_34 : decode cX9_startVisit 34 = .ok (.invokevirtual 171, 3) := by decide +kernel
theorem dX9_startVisit_37 : decode cX9_startVisit 37 = .ok (.ifCond .eq 6, 3) := by decide +kernel
theorem dX9_startVisit_40 : decode cX9_startVisit 40 = .ok (.bipush (-2), 2) := by decide +kernel
theorem dX9_startVisit_42 : decode cX9_startVisit 42 = .ok (.ireturn, 1) := by decide +kernel
theorem dX9_startVisit_43 : decode cX9_startVisit 43 = .ok (.aload_n 0, 1) := by decide +kernel
theorem dX9_startVisit_44 : decode cX9_startVisit 44 = .ok (.getfield 26, 3) := by decide +kernel
theorem dX9_startVisit_47 : decode cX9_startVisit 47 = .ok (.getfield 97, 3) := by decide +kernel
theorem dX9_startVisit_50 : decode cX9_startVisit 50 = .ok (.bipush 30, 2) := by decide +kernel
theorem dX9_startVisit_52 : decode cX9_startVisit 52 = .ok (.if_icmp .lt 6, 3) := by decide +kernel
theorem dX9_startVisit_55 : decode cX9_startVisit 55 = .ok (.bipush (-3), 2) := by decide +kernel
theorem dX9_startVisit_57 : decode cX9_startVisit 57 = .ok (.ireturn, 1) := by decide +kernel
theorem dX9_startVisit_58 : decode cX9_startVisit 58 = .ok (.aload_n 0, 1) := by decide +kernel
theorem dX9_startVisit_59 : decode cX9_startVisit 59 = .ok (.getfield 26, 3) := by decide +kernel
theorem dX9_startVisit_62 : decode cX9_startVisit 62 = .ok (.iload_n 1, 1) := by decide +kernel
theorem dX9_startVisit_63 : decode cX9_startVisit 63 = .ok (.iload_n 2, 1) := by decide +kernel
theorem dX9_startVisit_64 : decode cX9_startVisit 64 = .ok (.invokevirtual 174, 3) := by decide +kernel
theorem dX9_startVisit_67 : decode cX9_startVisit 67 = .ok (.istore_n 3, 1) := by decide +kernel
theorem dX9_startVisit_68 : decode cX9_startVisit 68 = .ok (.aload_n 0, 1) := by decide +kernel
theorem dX9_startVisit_69 : decode cX9_startVisit 69 = .ok (.getfield 40, 3) := by decide +kernel
theorem dX9_startVisit_72 : decode cX9_startVisit 72 = .ok (.iconst 0, 1) := by decide +kernel
theorem dX9_startVisit_73 : decode cX9_startVisit 73 = .ok (.iload_n 3, 1) := by decide +kernel
theorem dX9_startVisit_74 : decode cX9_startVisit 74 = .ok (.invokevirtual 177, 3) := by decide +kernel
theorem dX9_startVisit_77 : decode cX9_startVisit 77 = .ok (.iload_n 3, 1) := by decide +kernel
theorem dX9_startVisit_78 : decode cX9_startVisit 78 = .ok (.ireturn, 1) := by decide +kernel
theorem dX9_visitCount_0 : decode cX9_visitCount 0 = .ok (.aload_n 0, 1) := by decide +kernel
theorem dX9_visitCount_1 : decode cX9_visitCount 1 = .ok (.getfield 26, 3) := by decide +kernel
theorem dX9_visitCount_4 : decode cX9_visitCount 4 = .ok (.getfield 97, 3) := by decide +kernel
theorem dX9_visitCount_7 : decode cX9_visitCount 7 = .ok (.ireturn, 1) := by decide +kernel
theorem dX9_visitScale_0 : decode cX9_visitScale 0 = .ok (.aload_n 0, 1) := by decide +kernel
theorem dX9_visitScale_1 : decode cX9_visitScale 1 = .ok (.iload_n 1, 1) := by decide +kernel
theorem dX9_visitScale_2 : decode cX9_visitScale 2 = .ok (.invokevirtual 181, 3) := by decide +kernel
theorem dX9_visitScale_5 : decode cX9_visitScale 5 = .ok (.ifCond .eq 15, 3) := by decide +kernel
theorem dX9_visitScale_8 : decode cX9_visitScale 8 = .ok (.aload_n 0, 1) := by decide +kernel
theorem dX9_visitScale_9 : decode cX9_visitScale 9 = .ok (.getfield 26, 3) := by decide +kernel
theorem dX9_visitScale_12 : decode cX9_visitScale 12 = .ok (.getfield 184, 3) := by decide +kernel
theorem dX9_visitScale_15 : decode cX9_visitScale 15 = .ok (.iload_n 1, 1) := by decide +kernel
theorem dX9_visitScale_16 : decode cX9_visitScale 16 = .ok (.iaload, 1) := by decide +kernel
theorem dX9_visitScale_17 : decode cX9_visitScale 17 = .ok (.goto 4, 3) := by decide +kernel
theorem dX9_visitScale_20 : decode cX9_visitScale 20 = .ok (.iconst (-1), 1) := by decide +kernel
theorem dX9_visitScale_21 : decode cX9_visitScale 21 = .ok (.ireturn, 1) := by decide +kernel
theorem dX9_isInService_0 : decode cX9_isInService 0 = .ok (.aload_n 0, 1) := by decide +kernel
theorem dX9_isInService_1 : decode cX9_isInService 1 = .ok (.iload_n 1, 1) := by decide +kernel
theorem dX9_isInService_2 : decode cX9_isInService 2 = .ok (.invokevirtual 181, 3) := by decide +kernel
theorem dX9_isInService_5 : decode cX9_isInService 5 = .ok (.ifCond .eq 15, 3) := by decide +kernel
theorem dX9_isInService_8 : decode cX9_isInService 8 = .ok (.aload_n 0, 1) := by decide +kernel
theorem dX9_isInService_9 : decode cX9_isInService 9 = .ok (.getfield 26, 3) := by decide +kernel
theorem dX9_isInService_12 : decode cX9_isInService 12 = .ok (.getfield 187, 3) := by decide +kernel
theorem dX9_isInService_15 : decode cX9_isInService 15 = .ok (.iload_n 1, 1) := by decide +kernel
theorem dX9_isInService_16 : decode cX9_isInService 16 = .ok (.iaload, 1) := by decide +kernel
theorem dX9_isInService_17 : decode cX9_isInService 17 = .ok (.goto 4, 3) := by decide +kernel
theorem dX9_isInService_20 : decode cX9_isInService 20 = .ok (.iconst (-1), 1) := by decide +kernel
theorem dX9_isInService_21 : decode cX9_isInService 21 = .ok (.ireturn, 1) := by decide +kernel
theorem dX9_record_0 : decode cX9_record 0 = .ok (.aload_n 0, 1) := by decide +kernel
theorem dX9_record_1 : decode cX9_record 1 = .ok (.iload_n 1, 1) := by decide +kernel
theorem dX9_record_2 : decode cX9_record 2 = .ok (.invokevirtual 181, 3) := by decide +kernel
theorem dX9_record_5 : decode cX9_record 5 = .ok (.ifCond .eq 26, 3) := by decide +kernel
theorem dX9_record_8 : decode cX9_record 8 = .ok (.aload_n 0, 1) := by decide +kernel
theorem dX9_record_9 : decode cX9_record 9 = .ok (.getfield 19, 3) := by decide +kernel
theorem dX9_record_12 : decode cX9_record 12 = .ok (.iload_n 2, 1) := by decide +kernel
theorem dX9_record_13 : decode cX9_record 13 = .ok (.invokevirtual 190, 3) := by decide +kernel
theorem dX9_record_16 : decode cX9_record 16 = .ok (.ifCond .eq 15, 3) := by decide +kernel
theorem dX9_record_19 : decode cX9_record 19 = .ok (.iload_n 3, 1) := by decide +kernel
theorem dX9_record_20 : decode cX9_record 20 = .ok (.ldc 193, 2) := by decide +kernel
theorem dX9_record_22 : decode cX9_record 22 = .ok (.if_icmp .lt 9, 3) := by decide +kernel
theorem dX9_record_25 : decode cX9_record 25 = .ok (.iload_n 3, 1) := by decide +kernel
theorem dX9_record_26 : decode cX9_record 26 = .ok (.ldc 194, 2) := by decide +kernel
theorem dX9_record_28 : decode cX9_record 28 = .ok (.if_icmp .le 5, 3) := by decide +kernel
theorem dX9_record_31 : decode cX9_record 31 = .ok (.iconst (-1), 1) := by decide +kernel
theorem dX9_record_32 : decode cX9_record 32 = .ok (.ireturn, 1) := by decide +kernel
theorem dX9_record_33 : decode cX9_record 33 = .ok (.aload_n 0, 1) := by decide +kernel
theorem dX9_record_34 : decode cX9_record 34 = .ok (.getfield 19, 3) := by decide +kernel
theorem dX9_record_37 : decode cX9_record 37 = .ok (.getfield 195, 3) := by decide +kernel
theorem dX9_record_40 : decode cX9_record 40 = .ok (.iload_n 2, 1) := by decide +kernel
theorem dX9_record_41 : decode cX9_record 41 = .ok (.iaload, 1) := by decide +kernel
theorem dX9_record_42 : decode cX9_record 42 = .ok (.istore 4, 2) := by decide +kernel
theorem dX9_record_44 : decode cX9_record 44 = .ok (.iload 4, 2) := by decide +kernel
theorem dX9_record_46 : decode cX9_record 46 = .ok (.aload_n 0, 1) := by decide +kernel
theorem dX9_record_47 : decode cX9_record 47 = .ok (.getfield 71, 3) := by decide +kernel
theorem dX9_record_50 : decode cX9_record 50 = .ok (.getfield 133, 3) := by decide +kernel
theorem dX9_record_53 : decode cX9_record 53 = .ok (.aload_n 0, 1) := by decide +kernel
theorem dX9_record_54 : decode cX9_record 54 = .ok (.getfield 26, 3) := by decide +kernel
theorem dX9_record_57 : decode cX9_record 57 = .ok (.getfield 184, 3) := by decide +kernel
theorem dX9_record_60 : decode cX9_record 60 = .ok (.iload_n 1, 1) := by decide +kernel
theorem dX9_record_61 : decode cX9_record 61 = .ok (.iaload, 1) := by decide +kernel
theorem dX9_record_62 : decode cX9_record 62 = .ok (.iaload, 1) := by decide +kernel
theorem dX9_record_63 : decode cX9_record 63 = .ok (.if_icmp .le 5, 3) := by decide +kernel
theorem dX9_record_66 : decode cX9_record 66 = .ok (.iconst (-1), 1) := by decide +kernel
theorem dX9_record_67 : decode cX9_record 67 = .ok (.ireturn, 1) := by decide +kernel
theorem dX9_record_68 : decode cX9_record 68 = .ok (.aload_n 0, 1) := by decide +kernel
theorem dX9_record_69 : decode cX9_record 69 = .ok (.getfield 26, 3) := by decide +kernel
theorem dX9_record_72 : decode cX9_record 72 = .ok (.iload_n 1, 1) := by decide +kernel
theorem dX9_record_73 : decode cX9_record 73 = .ok (.invokevirtual 198, 3) := by decide +kernel
theorem dX9_record_76 : decode cX9_record 76 = .ok (.ifCond .ne 6, 3) := by decide +kernel
theorem dX9_record_79 : decode cX9_record 79 = .ok (.bipush (-2), 2) := by decide +kernel
theorem dX9_record_81 : decode cX9_record 81 = .ok (.ireturn, 1) := by decide +kernel
theorem dX9_record_82 : decode cX9_record 82 = .ok (.aload_n 0, 1) := by decide +kernel
theorem dX9_record_83 : decode cX9_record 83 = .ok (.getfield 26, 3) := by decide +kernel
theorem dX9_record_86 : decode cX9_record 86 = .ok (.getfield 201, 3) := by decide +kernel
theorem dX9_record_89 : decode cX9_record 89 = .ok (.iload_n 1, 1) := by decide +kernel
theorem dX9_record_90 : decode cX9_record 90 = .ok (.iaload, 1) := by decide +kernel
theorem dX9_record_91 : decode cX9_record 91 = .ok (.bipush 8, 2) := by decide +kernel
theorem dX9_record_93 : decode cX9_record 93 = .ok (.if_icmp .lt 6, 3) := by decide +kernel
theorem dX9_record_96 : decode cX9_record 96 = .ok (.bipush (-3), 2) := by decide +kernel
theorem dX9_record_98 : decode cX9_record 98 = .ok (.ireturn, 1) := by decide +kernel
theorem dX9_record_99 : decode cX9_record 99 = .ok (.aload_n 0, 1) := by decide +kernel
theorem dX9_record_100 : decode cX9_record 100 = .ok (.getfield 40, 3) := by decide +kernel
theorem dX9_record_103 : decode cX9_record 103 = .ok (.iconst 1, 1) := by decide +kernel
theorem dX9_record_104 : decode cX9_record 104 = .ok (.iload_n 1, 1) := by decide +kernel
theorem dX9_record_105 : decode cX9_record 105 = .ok (.invokevirtual 177, 3) := by decide +kernel
theorem dX9_record_108 : decode cX9_record 108 = .ok (.aload_n 0, 1) := by decide +kernel
theorem dX9_record_109 : decode cX9_record 109 = .ok (.getfield 26, 3) := by decide +kernel
theorem dX9_record_112 : decode cX9_record 112 = .ok (.iload_n 1, 1) := by decide +kernel
theorem dX9_record_113 : decode cX9_record 113 = .ok (.iload_n 2, 1) := by decide +kernel
theorem dX9_record_114 : decode cX9_record 114 = .ok (.iload 4, 2) := by decide +kernel
theorem dX9_record_116 : decode cX9_record 116 = .ok (.iload_n 3, 1) := by decide +kernel
theorem dX9_record_117 : decode cX9_record 117 = .ok (.iload 4, 2) := by decide +kernel
theorem dX9_record_119 : decode cX9_record 119 = .ok (.isub, 1) := by decide +kernel
theorem dX9_record_120 : decode cX9_record 120 = .ok (.invokevirtual 204, 3) := by decide +kernel
theorem dX9_record_123 : decode cX9_record 123 = .ok (.ireturn, 1) := by decide +kernel
theorem dX9_testCount_0 : decode cX9_testCount 0 = .ok (.aload_n 0, 1) := by decide +kernel
theorem dX9_testCount_1 : decode cX9_testCount 1 = .ok (.iload_n 1, 1) := by decide +kernel
theorem dX9_testCount_2 : decode cX9_testCount 2 = .ok (.invokevirtual 181, 3) := by decide +kernel
theorem dX9_testCount_5 : decode cX9_testCount 5 = .ok (.ifCond .eq 15, 3) := by decide +kernel
theorem dX9_testCount_8 : decode cX9_testCount 8 = .ok (.aload_n 0, 1) := by decide +kernel
theorem dX9_testCount_9 : decode cX9_testCount 9 = .ok (.getfield 26, 3) := by decide +kernel
theorem dX9_testCount_12 : decode cX9_testCount 12 = .ok (.getfield 201, 3) := by decide +kernel
theorem dX9_testCount_15 : decode cX9_testCount 15 = .ok (.iload_n 1, 1) := by decide +kernel
theorem dX9_testCount_16 : decode cX9_testCount 16 = .ok (.iaload, 1) := by decide +kernel
theorem dX9_testCount_17 : decode cX9_testCount 17 = .ok (.goto 4, 3) := by decide +kernel
theorem dX9_testCount_20 : decode cX9_testCount 20 = .ok (.iconst (-1), 1) := by decide +kernel
theorem dX9_testCount_21 : decode cX9_testCount 21 = .ok (.ireturn, 1) := by decide +kernel
theorem dX9_verdict_0 : decode cX9_verdict 0 = .ok (.aload_n 0, 1) := by decide +kernel
theorem dX9_verdict_1 : decode cX9_verdict 1 = .ok (.iload_n 1, 1) := by decide +kernel
theorem dX9_verdict_2 : decode cX9_verdict 2 = .ok (.invokevirtual 181, 3) := by decide +kernel
theorem dX9_verdict_5 : decode cX9_verdict 5 = .ok (.ifCond .eq 19, 3) := by decide +kernel
theorem dX9_verdict_8 : decode cX9_verdict 8 = .ok (.aload_n 0, 1) := by decide +kernel
theorem dX9_verdict_9 : decode cX9_verdict 9 = .ok (.getfield 26, 3) := by decide +kernel
theorem dX9_verdict_12 : decode cX9_verdict 12 = .ok (.aload_n 0, 1) := by decide +kernel
theorem dX9_verdict_13 : decode cX9_verdict 13 = .ok (.getfield 71, 3) := by decide +kernel
theorem dX9_verdict_16 : decode cX9_verdict 16 = .ok (.iload_n 1, 1) := by decide +kernel
theorem dX9_verdict_17 : decode cX9_verdict 17 = .ok (.iconst 0, 1) := by decide +kernel
theorem dX9_verdict_18 : decode cX9_verdict 18 = .ok (.invokevirtual 224, 3) := by decide +kernel
theorem dX9_verdict_21 : decode cX9_verdict 21 = .ok (.goto 4, 3) := by decide +kernel
theorem dX9_verdict_24 : decode cX9_verdict 24 = .ok (.iconst (-1), 1) := by decide +kernel
theorem dX9_verdict_25 : decode cX9_verdict 25 = .ok (.ireturn, 1) := by decide +kernel
theorem dX9_adjustedVerdict_0 : decode cX9_adjustedVerdict 0 = .ok (.aload_n 0, 1) := by decide +kernel
theorem dX9_adjustedVerdict_1 : decode cX9_adjustedVerdict 1 = .ok (.iload_n 1, 1) := by decide +kernel
theorem dX9_adjustedVerdict_2 : decode cX9_adjustedVerdict 2 = .ok (.invokevirtual 181, 3) := by decide +kernel
theorem dX9_adjustedVerdict_5 : decode cX9_adjustedVerdict 5 = .ok (.ifCond .eq 26, 3) := by decide +kernel
theorem dX9_adjustedVerdict_8 : decode cX9_adjustedVerdict 8 = .ok (.aload_n 0, 1) := by decide +kernel
theorem dX9_adjustedVerdict_9 : decode cX9_adjustedVerdict 9 = .ok (.getfield 26, 3) := by decide +kernel
theorem dX9_adjustedVerdict_12 : decode cX9_adjustedVerdict 12 = .ok (.aload_n 0, 1) := by decide +kernel
theorem dX9_adjustedVerdict_13 : decode cX9_adjustedVerdict 13 = .ok (.getfield 71, 3) := by decide +kernel
theorem dX9_adjustedVerdict_16 : decode cX9_adjustedVerdict 16 = .ok (.iload_n 1, 1) := by decide +kernel
theorem dX9_adjustedVerdict_17 : decode cX9_adjustedVerdict 17 = .ok (.aload_n 0, 1) := by decide +kernel
theorem dX9_adjustedVerdict_18 : decode cX9_adjustedVerdict 18 = .ok (.getfield 26, 3) := by decide +kernel
theorem dX9_adjustedVerdict_21 : decode cX9_adjustedVerdict 21 = .ok (.iload_n 1, 1) := by decide +kernel
theorem dX9_adjustedVerdict_22 : decode cX9_adjustedVerdict 22 = .ok (.invokevirtual 235, 3) := by decide +kernel
theorem dX9_adjustedVerdict_25 : decode cX9_adjustedVerdict 25 = .ok (.invokevirtual 224, 3) := by decide +kernel
theorem dX9_adjustedVerdict_28 : decode cX9_adjustedVerdict 28 = .ok (.goto 4, 3) := by decide +kernel
theorem dX9_adjustedVerdict_31 : decode cX9_adjustedVerdict 31 = .ok (.iconst (-1), 1) := by decide +kernel
theorem dX9_adjustedVerdict_32 : decode cX9_adjustedVerdict 32 = .ok (.ireturn, 1) := by decide +kernel
theorem dX9_closeVisit_0 : decode cX9_closeVisit 0 = .ok (.aload_n 0, 1) := by decide +kernel
theorem dX9_closeVisit_1 : decode cX9_closeVisit 1 = .ok (.iload_n 1, 1) := by decide +kernel
theorem dX9_closeVisit_2 : decode cX9_closeVisit 2 = .ok (.invokevirtual 181, 3) := by decide +kernel
theorem dX9_closeVisit_5 : decode cX9_closeVisit 5 = .ok (.ifCond .ne 5, 3) := by decide +kernel
theorem dX9_closeVisit_8 : decode cX9_closeVisit 8 = .ok (.iconst (-1), 1) := by decide +kernel
theorem dX9_closeVisit_9 : decode cX9_closeVisit 9 = .ok (.ireturn, 1) := by decide +kernel
theorem dX9_closeVisit_10 : decode cX9_closeVisit 10 = .ok (.aload_n 0, 1) := by decide +kernel
theorem dX9_closeVisit_11 : decode cX9_closeVisit 11 = .ok (.getfield 26, 3) := by decide +kernel
theorem dX9_closeVisit_14 : decode cX9_closeVisit 14 = .ok (.iload_n 1, 1) := by decide +kernel
theorem dX9_closeVisit_15 : decode cX9_closeVisit 15 = .ok (.invokevirtual 198, 3) := by decide +kernel
theorem dX9_closeVisit_18 : decode cX9_closeVisit 18 = .ok (.ifCond .ne 6, 3) := by decide +kernel
theorem dX9_closeVisit_21 : decode cX9_closeVisit 21 = .ok (.bipush (-2), 2) := by decide +kernel
theorem dX9_closeVisit_23 : decode cX9_closeVisit 23 = .ok (.ireturn, 1) := by decide +kernel
theorem dX9_closeVisit_24 : decode cX9_closeVisit 24 = .ok (.aload_n 0, 1) := by decide +kernel
theorem dX9_closeVisit_25 : decode cX9_closeVisit 25 = .ok (.getfield 26, 3) := by decide +kernel
theorem dX9_closeVisit_28 : decode cX9_closeVisit 28 = .ok (.getfield 238, 3) := by decide +kernel
theorem dX9_closeVisit_31 : decode cX9_closeVisit 31 = .ok (.iload_n 1, 1) := by decide +kernel
theorem dX9_closeVisit_32 : decode cX9_closeVisit 32 = .ok (.aload_n 0, 1) := by decide +kernel
theorem dX9_closeVisit_33 : decode cX9_closeVisit 33 = .ok (.getfield 26, 3) := by decide +kernel
theorem dX9_closeVisit_36 : decode cX9_closeVisit 36 = .ok (.aload_n 0, 1) := by decide +kernel
theorem dX9_closeVisit_37 : decode cX9_closeVisit 37 = .ok (.getfield 71, 3) := by decide +kernel
theorem dX9_closeVisit_40 : decode cX9_closeVisit 40 = .ok (.iload_n 1, 1) := by decide +kernel
theorem dX9_closeVisit_41 : decode cX9_closeVisit 41 = .ok (.iconst 0, 1) := by decide +kernel
theorem dX9_closeVisit_42 : decode cX9_closeVisit 42 = .ok (.invokevirtual 224, 3) := by decide +kernel
theorem dX9_closeVisit_45 : decode cX9_closeVisit 45 = .ok (.iastore, 1) := by decide +kernel
theorem dX9_closeVisit_46 : decode cX9_closeVisit 46 = .ok (.aload_n 0, 1) := by decide +kernel
theorem dX9_closeVisit_47 : decode cX9_closeVisit 47 = .ok (.getfield 40, 3) := by decide +kernel
theorem dX9_closeVisit_50 : decode cX9_closeVisit 50 = .ok (.iconst 2, 1) := by decide +kernel
theorem dX9_closeVisit_51 : decode cX9_closeVisit 51 = .ok (.iload_n 1, 1) := by decide +kernel
theorem dX9_closeVisit_52 : decode cX9_closeVisit 52 = .ok (.invokevirtual 177, 3) := by decide +kernel
theorem dX9_closeVisit_55 : decode cX9_closeVisit 55 = .ok (.aload_n 0, 1) := by decide +kernel
theorem dX9_closeVisit_56 : decode cX9_closeVisit 56 = .ok (.getfield 26, 3) := by decide +kernel
theorem dX9_closeVisit_59 : decode cX9_closeVisit 59 = .ok (.getfield 238, 3) := by decide +kernel
theorem dX9_closeVisit_62 : decode cX9_closeVisit 62 = .ok (.iload_n 1, 1) := by decide +kernel
theorem dX9_closeVisit_63 : decode cX9_closeVisit 63 = .ok (.iaload, 1) := by decide +kernel
theorem dX9_closeVisit_64 : decode cX9_closeVisit 64 = .ok (.ireturn, 1) := by decide +kernel
theorem dX9_isClosed_0 : decode cX9_isClosed 0 = .ok (.aload_n 0, 1) := by decide +kernel
theorem dX9_isClosed_1 : decode cX9_isClosed 1 = .ok (.iload_n 1, 1) := by decide +kernel
theorem dX9_isClosed_2 : decode cX9_isClosed 2 = .ok (.invokevirtual 181, 3) := by decide +kernel
theorem dX9_isClosed_5 : decode cX9_isClosed 5 = .ok (.ifCond .ne 5, 3) := by decide +kernel
theorem dX9_isClosed_8 : decode cX9_isClosed 8 = .ok (.iconst (-1), 1) := by decide +kernel
theorem dX9_isClosed_9 : decode cX9_isClosed 9 = .ok (.ireturn, 1) := by decide +kernel
theorem dX9_isClosed_10 : decode cX9_isClosed 10 = .ok (.aload_n 0, 1) := by decide +kernel
theorem dX9_isClosed_11 : decode cX9_isClosed 11 = .ok (.getfield 26, 3) := by decide +kernel
theorem dX9_isClosed_14 : decode cX9_isClosed 14 = .ok (.iload_n 1, 1) := by decide +kernel
theorem dX9_isClosed_15 : decode cX9_isClosed 15 = .ok (.invokevirtual 198, 3) := by decide +kernel
theorem dX9_isClosed_18 : decode cX9_isClosed 18 = .ok (.ifCond .eq 7, 3) := by decide +kernel
theorem dX9_isClosed_21 : decode cX9_isClosed 21 = .ok (.iconst 0, 1) := by decide +kernel
theorem dX9_isClosed_22 : decode cX9_isClosed 22 = .ok (.goto 4, 3) := by decide +kernel
theorem dX9_isClosed_25 : decode cX9_isClosed 25 = .ok (.iconst 1, 1) := by decide +kernel
theorem dX9_isClosed_26 : decode cX9_isClosed 26 = .ok (.ireturn, 1) := by decide +kernel
def f_X9_isDay_h16 (F : Nat) (t0 : Int32) (S : si_St) : Option (Int32 × si_St) :=
  Option.bind (si_bz t0) fun v1 => some (v1, S)
def f_X9_isDay_h15 (F : Nat) (S : si_St) : Option (Int32 × si_St) :=
  f_X9_isDay_h16 F 0 S
def f_X9_isDay (F : Nat) (x0 : Int32) (S : si_St) : Option (Int32 × si_St) :=
  if x0 < 0 then (f_X9_isDay_h15 F S) else (if 9999 < x0 then (f_X9_isDay_h15 F S) else (f_X9_isDay_h16 F 1 S))
def f_X9_isWeighing_h71 (F : Nat) (t0 : Int32) (S : si_St) : Option (Int32 × si_St) :=
  Option.bind (si_bz t0) fun v1 => some (v1, S)
def f_X9_isWeighing_h70 (F : Nat) (S : si_St) : Option (Int32 × si_St) :=
  f_X9_isWeighing_h71 F 0 S
def f_X9_isWeighing_h46 (F : Nat) (x1 : Int32) (x3 : Int32) (x4 : Int32) (t0 : Int32) (S : si_St) : Option (Int32 × si_St) :=
  if x3 = 0 then (f_X9_isWeighing_h70 F S) else (if x4 = 0 then (f_X9_isWeighing_h70 F S) else (if t0 = 0 then (f_X9_isWeighing_h70 F S) else (if x1 = 0 then (f_X9_isWeighing_h70 F S) else (f_X9_isWeighing_h71 F 1 S))))
def f_X9_isWeighing_h28 (F : Nat) (x1 : Int32) (x2 : Int32) (x3 : Int32) (t0 : Int32) (S : si_St) : Option (Int32 × si_St) :=
  Option.bind (f_J6_bitCount_0f7a4 F x1 S) fun q2 => Option.bind (f_J6_bitCount_0f7a4 F x2 q2.2) fun q3 => if q2.1 = q3.1 then (f_X9_isWeighing_h46 F x1 x3 t0 1 q3.2) else (f_X9_isWeighing_h46 F x1 x3 t0 0 q3.2)
def f_X9_isWeighing_h16 (F : Nat) (x1 : Int32) (x2 : Int32) (t0 : Int32) (S : si_St) : Option (Int32 × si_St) :=
  if (x1 &&& x2) = 0 then (f_X9_isWeighing_h28 F x1 x2 t0 1 S) else (f_X9_isWeighing_h28 F x1 x2 t0 0 S)
def f_X9_isWeighing (F : Nat) (x0 : Int32) (x1 : Int32) (x2 : Int32) (S : si_St) : Option (Int32 × si_St) :=
  if ((x1 ||| x2) &&& (-(1 <<< (x0 &&& 31)))) = 0 then (f_X9_isWeighing_h16 F x1 x2 1 S) else (f_X9_isWeighing_h16 F x1 x2 0 S)
def f_X9_orNone_h12 (F : Nat) (t0 : Int32) (S : si_St) : Option (Int32 × si_St) :=
  some (t0, S)
def f_X9_orNone (F : Nat) (x0 : Int32) (S : si_St) : Option (Int32 × si_St) :=
  if x0 = 99 then (f_X9_orNone_h12 F (-2) S) else (f_X9_orNone_h12 F x0 S)
def f_X9_slotAt_h15 (F : Nat) (kt0 : Nat) (S : si_St) : Option (Nat × si_St) :=
  some (kt0, S)
def f_X9_slotAt (F : Nat) (x1 : Int32) (S : si_St) : Option (Nat × si_St) :=
  if x1 = 0 then (f_X9_slotAt_h15 F 27 S) else (f_X9_slotAt_h15 F 42 S)
def f_X9_hasScale_h20 (F : Nat) (t0 : Int32) (S : si_St) : Option (Int32 × si_St) :=
  Option.bind (si_bz t0) fun v1 => some (v1, S)
def f_X9_hasScale_h19 (F : Nat) (S : si_St) : Option (Int32 × si_St) :=
  f_X9_hasScale_h20 F 0 S
def f_X9_hasScale (F : Nat) (x1 : Int32) (S : si_St) : Option (Int32 × si_St) :=
  if x1 < 0 then (f_X9_hasScale_h19 F S) else (Option.bind (si_mk S 0 2) fun k92 => if (S.1 k92 1) ≤ x1 then (f_X9_hasScale_h19 F S) else (f_X9_hasScale_h20 F 1 S))
def f_X9_hasVisit_h20 (F : Nat) (t0 : Int32) (S : si_St) : Option (Int32 × si_St) :=
  Option.bind (si_bz t0) fun v1 => some (v1, S)
def f_X9_hasVisit_h19 (F : Nat) (S : si_St) : Option (Int32 × si_St) :=
  f_X9_hasVisit_h20 F 0 S
def f_X9_hasVisit (F : Nat) (x1 : Int32) (S : si_St) : Option (Int32 × si_St) :=
  if x1 < 0 then (f_X9_hasVisit_h19 F S) else (if (S.1 7 0) ≤ x1 then (f_X9_hasVisit_h19 F S) else (f_X9_hasVisit_h20 F 1 S))
def f_X9_hasTest_h30 (F : Nat) (t0 : Int32) (S : si_St) : Option (Int32 × si_St) :=
  Option.bind (si_bz t0) fun v1 => some (v1, S)
def f_X9_hasTest_h29 (F : Nat) (S : si_St) : Option (Int32 × si_St) :=
  f_X9_hasTest_h30 F 0 S
def f_X9_hasTest (F : Nat) (x1 : Int32) (x2 : Int32) (S : si_St) : Option (Int32 × si_St) :=
  Option.bind (f_X9_hasVisit F x1 S) fun q2 => if q2.1 = 0 then (f_X9_hasTest_h29 F q2.2) else (if x2 < 0 then (f_X9_hasTest_h29 F q2.2) else (Option.bind (si_rd q2.2 12 x1) fun v3 => if v3 ≤ x2 then (f_X9_hasTest_h29 F q2.2) else (f_X9_hasTest_h30 F 1 q2.2)))
def f_X9_hasSet_h20 (F : Nat) (t0 : Int32) (S : si_St) : Option (Int32 × si_St) :=
  Option.bind (si_bz t0) fun v1 => some (v1, S)
def f_X9_hasSet_h19 (F : Nat) (S : si_St) : Option (Int32 × si_St) :=
  f_X9_hasSet_h20 F 0 S
def f_X9_hasSet (F : Nat) (x1 : Int32) (S : si_St) : Option (Int32 × si_St) :=
  if x1 < 0 then (f_X9_hasSet_h19 F S) else (Option.bind (si_mk S 0 2) fun k92 => if (S.1 k92 3) ≤ x1 then (f_X9_hasSet_h19 F S) else (f_X9_hasSet_h20 F 1 S))
def f_X9_chooseSet (F : Nat) (x1 : Int32) (S : si_St) : Option (si_St) :=
  Option.bind (si_mk S 0 2) fun k91 => Option.bind (si_rd S (k91 + 6) x1) fun v2 => Option.bind (si_rd S 17 x1) fun v3 => Option.bind (si_rd S 18 x1) fun v4 => Option.bind (si_rd S 19 x1) fun v5 => Option.bind (f_X5_choose F v2 v3 v4 v5 S) fun S6 => some S6
def f_X9_append (F : Nat) (x1 : Int32) (x2 : Int32) (x3 : Int32) (x4 : Int32) (x5 : Int32) (S : si_St) : Option (Int32 × si_St) :=
  if ((S.1 1 1) + 20) ≤ 800 then (Option.bind (f_X3_addBytes F x1 S) fun S1 => Option.bind (f_X3_addBytes F x2 S1) fun S2 => Option.bind (f_X3_addBytes F x3 S2) fun S3 => Option.bind (f_X3_addBytes F x4 S3) fun S4 => Option.bind (f_X3_addBytes F x5 S4) fun S5 => some ((S5.1 1 1), S5)) else (some ((-3), S))
def f_X9_takeDraft (F : Nat) (S : si_St) : Option (si_St) :=
  Option.bind (si_mk S 0 2) fun k91 => Option.bind (si_mk S 1 2) fun k92 => Option.bind (si_pm S 0 k92) fun S3 => Option.bind (si_pm S3 1 k91) fun S4 => Option.bind (si_mk S4 0 2) fun k95 => Option.bind (f_X1_learn F k95 S4) fun S6 => Option.bind (si_pt S6 7 0 0) fun S7 => Option.bind (si_mk S7 0 2) fun k98 => Option.bind (f_X8_reset F k98 S7) fun S9 => Option.bind (f_X0_clear F S9) fun S10 => Option.bind (si_pz S10 27 2 0) fun S11 => Option.bind (si_pz S11 42 2 0) fun S12 => some S12
def f_X9_parse_h15 (F : Nat) (S : si_St) : Option (Int32 × si_St) :=
  some ((-1), S)
def f_X9_parse_h46 (F : Nat) (x2 : Int32) (S : si_St) : Option (Int32 × si_St) :=
  some (x2, S)
def f_X9_parse (F : Nat) (x1 : Int32) (S : si_St) : Option (Int32 × si_St) :=
  if x1 < 0 then (f_X9_parse_h15 F S) else (if x1 ≤ (S.1 1 1) then (Option.bind (si_mk S 1 2) fun k91 => Option.bind (f_X3_readMarket F k91 x1 S) fun q2 => Option.bind (si_pt q2.2 1 1 0) fun S3 => if q2.1 = 0 then (Option.bind (f_X9_takeDraft F S3) fun S4 => f_X9_parse_h46 F q2.1 S4) else (f_X9_parse_h46 F q2.1 S3)) else (f_X9_parse_h15 F S))
def f_X9_errorPosition (F : Nat) (S : si_St) : Option (Int32 × si_St) :=
  some ((S.1 1 2), S)
def f_X9_traderCount (F : Nat) (S : si_St) : Option (Int32 × si_St) :=
  Option.bind (si_mk S 0 2) fun k91 => some ((S.1 k91 0), S)
def f_X9_scaleCount (F : Nat) (S : si_St) : Option (Int32 × si_St) :=
  Option.bind (si_mk S 0 2) fun k91 => some ((S.1 k91 1), S)
def f_X9_massCount (F : Nat) (S : si_St) : Option (Int32 × si_St) :=
  Option.bind (si_mk S 0 2) fun k91 => some ((S.1 k91 2), S)
def f_X9_setCount (F : Nat) (S : si_St) : Option (Int32 × si_St) :=
  Option.bind (si_mk S 0 2) fun k91 => some ((S.1 k91 3), S)
def f_X9_trader_h21 (F : Nat) (t0 : Int32) (S : si_St) : Option (Int32 × si_St) :=
  some (t0, S)
def f_X9_trader (F : Nat) (x1 : Int32) (S : si_St) : Option (Int32 × si_St) :=
  Option.bind (f_X9_hasScale F x1 S) fun q1 => if q1.1 = 0 then (f_X9_trader_h21 F (-1) q1.2) else (Option.bind (si_mk q1.2 0 2) fun k92 => Option.bind (si_rd q1.2 (k92 + 1) x1) fun v3 => f_X9_trader_h21 F v3 q1.2)
def f_X9_capacity_h21 (F : Nat) (t0 : Int32) (S : si_St) : Option (Int32 × si_St) :=
  some (t0, S)
def f_X9_capacity (F : Nat) (x1 : Int32) (S : si_St) : Option (Int32 × si_St) :=
  Option.bind (f_X9_hasScale F x1 S) fun q1 => if q1.1 = 0 then (f_X9_capacity_h21 F (-1) q1.2) else (Option.bind (si_mk q1.2 0 2) fun k92 => Option.bind (si_rd q1.2 (k92 + 4) x1) fun v3 => f_X9_capacity_h21 F v3 q1.2)
def f_X9_massValue_h28 (F : Nat) (t0 : Int32) (S : si_St) : Option (Int32 × si_St) :=
  some (t0, S)
def f_X9_massValue_h27 (F : Nat) (S : si_St) : Option (Int32 × si_St) :=
  f_X9_massValue_h28 F (-1) S
def f_X9_massValue (F : Nat) (x1 : Int32) (S : si_St) : Option (Int32 × si_St) :=
  if x1 < 0 then (f_X9_massValue_h27 F S) else (Option.bind (si_mk S 0 2) fun k91 => if (S.1 k91 2) ≤ x1 then (f_X9_massValue_h27 F S) else (Option.bind (si_mk S 0 2) fun k92 => Option.bind (si_rd S (k92 + 5) x1) fun v3 => f_X9_massValue_h28 F v3 S))
def f_X9_fewestMasses_h16 (F : Nat) (t0 : Int32) (S : si_St) : Option (Int32 × si_St) :=
  some (t0, S)
def f_X9_fewestMasses (F : Nat) (x1 : Int32) (S : si_St) : Option (Int32 × si_St) :=
  if 0 ≤ x1 then (Option.bind (f_X1_smallestSet F x1 S) fun q1 => f_X9_fewestMasses_h16 F q1.1 q1.2) else (f_X9_fewestMasses_h16 F (-1) S)
def f_X9_closestLoad_h16 (F : Nat) (t0 : Int32) (S : si_St) : Option (Int32 × si_St) :=
  some (t0, S)
def f_X9_closestLoad (F : Nat) (x1 : Int32) (S : si_St) : Option (Int32 × si_St) :=
  if 0 ≤ x1 then (Option.bind (f_X1_greatestSumUpTo F x1 S) fun q1 => f_X9_closestLoad_h16 F q1.1 q1.2) else (f_X9_closestLoad_h16 F (-1) S)
def f_X9_twoPans_h16 (F : Nat) (t0 : Int32) (S : si_St) : Option (Int32 × si_St) :=
  some (t0, S)
def f_X9_twoPans (F : Nat) (x1 : Int32) (S : si_St) : Option (Int32 × si_St) :=
  if 0 ≤ x1 then (Option.bind (f_X1_fewestOnTwoPans F x1 S) fun q1 => f_X9_twoPans_h16 F q1.1 q1.2) else (f_X9_twoPans_h16 F (-1) S)
def f_X9_startVisit_h27 (F : Nat) (S : si_St) : Option (Int32 × si_St) :=
  some ((-1), S)
def f_X9_startVisit (F : Nat) (x1 : Int32) (x2 : Int32) (S : si_St) : Option (Int32 × si_St) :=
  Option.bind (f_X9_hasScale F x1 S) fun q1 => if q1.1 = 0 then (f_X9_startVisit_h27 F q1.2) else (Option.bind (f_X9_isDay F x2 q1.2) fun q2 => if q2.1 = 0 then (f_X9_startVisit_h27 F q2.2) else (Option.bind (f_X7_lastDayOf F x1 q2.2) fun q3 => if q3.1 ≤ x2 then (Option.bind (f_X7_hasOpenVisit F x1 q3.2) fun q4 => if q4.1 = 0 then (if (q4.2.1 7 0) < 30 then (Option.bind (f_X7_addVisit F x1 x2 q4.2) fun q5 => Option.bind (f_X0_add F 0 q5.1 q5.2) fun S6 => some (q5.1, S6)) else (some ((-3), q4.2))) else (some ((-2), q4.2))) else (f_X9_startVisit_h27 F q3.2)))
def f_X9_visitCount (F : Nat) (S : si_St) : Option (Int32 × si_St) :=
  some ((S.1 7 0), S)
def f_X9_visitScale_h21 (F : Nat) (t0 : Int32) (S : si_St) : Option (Int32 × si_St) :=
  some (t0, S)
def f_X9_visitScale (F : Nat) (x1 : Int32) (S : si_St) : Option (Int32 × si_St) :=
  Option.bind (f_X9_hasVisit F x1 S) fun q1 => if q1.1 = 0 then (f_X9_visitScale_h21 F (-1) q1.2) else (Option.bind (si_rd q1.2 8 x1) fun v2 => f_X9_visitScale_h21 F v2 q1.2)
def f_X9_isInService_h21 (F : Nat) (t0 : Int32) (S : si_St) : Option (Int32 × si_St) :=
  some (t0, S)
def f_X9_isInService (F : Nat) (x1 : Int32) (S : si_St) : Option (Int32 × si_St) :=
  Option.bind (f_X9_hasVisit F x1 S) fun q1 => if q1.1 = 0 then (f_X9_isInService_h21 F (-1) q1.2) else (Option.bind (si_rd q1.2 10 x1) fun v2 => f_X9_isInService_h21 F v2 q1.2)
def f_X9_record_h31 (F : Nat) (S : si_St) : Option (Int32 × si_St) :=
  some ((-1), S)
def f_X9_record (F : Nat) (x1 : Int32) (x2 : Int32) (x3 : Int32) (S : si_St) : Option (Int32 × si_St) :=
  Option.bind (f_X9_hasVisit F x1 S) fun q1 => if q1.1 = 0 then (f_X9_record_h31 F q1.2) else (Option.bind (f_X1_hasMasses F x2 q1.2) fun q2 => if q2.1 = 0 then (f_X9_record_h31 F q2.2) else (if x3 < (-1999999) then (f_X9_record_h31 F q2.2) else (if x3 ≤ 1999999 then (Option.bind (si_rd q2.2 4 x2) fun v3 => Option.bind (si_mk q2.2 0 2) fun k94 => Option.bind (si_rd q2.2 8 x1) fun v5 => Option.bind (si_rd q2.2 (k94 + 4) v5) fun v6 => if v3 ≤ v6 then (Option.bind (f_X7_isOpen F x1 q2.2) fun q7 => if q7.1 = 0 then (some ((-2), q7.2)) else (Option.bind (si_rd q7.2 12 x1) fun v8 => if v8 < 8 then (Option.bind (f_X0_add F 1 x1 q7.2) fun S9 => Option.bind (f_X7_addTest F x1 x2 v3 (x3 - v3) S9) fun q10 => some (q10.1, q10.2)) else (some ((-3), q7.2)))) else (some ((-1), q2.2))) else (f_X9_record_h31 F q2.2))))
def f_X9_testCount_h21 (F : Nat) (t0 : Int32) (S : si_St) : Option (Int32 × si_St) :=
  some (t0, S)
def f_X9_testCount (F : Nat) (x1 : Int32) (S : si_St) : Option (Int32 × si_St) :=
  Option.bind (f_X9_hasVisit F x1 S) fun q1 => if q1.1 = 0 then (f_X9_testCount_h21 F (-1) q1.2) else (Option.bind (si_rd q1.2 12 x1) fun v2 => f_X9_testCount_h21 F v2 q1.2)
def f_X9_verdict_h25 (F : Nat) (t0 : Int32) (S : si_St) : Option (Int32 × si_St) :=
  some (t0, S)
def f_X9_verdict (F : Nat) (x1 : Int32) (S : si_St) : Option (Int32 × si_St) :=
  Option.bind (f_X9_hasVisit F x1 S) fun q1 => if q1.1 = 0 then (f_X9_verdict_h25 F (-1) q1.2) else (Option.bind (si_mk q1.2 0 2) fun k92 => Option.bind (f_X7_judge F k92 x1 0 q1.2) fun q3 => f_X9_verdict_h25 F q3.1 q3.2)
def f_X9_adjustedVerdict_h32 (F : Nat) (t0 : Int32) (S : si_St) : Option (Int32 × si_St) :=
  some (t0, S)
def f_X9_adjustedVerdict (F : Nat) (x1 : Int32) (S : si_St) : Option (Int32 × si_St) :=
  Option.bind (f_X9_hasVisit F x1 S) fun q1 => if q1.1 = 0 then (f_X9_adjustedVerdict_h32 F (-1) q1.2) else (Option.bind (si_mk q1.2 0 2) fun k92 => Option.bind (f_X7_middleError F x1 q1.2) fun q3 => Option.bind (f_X7_judge F k92 x1 q3.1 q3.2) fun q4 => f_X9_adjustedVerdict_h32 F q4.1 q4.2)
def f_X9_closeVisit (F : Nat) (x1 : Int32) (S : si_St) : Option (Int32 × si_St) :=
  Option.bind (f_X9_hasVisit F x1 S) fun q1 => if q1.1 = 0 then (some ((-1), q1.2)) else (Option.bind (f_X7_isOpen F x1 q1.2) fun q2 => if q2.1 = 0 then (some ((-2), q2.2)) else (Option.bind (si_mk q2.2 0 2) fun k93 => Option.bind (f_X7_judge F k93 x1 0 q2.2) fun q4 => Option.bind (si_wr q4.2 11 x1 q4.1) fun S5 => Option.bind (f_X0_add F 2 x1 S5) fun S6 => Option.bind (si_rd S6 11 x1) fun v7 => some (v7, S6)))
def f_X9_isClosed_h26 (F : Nat) (t0 : Int32) (S : si_St) : Option (Int32 × si_St) :=
  some (t0, S)
def f_X9_isClosed (F : Nat) (x1 : Int32) (S : si_St) : Option (Int32 × si_St) :=
  Option.bind (f_X9_hasVisit F x1 S) fun q1 => if q1.1 = 0 then (some ((-1), q1.2)) else (Option.bind (f_X7_isOpen F x1 q1.2) fun q2 => if q2.1 = 0 then (f_X9_isClosed_h26 F 1 q2.2) else (f_X9_isClosed_h26 F 0 q2.2))
abbrev rm_X9_isDay : Room := { frames := 0, cells := 0, slots := 0, locals := 0 }
set_option maxHeartbeats 4000000 in
set_option maxRecDepth 100000 in
theorem c_X9_isDay (l : Launch) (E : si_Ev) (F : Nat) (x0 : Int32) (S : si_St) (o : Int32 × si_St) (hf : f_X9_isDay F x0 S = some o) : si_Mi l E yX9_isDay cX9_isDay 1 (some .boolean) rm_X9_isDay [.int x0] S o := by
  refine si_ofWz (plainFor_of_name (by decide +kernel)) (Nat.le_of_ble_eq_true rfl) ?_
  intro p e s m args below meth c ls Q A X hw hA hl hret
  have hl : lv_has ls 1 [(0, .int x0)] := hl
  have B16 : ∀ (t0 : Int32) (S : si_St) (H : Heap) (locs : List Loc) (ls : Array Slot) , f_X9_isDay_h16 F t0 S = some o → si_Ws E A s.heap S H locs → lv_has ls 1 [] → W p l e rm_X9_isDay s m args below meth c H locs 0 0 Q (F0 m 16 ls [.int t0]) := by
    intro t0  S H locs ls  hf hw hl
    unfold f_X9_isDay_h16 at hf
    obtain ⟨v1, ev1, hf⟩ := si_ob hf
    exact hret _ _ _ _ _ _ (si_bzf ev1 hf) (si_nz (si_bz_inv ev1).1) hw dX9_isDay_16
  have B15 : ∀ (S : si_St) (H : Heap) (locs : List Loc) (ls : Array Slot) , f_X9_isDay_h15 F S = some o → si_Ws E A s.heap S H locs → lv_has ls 1 [] → W p l e rm_X9_isDay s m args below meth c H locs 0 0 Q (F0 m 15 ls []) := by
    intro   S H locs ls  hf hw hl
    unfold f_X9_isDay_h15 at hf
    refine lv_iconst (v := 0) X.1 X.2.1 dX9_isDay_15 (by decide) ?_
    exact B16 _ _ _ _ _ hf hw (lv_sub hl [] rfl)
  unfold f_X9_isDay at hf
  refine lv_iload_n X.1 X.2.1 dX9_isDay_0 rfl (lv_at hl 0 rfl) ?_
  refine lv_if_lt (tgt := 15) X.1 X.2.1 dX9_isDay_1 (by decide) (fun c1 => ?_) (fun c1 => ?_)
  · have hf := si_ip c1 hf
    exact B15 _ _ _ _ hf hw (lv_sub hl [] rfl)
  · have hf := si_in c1 hf
    refine lv_iload_n X.1 X.2.1 dX9_isDay_4 rfl (lv_at hl 0 rfl) ?_
    refine lv_sipush (v := 9999) X.1 X.2.1 dX9_isDay_5 (by decide) ?_
    refine lv_icmp_gt (tgt := 15) X.1 X.2.1 dX9_isDay_8 (by decide) (fun c8 => ?_) (fun c8 => ?_)
    · have hf := si_ip c8 hf
      exact B15 _ _ _ _ hf hw (lv_sub hl [] rfl)
    · have hf := si_in c8 hf
      refine lv_iconst (v := 1) X.1 X.2.1 dX9_isDay_11 (by decide) ?_
      refine lv_goto (tgt := 16) X.1 X.2.1 dX9_isDay_12 (by decide) ?_
      exact B16 _ _ _ _ _ hf hw (lv_sub hl [] rfl)
abbrev rm_X9_isWeighing : Room := { frames := 1, cells := 0, slots := 0, locals := 20 }
set_option maxHeartbeats 4000000 in
set_option maxRecDepth 100000 in
theorem c_X9_isWeighing (l : Launch) (E : si_Ev) (F : Nat) (x0 : Int32) (x1 : Int32) (x2 : Int32) (S : si_St) (o : Int32 × si_St) (hf : f_X9_isWeighing F x0 x1 x2 S = some o) : si_Mi l E yX9_isWeighing cX9_isWeighing 6 (some .boolean) rm_X9_isWeighing [.int x0, .int x1, .int x2] S o := by
  refine si_ofWz (plainFor_of_name (by decide +kernel)) (Nat.le_of_ble_eq_true rfl) ?_
  intro p e s m args below meth c ls Q A X hw hA hl hret
  have hl : lv_has ls 6 [(0, .int x0), (1, .int x1), (2, .int x2)] := hl
  have B71 : ∀ (t0 : Int32) (S : si_St) (H : Heap) (locs : List Loc) (ls : Array Slot) , f_X9_isWeighing_h71 F t0 S = some o → si_Ws E A s.heap S H locs → lv_has ls 6 [] → W p l e rm_X9_isWeighing s m args below meth c H locs 0 0 Q (F0 m 71 ls [.int t0]) := by
    intro t0  S H locs ls  hf hw hl
    unfold f_X9_isWeighing_h71 at hf
    obtain ⟨v1, ev1, hf⟩ := si_ob hf
    exact hret _ _ _ _ _ _ (si_bzf ev1 hf) (si_nz (si_bz_inv ev1).1) hw dX9_isWeighing_71
  have B70 : ∀ (S : si_St) (H : Heap) (locs : List Loc) (ls : Array Slot) , f_X9_isWeighing_h70 F S = some o → si_Ws E A s.heap S H locs → lv_has ls 6 [] → W p l e rm_X9_isWeighing s m args below meth c H locs 0 0 Q (F0 m 70 ls []) := by
    intro   S H locs ls  hf hw hl
    unfold f_X9_isWeighing_h70 at hf
    refine lv_iconst (v := 0) X.1 X.2.1 dX9_isWeighing_70 (by decide) ?_
    exact B71 _ _ _ _ _ hf hw (lv_sub hl [] rfl)
  have B46 : ∀ (x1 : Int32) (x3 : Int32) (x4 : Int32) (t0 : Int32) (S : si_St) (H : Heap) (locs : List Loc) (ls : Array Slot) , f_X9_isWeighing_h46 F x1 x3 x4 t0 S = some o → si_Ws E A s.heap S H locs → lv_has ls 6 [(1, .int x1), (3, .int x3), (4, .int x4)] → W p l e rm_X9_isWeighing s m args below meth c H locs 0 0 Q (F0 m 46 ls [.int t0]) := by
    intro x1 x3 x4 t0  S H locs ls  hf hw hl
    unfold f_X9_isWeighing_h46 at hf
    refine lv_istore (lv' := [(5, .int t0), (1, .int x1), (3, .int x3), (4, .int x4)]) X.1 X.2.1 dX9_isWeighing_46 hl (by decide) rfl (fun ls hl => ?_)
    refine lv_iload_n X.1 X.2.1 dX9_isWeighing_48 rfl (lv_at hl 2 rfl) ?_
    refine lv_if_eq (tgt := 70) X.1 X.2.1 dX9_isWeighing_49 (by decide) (fun c49 => ?_) (fun c49 => ?_)
    · have hf := si_ip c49 hf
      exact B70 _ _ _ _ hf hw (lv_sub hl [] rfl)
    · have hf := si_in c49 hf
      refine lv_iload X.1 X.2.1 dX9_isWeighing_52 (lv_at hl 3 rfl) ?_
      refine lv_if_eq (tgt := 70) X.1 X.2.1 dX9_isWeighing_54 (by decide) (fun c54 => ?_) (fun c54 => ?_)
      · have hf := si_ip c54 hf
        exact B70 _ _ _ _ hf hw (lv_sub hl [] rfl)
      · have hf := si_in c54 hf
        refine lv_iload X.1 X.2.1 dX9_isWeighing_57 (lv_at hl 0 rfl) ?_
        refine lv_if_eq (tgt := 70) X.1 X.2.1 dX9_isWeighing_59 (by decide) (fun c59 => ?_) (fun c59 => ?_)
        · have hf := si_ip c59 hf
          exact B70 _ _ _ _ hf hw (lv_sub hl [] rfl)
        · have hf := si_in c59 hf
          refine lv_iload_n X.1 X.2.1 dX9_isWeighing_62 rfl (lv_at hl 1 rfl) ?_
          refine lv_if_eq (tgt := 70) X.1 X.2.1 dX9_isWeighing_63 (by decide) (fun c63 => ?_) (fun c63 => ?_)
          · have hf := si_ip c63 hf
            exact B70 _ _ _ _ hf hw (lv_sub hl [] rfl)
          · have hf := si_in c63 hf
            refine lv_iconst (v := 1) X.1 X.2.1 dX9_isWeighing_66 (by decide) ?_
            refine lv_goto (tgt := 71) X.1 X.2.1 dX9_isWeighing_67 (by decide) ?_
            exact B71 _ _ _ _ _ hf hw (lv_sub hl [] rfl)
  have B28 : ∀ (x1 : Int32) (x2 : Int32) (x3 : Int32) (t0 : Int32) (S : si_St) (H : Heap) (locs : List Loc) (ls : Array Slot) , f_X9_isWeighing_h28 F x1 x2 x3 t0 S = some o → si_Ws E A s.heap S H locs → lv_has ls 6 [(1, .int x1), (2, .int x2), (3, .int x3)] → W p l e rm_X9_isWeighing s m args below meth c H locs 0 0 Q (F0 m 28 ls [.int t0]) := by
    intro x1 x2 x3 t0  S H locs ls  hf hw hl
    unfold f_X9_isWeighing_h28 at hf
    refine lv_istore (lv' := [(4, .int t0), (1, .int x1), (2, .int x2), (3, .int x3)]) X.1 X.2.1 dX9_isWeighing_28 hl (by decide) rfl (fun ls hl => ?_)
    refine lv_iload_n X.1 X.2.1 dX9_isWeighing_30 rfl (lv_at hl 1 rfl) ?_
    obtain ⟨q2, eq2, hf⟩ := si_ob hf
    refine si_cSi [.int x1] cal_J6_bitCount_0f7a4 gm_RX9_287 X hw hA hl.1 (c_J6_bitCount_0f7a4 l E F x1 S q2 eq2) ⟨⟨rfl, rfl⟩, Nat.le_of_ble_eq_true rfl, Nat.le_of_ble_eq_true rfl⟩ rfl rfl (Nat.le_of_ble_eq_true rfl) ⟨Nat.zero_le _, Nat.zero_le _⟩ dX9_isWeighing_31 (fun H locs hw => ?_)
    refine lv_iload_n X.1 X.2.1 dX9_isWeighing_34 rfl (lv_at hl 2 rfl) ?_
    obtain ⟨q3, eq3, hf⟩ := si_ob hf
    refine si_cSi [.int x2] cal_J6_bitCount_0f7a4 gm_RX9_287 X hw hA hl.1 (c_J6_bitCount_0f7a4 l E F x2 q2.2 q3 eq3) ⟨⟨rfl, rfl⟩, Nat.le_of_ble_eq_true rfl, Nat.le_of_ble_eq_true rfl⟩ rfl rfl (Nat.le_of_ble_eq_true rfl) ⟨Nat.zero_le _, Nat.zero_le _⟩ dX9_isWeighing_35 (fun H locs hw => ?_)
    refine lv_icmp_ne (tgt := 45) X.1 X.2.1 dX9_isWeighing_38 (by decide) (fun c38 => ?_) (fun c38 => ?_)
    · have hf := si_in c38 hf
      refine lv_iconst (v := 0) X.1 X.2.1 dX9_isWeighing_45 (by decide) ?_
      exact B46 _ _ _ _ _ _ _ _ hf hw (lv_sub hl [1, 3, 0] rfl)
    · have hf := si_ip c38 hf
      refine lv_iconst (v := 1) X.1 X.2.1 dX9_isWeighing_41 (by decide) ?_
      refine lv_goto (tgt := 46) X.1 X.2.1 dX9_isWeighing_42 (by decide) ?_
      exact B46 _ _ _ _ _ _ _ _ hf hw (lv_sub hl [1, 3, 0] rfl)
  have B16 : ∀ (x1 : Int32) (x2 : Int32) (t0 : Int32) (S : si_St) (H : Heap) (locs : List Loc) (ls : Array Slot) , f_X9_isWeighing_h16 F x1 x2 t0 S = some o → si_Ws E A s.heap S H locs → lv_has ls 6 [(1, .int x1), (2, .int x2)] → W p l e rm_X9_isWeighing s m args below meth c H locs 0 0 Q (F0 m 16 ls [.int t0]) := by
    intro x1 x2 t0  S H locs ls  hf hw hl
    unfold f_X9_isWeighing_h16 at hf
    refine lv_istore_n (lv' := [(3, .int t0), (1, .int x1), (2, .int x2)]) X.1 X.2.1 dX9_isWeighing_16 rfl hl (by decide) rfl (fun ls hl => ?_)
    refine lv_iload_n X.1 X.2.1 dX9_isWeighing_17 rfl (lv_at hl 1 rfl) ?_
    refine lv_iload_n X.1 X.2.1 dX9_isWeighing_18 rfl (lv_at hl 2 rfl) ?_
    refine lv_iand X.1 X.2.1 dX9_isWeighing_19 ?_
    refine lv_if_ne (tgt := 27) X.1 X.2.1 dX9_isWeighing_20 (by decide) (fun c20 => ?_) (fun c20 => ?_)
    · have hf := si_in c20 hf
      refine lv_iconst (v := 0) X.1 X.2.1 dX9_isWeighing_27 (by decide) ?_
      exact B28 _ _ _ _ _ _ _ _ hf hw (lv_sub hl [1, 2, 0] rfl)
    · have hf := si_ip c20 hf
      refine lv_iconst (v := 1) X.1 X.2.1 dX9_isWeighing_23 (by decide) ?_
      refine lv_goto (tgt := 28) X.1 X.2.1 dX9_isWeighing_24 (by decide) ?_
      exact B28 _ _ _ _ _ _ _ _ hf hw (lv_sub hl [1, 2, 0] rfl)
  unfold f_X9_isWeighing at hf
  refine lv_iload_n X.1 X.2.1 dX9_isWeighing_0 rfl (lv_at hl 1 rfl) ?_
  refine lv_iload_n X.1 X.2.1 dX9_isWeighing_1 rfl (lv_at hl 2 rfl) ?_
  refine lv_ior X.1 X.2.1 dX9_isWeighing_2 ?_
  refine lv_iconst (v := 1) X.1 X.2.1 dX9_isWeighing_3 (by decide) ?_
  refine lv_iload_n X.1 X.2.1 dX9_isWeighing_4 rfl (lv_at hl 0 rfl) ?_
  refine lv_ishl X.1 X.2.1 dX9_isWeighing_5 ?_
  refine lv_ineg X.1 X.2.1 dX9_isWeighing_6 ?_
  refine lv_iand X.1 X.2.1 dX9_isWeighing_7 ?_
  refine lv_if_ne (tgt := 15) X.1 X.2.1 dX9_isWeighing_8 (by decide) (fun c8 => ?_) (fun c8 => ?_)
  · have hf := si_in c8 hf
    refine lv_iconst (v := 0) X.1 X.2.1 dX9_isWeighing_15 (by decide) ?_
    exact B16 _ _ _ _ _ _ _ hf hw (lv_sub hl [1, 2] rfl)
  · have hf := si_ip c8 hf
    refine lv_iconst (v := 1) X.1 X.2.1 dX9_isWeighing_11 (by decide) ?_
    refine lv_goto (tgt := 16) X.1 X.2.1 dX9_isWeighing_12 (by decide) ?_
    exact B16 _ _ _ _ _ _ _ hf hw (lv_sub hl [1, 2] rfl)
abbrev rm_X9_orNone : Room := { frames := 0, cells := 0, slots := 0, locals := 0 }
set_option maxHeartbeats 4000000 in
set_option maxRecDepth 100000 in
theorem c_X9_orNone (l : Launch) (E : si_Ev) (F : Nat) (x0 : Int32) (S : si_St) (o : Int32 × si_St) (hf : f_X9_orNone F x0 S = some o) : si_Mi l E yX9_orNone cX9_orNone 1 (some .int) rm_X9_orNone [.int x0] S o := by
  refine si_ofWi (plainFor_of_name (by decide +kernel)) (Nat.le_of_ble_eq_true rfl) ?_
  intro p e s m args below meth c ls Q A X hw hA hl hret
  have hl : lv_has ls 1 [(0, .int x0)] := hl
  have B12 : ∀ (t0 : Int32) (S : si_St) (H : Heap) (locs : List Loc) (ls : Array Slot) , f_X9_orNone_h12 F t0 S = some o → si_Ws E A s.heap S H locs → lv_has ls 1 [] → W p l e rm_X9_orNone s m args below meth c H locs 0 0 Q (F0 m 12 ls [.int t0]) := by
    intro t0  S H locs ls  hf hw hl
    unfold f_X9_orNone_h12 at hf
    exact hret _ _ _ _ _ _ hf hw dX9_orNone_12
  unfold f_X9_orNone at hf
  refine lv_iload_n X.1 X.2.1 dX9_orNone_0 rfl (lv_at hl 0 rfl) ?_
  refine lv_bipush (v := 99) X.1 X.2.1 dX9_orNone_1 (by decide) ?_
  refine lv_icmp_ne (tgt := 11) X.1 X.2.1 dX9_orNone_3 (by decide) (fun c3 => ?_) (fun c3 => ?_)
  · have hf := si_in c3 hf
    refine lv_iload_n X.1 X.2.1 dX9_orNone_11 rfl (lv_at hl 0 rfl) ?_
    exact B12 _ _ _ _ _ hf hw (lv_sub hl [] rfl)
  · have hf := si_ip c3 hf
    refine lv_bipush (v := (-2)) X.1 X.2.1 dX9_orNone_6 (by decide) ?_
    refine lv_goto (tgt := 12) X.1 X.2.1 dX9_orNone_8 (by decide) ?_
    exact B12 _ _ _ _ _ hf hw (lv_sub hl [] rfl)
abbrev rm_X9_slotAt : Room := { frames := 0, cells := 0, slots := 0, locals := 0 }
set_option maxHeartbeats 4000000 in
set_option maxRecDepth 100000 in
theorem c_X9_slotAt (l : Launch) (E : si_Ev) (F : Nat) (x1 : Int32) (S : si_St) (o : Nat × si_St) (hf : f_X9_slotAt F x1 S = some o) : si_Mr l E yX9_slotAt cX9_slotAt 2 (some (.object "ScaleInspection$Snapshot")) rm_X9_slotAt [.ref (E.2.1 0), .int x1] S o := by
  refine si_ofWr (plainFor_of_name (by decide +kernel)) (Nat.le_of_ble_eq_true rfl) ?_
  intro p e s m args below meth c ls Q A X hw hA hl hret
  have hl : lv_has ls 2 [(0, .ref (E.2.1 0)), (1, .int x1)] := hl
  have B15 : ∀ (kt0 : Nat) (hkt0 : si_kd kt0 = 4) (S : si_St) (H : Heap) (locs : List Loc) (ls : Array Slot) , f_X9_slotAt_h15 F kt0 S = some o → si_Ws E A s.heap S H locs → lv_has ls 2 [] → W p l e rm_X9_slotAt s m args below meth c H locs 0 0 Q (F0 m 15 ls [.ref (E.2.1 kt0)]) := by
    intro kt0 hkt0 S H locs ls  hf hw hl
    unfold f_X9_slotAt_h15 at hf
    exact hret _ _ _ _ _ _ hf hw dX9_slotAt_15
  unfold f_X9_slotAt at hf
  refine lv_iload_n X.1 X.2.1 dX9_slotAt_0 rfl (lv_at hl 1 rfl) ?_
  refine lv_if_ne (tgt := 11) X.1 X.2.1 dX9_slotAt_1 (by decide) (fun c1 => ?_) (fun c1 => ?_)
  · have hf := si_in c1 hf
    refine lv_aload_n X.1 X.2.1 dX9_slotAt_11 rfl (lv_at hl 0 rfl) ?_
    refine si_getR (k' := 42) (d := 42) X hw si_cl9 6 (by decide) gf_RX9_51 rfl rfl rfl (by decide) rfl dX9_slotAt_12 ?_
    exact B15 _ rfl _ _ _ _ hf hw (lv_sub hl [] rfl)
  · have hf := si_ip c1 hf
    refine lv_aload_n X.1 X.2.1 dX9_slotAt_4 rfl (lv_at hl 0 rfl) ?_
    refine si_getR (k' := 27) (d := 27) X hw si_cl9 5 (by decide) gf_RX9_47 rfl rfl rfl (by decide) rfl dX9_slotAt_5 ?_
    refine lv_goto (tgt := 15) X.1 X.2.1 dX9_slotAt_8 (by decide) ?_
    exact B15 _ rfl _ _ _ _ hf hw (lv_sub hl [] rfl)
abbrev rm_X9_hasScale : Room := { frames := 0, cells := 0, slots := 0, locals := 0 }
set_option maxHeartbeats 4000000 in
set_option maxRecDepth 100000 in
theorem c_X9_hasScale (l : Launch) (E : si_Ev) (F : Nat) (x1 : Int32) (S : si_St) (o : Int32 × si_St) (hf : f_X9_hasScale F x1 S = some o) : si_Mi l E yX9_hasScale cX9_hasScale 2 (some .boolean) rm_X9_hasScale [.ref (E.2.1 0), .int x1] S o := by
  refine si_ofWz (plainFor_of_name (by decide +kernel)) (Nat.le_of_ble_eq_true rfl) ?_
  intro p e s m args below meth c ls Q A X hw hA hl hret
  have hl : lv_has ls 2 [(0, .ref (E.2.1 0)), (1, .int x1)] := hl
  have B20 : ∀ (t0 : Int32) (S : si_St) (H : Heap) (locs : List Loc) (ls : Array Slot) , f_X9_hasScale_h20 F t0 S = some o → si_Ws E A s.heap S H locs → lv_has ls 2 [] → W p l e rm_X9_hasScale s m args below meth c H locs 0 0 Q (F0 m 20 ls [.int t0]) := by
    intro t0  S H locs ls  hf hw hl
    unfold f_X9_hasScale_h20 at hf
    obtain ⟨v1, ev1, hf⟩ := si_ob hf
    exact hret _ _ _ _ _ _ (si_bzf ev1 hf) (si_nz (si_bz_inv ev1).1) hw dX9_hasScale_20
  have B19 : ∀ (S : si_St) (H : Heap) (locs : List Loc) (ls : Array Slot) , f_X9_hasScale_h19 F S = some o → si_Ws E A s.heap S H locs → lv_has ls 2 [] → W p l e rm_X9_hasScale s m args below meth c H locs 0 0 Q (F0 m 19 ls []) := by
    intro   S H locs ls  hf hw hl
    unfold f_X9_hasScale_h19 at hf
    refine lv_iconst (v := 0) X.1 X.2.1 dX9_hasScale_19 (by decide) ?_
    exact B20 _ _ _ _ _ hf hw (lv_sub hl [] rfl)
  unfold f_X9_hasScale at hf
  refine lv_iload_n X.1 X.2.1 dX9_hasScale_0 rfl (lv_at hl 1 rfl) ?_
  refine lv_if_lt (tgt := 19) X.1 X.2.1 dX9_hasScale_1 (by decide) (fun c1 => ?_) (fun c1 => ?_)
  · have hf := si_ip c1 hf
    exact B19 _ _ _ _ hf hw (lv_sub hl [] rfl)
  · have hf := si_in c1 hf
    refine lv_iload_n X.1 X.2.1 dX9_hasScale_4 rfl (lv_at hl 1 rfl) ?_
    refine lv_aload_n X.1 X.2.1 dX9_hasScale_5 rfl (lv_at hl 0 rfl) ?_
    obtain ⟨k92, ek92, hf⟩ := si_ob hf
    have hk92 := (si_mk_inv ek92).1
    refine si_gtM (d := 0) X hw si_cl9 9 (by decide) gf_RX9_71 rfl rfl rfl ek92 dX9_hasScale_6 ?_
    refine si_getI X hw si_cl2 1 (by decide) gf_RX9_116 rfl hk92 rfl dX9_hasScale_9 ?_
    refine lv_icmp_ge (tgt := 19) X.1 X.2.1 dX9_hasScale_12 (by decide) (fun c12 => ?_) (fun c12 => ?_)
    · have hf := si_ip c12 hf
      exact B19 _ _ _ _ hf hw (lv_sub hl [] rfl)
    · have hf := si_in c12 hf
      refine lv_iconst (v := 1) X.1 X.2.1 dX9_hasScale_15 (by decide) ?_
      refine lv_goto (tgt := 20) X.1 X.2.1 dX9_hasScale_16 (by decide) ?_
      exact B20 _ _ _ _ _ hf hw (lv_sub hl [] rfl)
abbrev rm_X9_hasVisit : Room := { frames := 0, cells := 0, slots := 0, locals := 0 }
set_option maxHeartbeats 4000000 in
set_option maxRecDepth 100000 in
theorem c_X9_hasVisit (l : Launch) (E : si_Ev) (F : Nat) (x1 : Int32) (S : si_St) (o : Int32 × si_St) (hf : f_X9_hasVisit F x1 S = some o) : si_Mi l E yX9_hasVisit cX9_hasVisit 2 (some .boolean) rm_X9_hasVisit [.ref (E.2.1 0), .int x1] S o := by
  refine si_ofWz (plainFor_of_name (by decide +kernel)) (Nat.le_of_ble_eq_true rfl) ?_
  intro p e s m args below meth c ls Q A X hw hA hl hret
  have hl : lv_has ls 2 [(0, .ref (E.2.1 0)), (1, .int x1)] := hl
  have B20 : ∀ (t0 : Int32) (S : si_St) (H : Heap) (locs : List Loc) (ls : Array Slot) , f_X9_hasVisit_h20 F t0 S = some o → si_Ws E A s.heap S H locs → lv_has ls 2 [] → W p l e rm_X9_hasVisit s m args below meth c H locs 0 0 Q (F0 m 20 ls [.int t0]) := by
    intro t0  S H locs ls  hf hw hl
    unfold f_X9_hasVisit_h20 at hf
    obtain ⟨v1, ev1, hf⟩ := si_ob hf
    exact hret _ _ _ _ _ _ (si_bzf ev1 hf) (si_nz (si_bz_inv ev1).1) hw dX9_hasVisit_20
  have B19 : ∀ (S : si_St) (H : Heap) (locs : List Loc) (ls : Array Slot) , f_X9_hasVisit_h19 F S = some o → si_Ws E A s.heap S H locs → lv_has ls 2 [] → W p l e rm_X9_hasVisit s m args below meth c H locs 0 0 Q (F0 m 19 ls []) := by
    intro   S H locs ls  hf hw hl
    unfold f_X9_hasVisit_h19 at hf
    refine lv_iconst (v := 0) X.1 X.2.1 dX9_hasVisit_19 (by decide) ?_
    exact B20 _ _ _ _ _ hf hw (lv_sub hl [] rfl)
  unfold f_X9_hasVisit at hf
  refine lv_iload_n X.1 X.2.1 dX9_hasVisit_0 rfl (lv_at hl 1 rfl) ?_
  refine lv_if_lt (tgt := 19) X.1 X.2.1 dX9_hasVisit_1 (by decide) (fun c1 => ?_) (fun c1 => ?_)
  · have hf := si_ip c1 hf
    exact B19 _ _ _ _ hf hw (lv_sub hl [] rfl)
  · have hf := si_in c1 hf
    refine lv_iload_n X.1 X.2.1 dX9_hasVisit_4 rfl (lv_at hl 1 rfl) ?_
    refine lv_aload_n X.1 X.2.1 dX9_hasVisit_5 rfl (lv_at hl 0 rfl) ?_
    refine si_getR (k' := 7) (d := 7) X hw si_cl9 2 (by decide) gf_RX9_26 rfl rfl rfl (by decide) rfl dX9_hasVisit_6 ?_
    refine si_getI X hw si_cl7 0 (by decide) gf_RX9_97 rfl rfl rfl dX9_hasVisit_9 ?_
    refine lv_icmp_ge (tgt := 19) X.1 X.2.1 dX9_hasVisit_12 (by decide) (fun c12 => ?_) (fun c12 => ?_)
    · have hf := si_ip c12 hf
      exact B19 _ _ _ _ hf hw (lv_sub hl [] rfl)
    · have hf := si_in c12 hf
      refine lv_iconst (v := 1) X.1 X.2.1 dX9_hasVisit_15 (by decide) ?_
      refine lv_goto (tgt := 20) X.1 X.2.1 dX9_hasVisit_16 (by decide) ?_
      exact B20 _ _ _ _ _ hf hw (lv_sub hl [] rfl)
abbrev rm_X9_hasTest : Room := { frames := 1, cells := 0, slots := 0, locals := 21 }
set_option maxHeartbeats 4000000 in
set_option maxRecDepth 100000 in
theorem c_X9_hasTest (l : Launch) (E : si_Ev) (F : Nat) (x1 : Int32) (x2 : Int32) (S : si_St) (o : Int32 × si_St) (hf : f_X9_hasTest F x1 x2 S = some o) : si_Mi l E yX9_hasTest cX9_hasTest 3 (some .boolean) rm_X9_hasTest [.ref (E.2.1 0), .int x1, .int x2] S o := by
  refine si_ofWz (plainFor_of_name (by decide +kernel)) (Nat.le_of_ble_eq_true rfl) ?_
  intro p e s m args below meth c ls Q A X hw hA hl hret
  have hl : lv_has ls 3 [(0, .ref (E.2.1 0)), (1, .int x1), (2, .int x2)] := hl
  have B30 : ∀ (t0 : Int32) (S : si_St) (H : Heap) (locs : List Loc) (ls : Array Slot) , f_X9_hasTest_h30 F t0 S = some o → si_Ws E A s.heap S H locs → lv_has ls 3 [] → W p l e rm_X9_hasTest s m args below meth c H locs 0 0 Q (F0 m 30 ls [.int t0]) := by
    intro t0  S H locs ls  hf hw hl
    unfold f_X9_hasTest_h30 at hf
    obtain ⟨v1, ev1, hf⟩ := si_ob hf
    exact hret _ _ _ _ _ _ (si_bzf ev1 hf) (si_nz (si_bz_inv ev1).1) hw dX9_hasTest_30
  have B29 : ∀ (S : si_St) (H : Heap) (locs : List Loc) (ls : Array Slot) , f_X9_hasTest_h29 F S = some o → si_Ws E A s.heap S H locs → lv_has ls 3 [] → W p l e rm_X9_hasTest s m args below meth c H locs 0 0 Q (F0 m 29 ls []) := by
    intro   S H locs ls  hf hw hl
    unfold f_X9_hasTest_h29 at hf
    refine lv_iconst (v := 0) X.1 X.2.1 dX9_hasTest_29 (by decide) ?_
    exact B30 _ _ _ _ _ hf hw (lv_sub hl [] rfl)
  unfold f_X9_hasTest at hf
  refine lv_aload_n X.1 X.2.1 dX9_hasTest_0 rfl (lv_at hl 0 rfl) ?_
  refine lv_iload_n X.1 X.2.1 dX9_hasTest_1 rfl (lv_at hl 1 rfl) ?_
  obtain ⟨q2, eq2, hf⟩ := si_ob hf
  refine si_cVi [.int x1] cal_X9_hasVisit gm_RX9_181 X hw hA hl.1 (c_X9_hasVisit l E F x1 S q2 eq2) si_cl9 rfl ⟨⟨rfl, rfl⟩, Nat.le_of_ble_eq_true rfl, Nat.le_of_ble_eq_true rfl⟩ rfl rfl (Nat.le_of_ble_eq_true rfl) ⟨Nat.zero_le _, Nat.zero_le _⟩ dX9_hasTest_2 (fun H locs hw => ?_)
  refine lv_if_eq (tgt := 29) X.1 X.2.1 dX9_hasTest_5 (by decide) (fun c5 => ?_) (fun c5 => ?_)
  · have hf := si_ip c5 hf
    exact B29 _ _ _ _ hf hw (lv_sub hl [] rfl)
  · have hf := si_in c5 hf
    refine lv_iload_n X.1 X.2.1 dX9_hasTest_8 rfl (lv_at hl 2 rfl) ?_
    refine lv_if_lt (tgt := 29) X.1 X.2.1 dX9_hasTest_9 (by decide) (fun c9 => ?_) (fun c9 => ?_)
    · have hf := si_ip c9 hf
      exact B29 _ _ _ _ hf hw (lv_sub hl [] rfl)
    · have hf := si_in c9 hf
      refine lv_iload_n X.1 X.2.1 dX9_hasTest_12 rfl (lv_at hl 2 rfl) ?_
      refine lv_aload_n X.1 X.2.1 dX9_hasTest_13 rfl (lv_at hl 0 rfl) ?_
      refine si_getR (k' := 7) (d := 7) X hw si_cl9 2 (by decide) gf_RX9_26 rfl rfl rfl (by decide) rfl dX9_hasTest_14 ?_
      refine si_getR (k' := 12) (d := 5) X hw si_cl7 5 (by decide) gf_RX9_201 rfl rfl rfl (by decide) rfl dX9_hasTest_17 ?_
      refine lv_iload_n X.1 X.2.1 dX9_hasTest_20 rfl (lv_at hl 1 rfl) ?_
      obtain ⟨v3, ev3, hf⟩ := si_ob hf
      refine si_iald X hw rfl ev3 dX9_hasTest_21 ?_
      refine lv_icmp_ge (tgt := 29) X.1 X.2.1 dX9_hasTest_22 (by decide) (fun c22 => ?_) (fun c22 => ?_)
      · have hf := si_ip c22 hf
        exact B29 _ _ _ _ hf hw (lv_sub hl [] rfl)
      · have hf := si_in c22 hf
        refine lv_iconst (v := 1) X.1 X.2.1 dX9_hasTest_25 (by decide) ?_
        refine lv_goto (tgt := 30) X.1 X.2.1 dX9_hasTest_26 (by decide) ?_
        exact B30 _ _ _ _ _ hf hw (lv_sub hl [] rfl)
abbrev rm_X9_hasSet : Room := { frames := 0, cells := 0, slots := 0, locals := 0 }
set_option maxHeartbeats 4000000 in
set_option maxRecDepth 100000 in
theorem c_X9_hasSet (l : Launch) (E : si_Ev) (F : Nat) (x1 : Int32) (S : si_St) (o : Int32 × si_St) (hf : f_X9_hasSet F x1 S = some o) : si_Mi l E yX9_hasSet cX9_hasSet 2 (some .boolean) rm_X9_hasSet [.ref (E.2.1 0), .int x1] S o := by
  refine si_ofWz (plainFor_of_name (by decide +kernel)) (Nat.le_of_ble_eq_true rfl) ?_
  intro p e s m args below meth c ls Q A X hw hA hl hret
  have hl : lv_has ls 2 [(0, .ref (E.2.1 0)), (1, .int x1)] := hl
  have B20 : ∀ (t0 : Int32) (S : si_St) (H : Heap) (locs : List Loc) (ls : Array Slot) , f_X9_hasSet_h20 F t0 S = some o → si_Ws E A s.heap S H locs → lv_has ls 2 [] → W p l e rm_X9_hasSet s m args below meth c H locs 0 0 Q (F0 m 20 ls [.int t0]) := by
    intro t0  S H locs ls  hf hw hl
    unfold f_X9_hasSet_h20 at hf
    obtain ⟨v1, ev1, hf⟩ := si_ob hf
    exact hret _ _ _ _ _ _ (si_bzf ev1 hf) (si_nz (si_bz_inv ev1).1) hw dX9_hasSet_20
  have B19 : ∀ (S : si_St) (H : Heap) (locs : List Loc) (ls : Array Slot) , f_X9_hasSet_h19 F S = some o → si_Ws E A s.heap S H locs → lv_has ls 2 [] → W p l e rm_X9_hasSet s m args below meth c H locs 0 0 Q (F0 m 19 ls []) := by
    intro   S H locs ls  hf hw hl
    unfold f_X9_hasSet_h19 at hf
    refine lv_iconst (v := 0) X.1 X.2.1 dX9_hasSet_19 (by decide) ?_
    exact B20 _ _ _ _ _ hf hw (lv_sub hl [] rfl)
  unfold f_X9_hasSet at hf
  refine lv_iload_n X.1 X.2.1 dX9_hasSet_0 rfl (lv_at hl 1 rfl) ?_
  refine lv_if_lt (tgt := 19) X.1 X.2.1 dX9_hasSet_1 (by decide) (fun c1 => ?_) (fun c1 => ?_)
  · have hf := si_ip c1 hf
    exact B19 _ _ _ _ hf hw (lv_sub hl [] rfl)
  · have hf := si_in c1 hf
    refine lv_iload_n X.1 X.2.1 dX9_hasSet_4 rfl (lv_at hl 1 rfl) ?_
    refine lv_aload_n X.1 X.2.1 dX9_hasSet_5 rfl (lv_at hl 0 rfl) ?_
    obtain ⟨k92, ek92, hf⟩ := si_ob hf
    have hk92 := (si_mk_inv ek92).1
    refine si_gtM (d := 0) X hw si_cl9 9 (by decide) gf_RX9_71 rfl rfl rfl ek92 dX9_hasSet_6 ?_
    refine si_getI X hw si_cl2 3 (by decide) gf_RX9_122 rfl hk92 rfl dX9_hasSet_9 ?_
    refine lv_icmp_ge (tgt := 19) X.1 X.2.1 dX9_hasSet_12 (by decide) (fun c12 => ?_) (fun c12 => ?_)
    · have hf := si_ip c12 hf
      exact B19 _ _ _ _ hf hw (lv_sub hl [] rfl)
    · have hf := si_in c12 hf
      refine lv_iconst (v := 1) X.1 X.2.1 dX9_hasSet_15 (by decide) ?_
      refine lv_goto (tgt := 20) X.1 X.2.1 dX9_hasSet_16 (by decide) ?_
      exact B20 _ _ _ _ _ hf hw (lv_sub hl [] rfl)
abbrev rm_X9_chooseSet : Room := { frames := 5, cells := 0, slots := 0, locals := 123 }
set_option maxHeartbeats 4000000 in
set_option maxRecDepth 100000 in
theorem c_X9_chooseSet (l : Launch) (E : si_Ev) (F : Nat) (x1 : Int32) (S : si_St) (o : si_St) (hf : f_X9_chooseSet F x1 S = some o) : si_Mv l E yX9_chooseSet cX9_chooseSet 2 rm_X9_chooseSet [.ref (E.2.1 0), .int x1] S o := by
  refine si_ofWv (plainFor_of_name (by decide +kernel)) (Nat.le_of_ble_eq_true rfl) ?_
  intro p e s m args below meth c ls Q A X hw hA hl hret
  have hl : lv_has ls 2 [(0, .ref (E.2.1 0)), (1, .int x1)] := hl
  unfold f_X9_chooseSet at hf
  refine lv_aload_n X.1 X.2.1 dX9_chooseSet_0 rfl (lv_at hl 0 rfl) ?_
  refine si_getR (k' := 65) (d := 65) X hw si_cl9 8 (by decide) gf_RX9_64 rfl rfl rfl (by decide) rfl dX9_chooseSet_1 ?_
  refine lv_aload_n X.1 X.2.1 dX9_chooseSet_4 rfl (lv_at hl 0 rfl) ?_
  obtain ⟨k91, ek91, hf⟩ := si_ob hf
  have hk91 := (si_mk_inv ek91).1
  refine si_gtM (d := 0) X hw si_cl9 9 (by decide) gf_RX9_71 rfl rfl rfl ek91 dX9_chooseSet_5 ?_
  refine si_getR (k' := (k91 + 6)) (d := 6) X hw si_cl2 9 (by decide) gf_RX9_268 rfl hk91 rfl (by decide) rfl dX9_chooseSet_8 ?_
  refine lv_iload_n X.1 X.2.1 dX9_chooseSet_11 rfl (lv_at hl 1 rfl) ?_
  obtain ⟨v2, ev2, hf⟩ := si_ob hf
  refine si_iald X hw (sk_2_6 hk91) ev2 dX9_chooseSet_12 ?_
  refine lv_aload_n X.1 X.2.1 dX9_chooseSet_13 rfl (lv_at hl 0 rfl) ?_
  refine si_getR (k' := 16) (d := 16) X hw si_cl9 3 (by decide) gf_RX9_33 rfl rfl rfl (by decide) rfl dX9_chooseSet_14 ?_
  refine si_getR (k' := 17) (d := 1) X hw si_cl8 0 (by decide) gf_RX9_275 rfl rfl rfl (by decide) rfl dX9_chooseSet_17 ?_
  refine lv_iload_n X.1 X.2.1 dX9_chooseSet_20 rfl (lv_at hl 1 rfl) ?_
  obtain ⟨v3, ev3, hf⟩ := si_ob hf
  refine si_iald X hw rfl ev3 dX9_chooseSet_21 ?_
  refine lv_aload_n X.1 X.2.1 dX9_chooseSet_22 rfl (lv_at hl 0 rfl) ?_
  refine si_getR (k' := 16) (d := 16) X hw si_cl9 3 (by decide) gf_RX9_33 rfl rfl rfl (by decide) rfl dX9_chooseSet_23 ?_
  refine si_getR (k' := 18) (d := 2) X hw si_cl8 1 (by decide) gf_RX9_281 rfl rfl rfl (by decide) rfl dX9_chooseSet_26 ?_
  refine lv_iload_n X.1 X.2.1 dX9_chooseSet_29 rfl (lv_at hl 1 rfl) ?_
  obtain ⟨v4, ev4, hf⟩ := si_ob hf
  refine si_iald X hw rfl ev4 dX9_chooseSet_30 ?_
  refine lv_aload_n X.1 X.2.1 dX9_chooseSet_31 rfl (lv_at hl 0 rfl) ?_
  refine si_getR (k' := 16) (d := 16) X hw si_cl9 3 (by decide) gf_RX9_33 rfl rfl rfl (by decide) rfl dX9_chooseSet_32 ?_
  refine si_getR (k' := 19) (d := 3) X hw si_cl8 2 (by decide) gf_RX9_284 rfl rfl rfl (by decide) rfl dX9_chooseSet_35 ?_
  refine lv_iload_n X.1 X.2.1 dX9_chooseSet_38 rfl (lv_at hl 1 rfl) ?_
  obtain ⟨v5, ev5, hf⟩ := si_ob hf
  refine si_iald X hw rfl ev5 dX9_chooseSet_39 ?_
  obtain ⟨S6, eS6, hf⟩ := si_ob hf
  refine si_cVv [.int v2, .int v3, .int v4, .int v5] cal_X5_choose gm_RX9_329 X hw hA hl.1 (c_X5_choose l E F v2 v3 v4 v5 S S6 eS6) si_cl5 rfl ⟨⟨rfl, rfl⟩, Nat.le_of_ble_eq_true rfl, Nat.le_of_ble_eq_true rfl⟩ rfl rfl (Nat.le_of_ble_eq_true rfl) ⟨Nat.zero_le _, Nat.zero_le _⟩ dX9_chooseSet_40 (fun H locs hw => ?_)
  exact hret _ _ _ _ _ hf hw dX9_chooseSet_43
abbrev rm_X9_append : Room := { frames := 1, cells := 0, slots := 0, locals := 22 }
set_option maxHeartbeats 4000000 in
set_option maxRecDepth 100000 in
theorem c_X9_append (l : Launch) (E : si_Ev) (F : Nat) (x1 : Int32) (x2 : Int32) (x3 : Int32) (x4 : Int32) (x5 : Int32) (S : si_St) (o : Int32 × si_St) (hf : f_X9_append F x1 x2 x3 x4 x5 S = some o) : si_Mi l E yX9_append cX9_append 6 (some .int) rm_X9_append [.ref (E.2.1 0), .int x1, .int x2, .int x3, .int x4, .int x5] S o := by
  refine si_ofWi (plainFor_of_name (by decide +kernel)) (Nat.le_of_ble_eq_true rfl) ?_
  intro p e s m args below meth c ls Q A X hw hA hl hret
  have hl : lv_has ls 6 [(0, .ref (E.2.1 0)), (1, .int x1), (2, .int x2), (3, .int x3), (4, .int x4), (5, .int x5)] := hl
  unfold f_X9_append at hf
  refine lv_aload_n X.1 X.2.1 dX9_append_0 rfl (lv_at hl 0 rfl) ?_
  refine si_getR (k' := 1) (d := 1) X hw si_cl9 0 (by decide) gf_RX9_10 rfl rfl rfl (by decide) rfl dX9_append_1 ?_
  refine si_getI X hw si_cl3 1 (by decide) gf_RX9_78 rfl rfl rfl dX9_append_4 ?_
  refine lv_bipush (v := 20) X.1 X.2.1 dX9_append_7 (by decide) ?_
  refine lv_iadd X.1 X.2.1 dX9_append_9 ?_
  refine lv_sipush (v := 800) X.1 X.2.1 dX9_append_10 (by decide) ?_
  refine lv_icmp_le (tgt := 19) X.1 X.2.1 dX9_append_13 (by decide) (fun c13 => ?_) (fun c13 => ?_)
  · have hf := si_ip c13 hf
    refine lv_aload_n X.1 X.2.1 dX9_append_19 rfl (lv_at hl 0 rfl) ?_
    refine si_getR (k' := 1) (d := 1) X hw si_cl9 0 (by decide) gf_RX9_10 rfl rfl rfl (by decide) rfl dX9_append_20 ?_
    refine lv_iload_n X.1 X.2.1 dX9_append_23 rfl (lv_at hl 1 rfl) ?_
    obtain ⟨S1, eS1, hf⟩ := si_ob hf
    refine si_cVv [.int x1] cal_X3_addBytes gm_RX9_82 X hw hA hl.1 (c_X3_addBytes l E F x1 S S1 eS1) si_cl3 rfl ⟨⟨rfl, rfl⟩, Nat.le_of_ble_eq_true rfl, Nat.le_of_ble_eq_true rfl⟩ rfl rfl (Nat.le_of_ble_eq_true rfl) ⟨Nat.zero_le _, Nat.zero_le _⟩ dX9_append_24 (fun H locs hw => ?_)
    refine lv_aload_n X.1 X.2.1 dX9_append_27 rfl (lv_at hl 0 rfl) ?_
    refine si_getR (k' := 1) (d := 1) X hw si_cl9 0 (by decide) gf_RX9_10 rfl rfl rfl (by decide) rfl dX9_append_28 ?_
    refine lv_iload_n X.1 X.2.1 dX9_append_31 rfl (lv_at hl 2 rfl) ?_
    obtain ⟨S2, eS2, hf⟩ := si_ob hf
    refine si_cVv [.int x2] cal_X3_addBytes gm_RX9_82 X hw hA hl.1 (c_X3_addBytes l E F x2 S1 S2 eS2) si_cl3 rfl ⟨⟨rfl, rfl⟩, Nat.le_of_ble_eq_true rfl, Nat.le_of_ble_eq_true rfl⟩ rfl rfl (Nat.le_of_ble_eq_true rfl) ⟨Nat.zero_le _, Nat.zero_le _⟩ dX9_append_32 (fun H locs hw => ?_)
    refine lv_aload_n X.1 X.2.1 dX9_append_35 rfl (lv_at hl 0 rfl) ?_
    refine si_getR (k' := 1) (d := 1) X hw si_cl9 0 (by decide) gf_RX9_10 rfl rfl rfl (by decide) rfl dX9_append_36 ?_
    refine lv_iload_n X.1 X.2.1 dX9_append_39 rfl (lv_at hl 3 rfl) ?_
    obtain ⟨S3, eS3, hf⟩ := si_ob hf
    refine si_cVv [.int x3] cal_X3_addBytes gm_RX9_82 X hw hA hl.1 (c_X3_addBytes l E F x3 S2 S3 eS3) si_cl3 rfl ⟨⟨rfl, rfl⟩, Nat.le_of_ble_eq_true rfl, Nat.le_of_ble_eq_true rfl⟩ rfl rfl (Nat.le_of_ble_eq_true rfl) ⟨Nat.zero_le _, Nat.zero_le _⟩ dX9_append_40 (fun H locs hw => ?_)
    refine lv_aload_n X.1 X.2.1 dX9_append_43 rfl (lv_at hl 0 rfl) ?_
    refine si_getR (k' := 1) (d := 1) X hw si_cl9 0 (by decide) gf_RX9_10 rfl rfl rfl (by decide) rfl dX9_append_44 ?_
    refine lv_iload X.1 X.2.1 dX9_append_47 (lv_at hl 4 rfl) ?_
    obtain ⟨S4, eS4, hf⟩ := si_ob hf
    refine si_cVv [.int x4] cal_X3_addBytes gm_RX9_82 X hw hA hl.1 (c_X3_addBytes l E F x4 S3 S4 eS4) si_cl3 rfl ⟨⟨rfl, rfl⟩, Nat.le_of_ble_eq_true rfl, Nat.le_of_ble_eq_true rfl⟩ rfl rfl (Nat.le_of_ble_eq_true rfl) ⟨Nat.zero_le _, Nat.zero_le _⟩ dX9_append_49 (fun H locs hw => ?_)
    refine lv_aload_n X.1 X.2.1 dX9_append_52 rfl (lv_at hl 0 rfl) ?_
    refine si_getR (k' := 1) (d := 1) X hw si_cl9 0 (by decide) gf_RX9_10 rfl rfl rfl (by decide) rfl dX9_append_53 ?_
    refine lv_iload X.1 X.2.1 dX9_append_56 (lv_at hl 5 rfl) ?_
    obtain ⟨S5, eS5, hf⟩ := si_ob hf
    refine si_cVv [.int x5] cal_X3_addBytes gm_RX9_82 X hw hA hl.1 (c_X3_addBytes l E F x5 S4 S5 eS5) si_cl3 rfl ⟨⟨rfl, rfl⟩, Nat.le_of_ble_eq_true rfl, Nat.le_of_ble_eq_true rfl⟩ rfl rfl (Nat.le_of_ble_eq_true rfl) ⟨Nat.zero_le _, Nat.zero_le _⟩ dX9_append_58 (fun H locs hw => ?_)
    refine lv_aload_n X.1 X.2.1 dX9_append_61 rfl (lv_at hl 0 rfl) ?_
    refine si_getR (k' := 1) (d := 1) X hw si_cl9 0 (by decide) gf_RX9_10 rfl rfl rfl (by decide) rfl dX9_append_62 ?_
    refine si_getI X hw si_cl3 1 (by decide) gf_RX9_78 rfl rfl rfl dX9_append_65 ?_
    exact hret _ _ _ _ _ _ hf hw dX9_append_68
  · have hf := si_in c13 hf
    refine lv_bipush (v := (-3)) X.1 X.2.1 dX9_append_16 (by decide) ?_
    exact hret _ _ _ _ _ _ hf hw dX9_append_18
abbrev rm_X9_takeDraft : Room := { frames := 3, cells := 0, slots := 0, locals := 85 }
set_option maxHeartbeats 4000000 in
set_option maxRecDepth 100000 in
theorem c_X9_takeDraft (l : Launch) (E : si_Ev) (F : Nat) (S : si_St) (o : si_St) (hf : f_X9_takeDraft F S = some o) : si_Mv l E yX9_takeDraft cX9_takeDraft 2 rm_X9_takeDraft [.ref (E.2.1 0)] S o := by
  refine si_ofWv (plainFor_of_name (by decide +kernel)) (Nat.le_of_ble_eq_true rfl) ?_
  intro p e s m args below meth c ls Q A X hw hA hl hret
  have hl : lv_has ls 2 [(0, .ref (E.2.1 0))] := hl
  unfold f_X9_takeDraft at hf
  refine lv_aload_n X.1 X.2.1 dX9_takeDraft_0 rfl (lv_at hl 0 rfl) ?_
  obtain ⟨k91, ek91, hf⟩ := si_ob hf
  have hk91 := (si_mk_inv ek91).1
  refine si_gtM (d := 0) X hw si_cl9 9 (by decide) gf_RX9_71 rfl rfl rfl ek91 dX9_takeDraft_1 ?_
  refine lv_astore_n (lv' := [(1, .ref (E.2.1 k91)), (0, .ref (E.2.1 0))]) X.1 X.2.1 dX9_takeDraft_4 rfl hl (by decide) rfl (fun ls hl => ?_)
  refine lv_aload_n X.1 X.2.1 dX9_takeDraft_5 rfl (lv_at hl 1 rfl) ?_
  refine lv_aload_n X.1 X.2.1 dX9_takeDraft_6 rfl (lv_at hl 1 rfl) ?_
  obtain ⟨k92, ek92, hf⟩ := si_ob hf
  have hk92 := (si_mk_inv ek92).1
  refine si_gtM (d := 1) X hw si_cl9 10 (by decide) gf_RX9_75 rfl rfl rfl ek92 dX9_takeDraft_7 ?_
  obtain ⟨S3, eS3, hf⟩ := si_ob hf
  refine si_ptM (d := 0) X hw si_cl9 9 (by decide) gf_RX9_71 rfl rfl rfl si_hu9 rfl eS3 dX9_takeDraft_10 (fun H locs hw => ?_)
  refine lv_aload_n X.1 X.2.1 dX9_takeDraft_13 rfl (lv_at hl 1 rfl) ?_
  refine lv_aload_n X.1 X.2.1 dX9_takeDraft_14 rfl (lv_at hl 0 rfl) ?_
  obtain ⟨S4, eS4, hf⟩ := si_ob hf
  refine si_ptM (d := 1) X hw si_cl9 10 (by decide) gf_RX9_75 rfl rfl rfl si_hu10 rfl eS4 dX9_takeDraft_15 (fun H locs hw => ?_)
  refine lv_aload_n X.1 X.2.1 dX9_takeDraft_18 rfl (lv_at hl 1 rfl) ?_
  refine si_getR (k' := 3) (d := 3) X hw si_cl9 1 (by decide) gf_RX9_19 rfl rfl rfl (by decide) rfl dX9_takeDraft_19 ?_
  refine lv_aload_n X.1 X.2.1 dX9_takeDraft_22 rfl (lv_at hl 1 rfl) ?_
  obtain ⟨k95, ek95, hf⟩ := si_ob hf
  have hk95 := (si_mk_inv ek95).1
  refine si_gtM (d := 0) X hw si_cl9 9 (by decide) gf_RX9_71 rfl rfl rfl ek95 dX9_takeDraft_23 ?_
  obtain ⟨S6, eS6, hf⟩ := si_ob hf
  refine si_cVv [.ref (E.2.1 k95)] cal_X1_learn gm_RX9_93 X hw hA hl.1 (c_X1_learn l E F k95 hk95 S4 S6 eS6) si_cl1 rfl ⟨⟨rfl, rfl⟩, Nat.le_of_ble_eq_true rfl, Nat.le_of_ble_eq_true rfl⟩ rfl rfl (Nat.le_of_ble_eq_true rfl) ⟨Nat.zero_le _, Nat.zero_le _⟩ dX9_takeDraft_26 (fun H locs hw => ?_)
  refine lv_aload_n X.1 X.2.1 dX9_takeDraft_29 rfl (lv_at hl 1 rfl) ?_
  refine si_getR (k' := 7) (d := 7) X hw si_cl9 2 (by decide) gf_RX9_26 rfl rfl rfl (by decide) rfl dX9_takeDraft_30 ?_
  refine lv_iconst (v := 0) X.1 X.2.1 dX9_takeDraft_33 (by decide) ?_
  obtain ⟨S7, eS7, hf⟩ := si_ob hf
  refine si_ptI X hw si_cl7 0 (by decide) gf_RX9_97 rfl rfl rfl rfl rfl eS7 dX9_takeDraft_34 (fun H locs hw => ?_)
  refine lv_aload_n X.1 X.2.1 dX9_takeDraft_37 rfl (lv_at hl 1 rfl) ?_
  refine si_getR (k' := 16) (d := 16) X hw si_cl9 3 (by decide) gf_RX9_33 rfl rfl rfl (by decide) rfl dX9_takeDraft_38 ?_
  refine lv_aload_n X.1 X.2.1 dX9_takeDraft_41 rfl (lv_at hl 1 rfl) ?_
  obtain ⟨k98, ek98, hf⟩ := si_ob hf
  have hk98 := (si_mk_inv ek98).1
  refine si_gtM (d := 0) X hw si_cl9 9 (by decide) gf_RX9_71 rfl rfl rfl ek98 dX9_takeDraft_42 ?_
  obtain ⟨S9, eS9, hf⟩ := si_ob hf
  refine si_cVv [.ref (E.2.1 k98)] cal_X8_reset gm_RX9_100 X hw hA hl.1 (c_X8_reset l E F k98 hk98 S7 S9 eS9) si_cl8 rfl ⟨⟨rfl, rfl⟩, Nat.le_of_ble_eq_true rfl, Nat.le_of_ble_eq_true rfl⟩ rfl rfl (Nat.le_of_ble_eq_true rfl) ⟨Nat.zero_le _, Nat.zero_le _⟩ dX9_takeDraft_45 (fun H locs hw => ?_)
  refine lv_aload_n X.1 X.2.1 dX9_takeDraft_48 rfl (lv_at hl 1 rfl) ?_
  refine si_getR (k' := 21) (d := 21) X hw si_cl9 4 (by decide) gf_RX9_40 rfl rfl rfl (by decide) rfl dX9_takeDraft_49 ?_
  obtain ⟨S10, eS10, hf⟩ := si_ob hf
  refine si_cVv [] cal_X0_clear gm_RX9_103 X hw hA hl.1 (c_X0_clear l E F S9 S10 eS10) si_cl0 rfl ⟨⟨rfl, rfl⟩, Nat.le_of_ble_eq_true rfl, Nat.le_of_ble_eq_true rfl⟩ rfl rfl (Nat.le_of_ble_eq_true rfl) ⟨Nat.zero_le _, Nat.zero_le _⟩ dX9_takeDraft_52 (fun H locs hw => ?_)
  refine lv_aload_n X.1 X.2.1 dX9_takeDraft_55 rfl (lv_at hl 1 rfl) ?_
  refine si_getR (k' := 27) (d := 27) X hw si_cl9 5 (by decide) gf_RX9_47 rfl rfl rfl (by decide) rfl dX9_takeDraft_56 ?_
  refine lv_iconst (v := 0) X.1 X.2.1 dX9_takeDraft_59 (by decide) ?_
  obtain ⟨S11, eS11, hf⟩ := si_ob hf
  refine si_ptZ X hw si_cl4 2 (by decide) gf_RX9_106 rfl rfl rfl rfl rfl eS11 dX9_takeDraft_60 (fun H locs hw => ?_)
  refine lv_aload_n X.1 X.2.1 dX9_takeDraft_63 rfl (lv_at hl 1 rfl) ?_
  refine si_getR (k' := 42) (d := 42) X hw si_cl9 6 (by decide) gf_RX9_51 rfl rfl rfl (by decide) rfl dX9_takeDraft_64 ?_
  refine lv_iconst (v := 0) X.1 X.2.1 dX9_takeDraft_67 (by decide) ?_
  obtain ⟨S12, eS12, hf⟩ := si_ob hf
  refine si_ptZ X hw si_cl4 2 (by decide) gf_RX9_106 rfl rfl rfl rfl rfl eS12 dX9_takeDraft_68 (fun H locs hw => ?_)
  exact hret _ _ _ _ _ hf hw dX9_takeDraft_71
abbrev rm_X9_parse : Room := { frames := 8, cells := 0, slots := 0, locals := 174 }
set_option maxHeartbeats 4000000 in
set_option maxRecDepth 100000 in
theorem c_X9_parse (l : Launch) (E : si_Ev) (F : Nat) (x1 : Int32) (S : si_St) (o : Int32 × si_St) (hf : f_X9_parse F x1 S = some o) : si_Mi l E yX9_parse cX9_parse 3 (some .int) rm_X9_parse [.ref (E.2.1 0), .int x1] S o := by
  refine si_ofWi (plainFor_of_name (by decide +kernel)) (Nat.le_of_ble_eq_true rfl) ?_
  intro p e s m args below meth c ls Q A X hw hA hl hret
  have hl : lv_has ls 3 [(0, .ref (E.2.1 0)), (1, .int x1)] := hl
  have B15 : ∀ (S : si_St) (H : Heap) (locs : List Loc) (ls : Array Slot) , f_X9_parse_h15 F S = some o → si_Ws E A s.heap S H locs → lv_has ls 3 [] → W p l e rm_X9_parse s m args below meth c H locs 0 0 Q (F0 m 15 ls []) := by
    intro   S H locs ls  hf hw hl
    unfold f_X9_parse_h15 at hf
    refine lv_iconst (v := (-1)) X.1 X.2.1 dX9_parse_15 (by decide) ?_
    exact hret _ _ _ _ _ _ hf hw dX9_parse_16
  have B46 : ∀ (x2 : Int32) (S : si_St) (H : Heap) (locs : List Loc) (ls : Array Slot) , f_X9_parse_h46 F x2 S = some o → si_Ws E A s.heap S H locs → lv_has ls 3 [(2, .int x2)] → W p l e rm_X9_parse s m args below meth c H locs 0 0 Q (F0 m 46 ls []) := by
    intro x2  S H locs ls  hf hw hl
    unfold f_X9_parse_h46 at hf
    refine lv_iload_n X.1 X.2.1 dX9_parse_46 rfl (lv_at hl 0 rfl) ?_
    exact hret _ _ _ _ _ _ hf hw dX9_parse_47
  unfold f_X9_parse at hf
  refine lv_iload_n X.1 X.2.1 dX9_parse_0 rfl (lv_at hl 1 rfl) ?_
  refine lv_if_lt (tgt := 15) X.1 X.2.1 dX9_parse_1 (by decide) (fun c1 => ?_) (fun c1 => ?_)
  · have hf := si_ip c1 hf
    exact B15 _ _ _ _ hf hw (lv_sub hl [] rfl)
  · have hf := si_in c1 hf
    refine lv_iload_n X.1 X.2.1 dX9_parse_4 rfl (lv_at hl 1 rfl) ?_
    refine lv_aload_n X.1 X.2.1 dX9_parse_5 rfl (lv_at hl 0 rfl) ?_
    refine si_getR (k' := 1) (d := 1) X hw si_cl9 0 (by decide) gf_RX9_10 rfl rfl rfl (by decide) rfl dX9_parse_6 ?_
    refine si_getI X hw si_cl3 1 (by decide) gf_RX9_78 rfl rfl rfl dX9_parse_9 ?_
    refine lv_icmp_le (tgt := 17) X.1 X.2.1 dX9_parse_12 (by decide) (fun c12 => ?_) (fun c12 => ?_)
    · have hf := si_ip c12 hf
      refine lv_aload_n X.1 X.2.1 dX9_parse_17 rfl (lv_at hl 0 rfl) ?_
      refine si_getR (k' := 1) (d := 1) X hw si_cl9 0 (by decide) gf_RX9_10 rfl rfl rfl (by decide) rfl dX9_parse_18 ?_
      refine lv_iload_n X.1 X.2.1 dX9_parse_21 rfl (lv_at hl 1 rfl) ?_
      refine lv_aload_n X.1 X.2.1 dX9_parse_22 rfl (lv_at hl 0 rfl) ?_
      obtain ⟨k91, ek91, hf⟩ := si_ob hf
      have hk91 := (si_mk_inv ek91).1
      refine si_gtM (d := 1) X hw si_cl9 10 (by decide) gf_RX9_75 rfl rfl rfl ek91 dX9_parse_23 ?_
      obtain ⟨q2, eq2, hf⟩ := si_ob hf
      refine si_cVi [.int x1, .ref (E.2.1 k91)] cal_X3_readMarket gm_RX9_86 X hw hA hl.1 (c_X3_readMarket l E F k91 hk91 x1 S q2 eq2) si_cl3 rfl ⟨⟨rfl, rfl⟩, Nat.le_of_ble_eq_true rfl, Nat.le_of_ble_eq_true rfl⟩ rfl rfl (Nat.le_of_ble_eq_true rfl) ⟨Nat.zero_le _, Nat.zero_le _⟩ dX9_parse_26 (fun H locs hw => ?_)
      refine lv_istore_n (lv' := [(2, .int q2.1), (0, .ref (E.2.1 0)), (1, .int x1)]) X.1 X.2.1 dX9_parse_29 rfl hl (by decide) rfl (fun ls hl => ?_)
      refine lv_aload_n X.1 X.2.1 dX9_parse_30 rfl (lv_at hl 1 rfl) ?_
      refine si_getR (k' := 1) (d := 1) X hw si_cl9 0 (by decide) gf_RX9_10 rfl rfl rfl (by decide) rfl dX9_parse_31 ?_
      refine lv_iconst (v := 0) X.1 X.2.1 dX9_parse_34 (by decide) ?_
      obtain ⟨S3, eS3, hf⟩ := si_ob hf
      refine si_ptI X hw si_cl3 1 (by decide) gf_RX9_78 rfl rfl rfl rfl rfl eS3 dX9_parse_35 (fun H locs hw => ?_)
      refine lv_iload_n X.1 X.2.1 dX9_parse_38 rfl (lv_at hl 0 rfl) ?_
      refine lv_if_ne (tgt := 46) X.1 X.2.1 dX9_parse_39 (by decide) (fun c39 => ?_) (fun c39 => ?_)
      · have hf := si_in c39 hf
        exact B46 _ _ _ _ _ hf hw (lv_sub hl [0] rfl)
      · have hf := si_ip c39 hf
        refine lv_aload_n X.1 X.2.1 dX9_parse_42 rfl (lv_at hl 1 rfl) ?_
        obtain ⟨S4, eS4, hf⟩ := si_ob hf
        refine si_cVv [] cal_X9_takeDraft gm_RX9_90 X hw hA hl.1 (c_X9_takeDraft l E F S3 S4 eS4) si_cl9 rfl ⟨⟨rfl, rfl⟩, Nat.le_of_ble_eq_true rfl, Nat.le_of_ble_eq_true rfl⟩ rfl rfl (Nat.le_of_ble_eq_true rfl) ⟨Nat.zero_le _, Nat.zero_le _⟩ dX9_parse_43 (fun H locs hw => ?_)
        exact B46 _ _ _ _ _ hf hw (lv_sub hl [0] rfl)
    · have hf := si_in c12 hf
      exact B15 _ _ _ _ hf hw (lv_sub hl [] rfl)
abbrev rm_X9_errorPosition : Room := { frames := 0, cells := 0, slots := 0, locals := 0 }
set_option maxHeartbeats 4000000 in
set_option maxRecDepth 100000 in
theorem c_X9_errorPosition (l : Launch) (E : si_Ev) (F : Nat) (S : si_St) (o : Int32 × si_St) (hf : f_X9_errorPosition F S = some o) : si_Mi l E yX9_errorPosition cX9_errorPosition 1 (some .int) rm_X9_errorPosition [.ref (E.2.1 0)] S o := by
  refine si_ofWi (plainFor_of_name (by decide +kernel)) (Nat.le_of_ble_eq_true rfl) ?_
  intro p e s m args below meth c ls Q A X hw hA hl hret
  have hl : lv_has ls 1 [(0, .ref (E.2.1 0))] := hl
  unfold f_X9_errorPosition at hf
  refine lv_aload_n X.1 X.2.1 dX9_errorPosition_0 rfl (lv_at hl 0 rfl) ?_
  refine si_getR (k' := 1) (d := 1) X hw si_cl9 0 (by decide) gf_RX9_10 rfl rfl rfl (by decide) rfl dX9_errorPosition_1 ?_
  refine si_getI X hw si_cl3 2 (by decide) gf_RX9_110 rfl rfl rfl dX9_errorPosition_4 ?_
  exact hret _ _ _ _ _ _ hf hw dX9_errorPosition_7
abbrev rm_X9_traderCount : Room := { frames := 0, cells := 0, slots := 0, locals := 0 }
set_option maxHeartbeats 4000000 in
set_option maxRecDepth 100000 in
theorem c_X9_traderCount (l : Launch) (E : si_Ev) (F : Nat) (S : si_St) (o : Int32 × si_St) (hf : f_X9_traderCount F S = some o) : si_Mi l E yX9_traderCount cX9_traderCount 1 (some .int) rm_X9_traderCount [.ref (E.2.1 0)] S o := by
  refine si_ofWi (plainFor_of_name (by decide +kernel)) (Nat.le_of_ble_eq_true rfl) ?_
  intro p e s m args below meth c ls Q A X hw hA hl hret
  have hl : lv_has ls 1 [(0, .ref (E.2.1 0))] := hl
  unfold f_X9_traderCount at hf
  refine lv_aload_n X.1 X.2.1 dX9_traderCount_0 rfl (lv_at hl 0 rfl) ?_
  obtain ⟨k91, ek91, hf⟩ := si_ob hf
  have hk91 := (si_mk_inv ek91).1
  refine si_gtM (d := 0) X hw si_cl9 9 (by decide) gf_RX9_71 rfl rfl rfl ek91 dX9_traderCount_1 ?_
  refine si_getI X hw si_cl2 0 (by decide) gf_RX9_113 rfl hk91 rfl dX9_traderCount_4 ?_
  exact hret _ _ _ _ _ _ hf hw dX9_traderCount_7
abbrev rm_X9_scaleCount : Room := { frames := 0, cells := 0, slots := 0, locals := 0 }
set_option maxHeartbeats 4000000 in
set_option maxRecDepth 100000 in
theorem c_X9_scaleCount (l : Launch) (E : si_Ev) (F : Nat) (S : si_St) (o : Int32 × si_St) (hf : f_X9_scaleCount F S = some o) : si_Mi l E yX9_scaleCount cX9_scaleCount 1 (some .int) rm_X9_scaleCount [.ref (E.2.1 0)] S o := by
  refine si_ofWi (plainFor_of_name (by decide +kernel)) (Nat.le_of_ble_eq_true rfl) ?_
  intro p e s m args below meth c ls Q A X hw hA hl hret
  have hl : lv_has ls 1 [(0, .ref (E.2.1 0))] := hl
  unfold f_X9_scaleCount at hf
  refine lv_aload_n X.1 X.2.1 dX9_scaleCount_0 rfl (lv_at hl 0 rfl) ?_
  obtain ⟨k91, ek91, hf⟩ := si_ob hf
  have hk91 := (si_mk_inv ek91).1
  refine si_gtM (d := 0) X hw si_cl9 9 (by decide) gf_RX9_71 rfl rfl rfl ek91 dX9_scaleCount_1 ?_
  refine si_getI X hw si_cl2 1 (by decide) gf_RX9_116 rfl hk91 rfl dX9_scaleCount_4 ?_
  exact hret _ _ _ _ _ _ hf hw dX9_scaleCount_7
abbrev rm_X9_massCount : Room := { frames := 0, cells := 0, slots := 0, locals := 0 }
set_option maxHeartbeats 4000000 in
set_option maxRecDepth 100000 in
theorem c_X9_massCount (l : Launch) (E : si_Ev) (F : Nat) (S : si_St) (o : Int32 × si_St) (hf : f_X9_massCount F S = some o) : si_Mi l E yX9_massCount cX9_massCount 1 (some .int) rm_X9_massCount [.ref (E.2.1 0)] S o := by
  refine si_ofWi (plainFor_of_name (by decide +kernel)) (Nat.le_of_ble_eq_true rfl) ?_
  intro p e s m args below meth c ls Q A X hw hA hl hret
  have hl : lv_has ls 1 [(0, .ref (E.2.1 0))] := hl
  unfold f_X9_massCount at hf
  refine lv_aload_n X.1 X.2.1 dX9_massCount_0 rfl (lv_at hl 0 rfl) ?_
  obtain ⟨k91, ek91, hf⟩ := si_ob hf
  have hk91 := (si_mk_inv ek91).1
  refine si_gtM (d := 0) X hw si_cl9 9 (by decide) gf_RX9_71 rfl rfl rfl ek91 dX9_massCount_1 ?_
  refine si_getI X hw si_cl2 2 (by decide) gf_RX9_119 rfl hk91 rfl dX9_massCount_4 ?_
  exact hret _ _ _ _ _ _ hf hw dX9_massCount_7
abbrev rm_X9_setCount : Room := { frames := 0, cells := 0, slots := 0, locals := 0 }
set_option maxHeartbeats 4000000 in
set_option maxRecDepth 100000 in
theorem c_X9_setCount (l : Launch) (E : si_Ev) (F : Nat) (S : si_St) (o : Int32 × si_St) (hf : f_X9_setCount F S = some o) : si_Mi l E yX9_setCount cX9_setCount 1 (some .int) rm_X9_setCount [.ref (E.2.1 0)] S o := by
  refine si_ofWi (plainFor_of_name (by decide +kernel)) (Nat.le_of_ble_eq_true rfl) ?_
  intro p e s m args below meth c ls Q A X hw hA hl hret
  have hl : lv_has ls 1 [(0, .ref (E.2.1 0))] := hl
  unfold f_X9_setCount at hf
  refine lv_aload_n X.1 X.2.1 dX9_setCount_0 rfl (lv_at hl 0 rfl) ?_
  obtain ⟨k91, ek91, hf⟩ := si_ob hf
  have hk91 := (si_mk_inv ek91).1
  refine si_gtM (d := 0) X hw si_cl9 9 (by decide) gf_RX9_71 rfl rfl rfl ek91 dX9_setCount_1 ?_
  refine si_getI X hw si_cl2 3 (by decide) gf_RX9_122 rfl hk91 rfl dX9_setCount_4 ?_
  exact hret _ _ _ _ _ _ hf hw dX9_setCount_7
abbrev rm_X9_trader : Room := { frames := 1, cells := 0, slots := 0, locals := 21 }
set_option maxHeartbeats 4000000 in
set_option maxRecDepth 100000 in
theorem c_X9_trader (l : Launch) (E : si_Ev) (F : Nat) (x1 : Int32) (S : si_St) (o : Int32 × si_St) (hf : f_X9_trader F x1 S = some o) : si_Mi l E yX9_trader cX9_trader 2 (some .int) rm_X9_trader [.ref (E.2.1 0), .int x1] S o := by
  refine si_ofWi (plainFor_of_name (by decide +kernel)) (Nat.le_of_ble_eq_true rfl) ?_
  intro p e s m args below meth c ls Q A X hw hA hl hret
  have hl : lv_has ls 2 [(0, .ref (E.2.1 0)), (1, .int x1)] := hl
  have B21 : ∀ (t0 : Int32) (S : si_St) (H : Heap) (locs : List Loc) (ls : Array Slot) , f_X9_trader_h21 F t0 S = some o → si_Ws E A s.heap S H locs → lv_has ls 2 [] → W p l e rm_X9_trader s m args below meth c H locs 0 0 Q (F0 m 21 ls [.int t0]) := by
    intro t0  S H locs ls  hf hw hl
    unfold f_X9_trader_h21 at hf
    exact hret _ _ _ _ _ _ hf hw dX9_trader_21
  unfold f_X9_trader at hf
  refine lv_aload_n X.1 X.2.1 dX9_trader_0 rfl (lv_at hl 0 rfl) ?_
  refine lv_iload_n X.1 X.2.1 dX9_trader_1 rfl (lv_at hl 1 rfl) ?_
  obtain ⟨q1, eq1, hf⟩ := si_ob hf
  refine si_cVi [.int x1] cal_X9_hasScale gm_RX9_125 X hw hA hl.1 (c_X9_hasScale l E F x1 S q1 eq1) si_cl9 rfl ⟨⟨rfl, rfl⟩, Nat.le_of_ble_eq_true rfl, Nat.le_of_ble_eq_true rfl⟩ rfl rfl (Nat.le_of_ble_eq_true rfl) ⟨Nat.zero_le _, Nat.zero_le _⟩ dX9_trader_2 (fun H locs hw => ?_)
  refine lv_if_eq (tgt := 20) X.1 X.2.1 dX9_trader_5 (by decide) (fun c5 => ?_) (fun c5 => ?_)
  · have hf := si_ip c5 hf
    refine lv_iconst (v := (-1)) X.1 X.2.1 dX9_trader_20 (by decide) ?_
    exact B21 _ _ _ _ _ hf hw (lv_sub hl [] rfl)
  · have hf := si_in c5 hf
    refine lv_aload_n X.1 X.2.1 dX9_trader_8 rfl (lv_at hl 0 rfl) ?_
    obtain ⟨k92, ek92, hf⟩ := si_ob hf
    have hk92 := (si_mk_inv ek92).1
    refine si_gtM (d := 0) X hw si_cl9 9 (by decide) gf_RX9_71 rfl rfl rfl ek92 dX9_trader_9 ?_
    refine si_getR (k' := (k92 + 1)) (d := 1) X hw si_cl2 4 (by decide) gf_RX9_129 rfl hk92 rfl (by decide) rfl dX9_trader_12 ?_
    refine lv_iload_n X.1 X.2.1 dX9_trader_15 rfl (lv_at hl 1 rfl) ?_
    obtain ⟨v3, ev3, hf⟩ := si_ob hf
    refine si_iald X hw (sk_2_1 hk92) ev3 dX9_trader_16 ?_
    refine lv_goto (tgt := 21) X.1 X.2.1 dX9_trader_17 (by decide) ?_
    exact B21 _ _ _ _ _ hf hw (lv_sub hl [] rfl)
abbrev rm_X9_capacity : Room := { frames := 1, cells := 0, slots := 0, locals := 21 }
set_option maxHeartbeats 4000000 in
set_option maxRecDepth 100000 in
theorem c_X9_capacity (l : Launch) (E : si_Ev) (F : Nat) (x1 : Int32) (S : si_St) (o : Int32 × si_St) (hf : f_X9_capacity F x1 S = some o) : si_Mi l E yX9_capacity cX9_capacity 2 (some .int) rm_X9_capacity [.ref (E.2.1 0), .int x1] S o := by
  refine si_ofWi (plainFor_of_name (by decide +kernel)) (Nat.le_of_ble_eq_true rfl) ?_
  intro p e s m args below meth c ls Q A X hw hA hl hret
  have hl : lv_has ls 2 [(0, .ref (E.2.1 0)), (1, .int x1)] := hl
  have B21 : ∀ (t0 : Int32) (S : si_St) (H : Heap) (locs : List Loc) (ls : Array Slot) , f_X9_capacity_h21 F t0 S = some o → si_Ws E A s.heap S H locs → lv_has ls 2 [] → W p l e rm_X9_capacity s m args below meth c H locs 0 0 Q (F0 m 21 ls [.int t0]) := by
    intro t0  S H locs ls  hf hw hl
    unfold f_X9_capacity_h21 at hf
    exact hret _ _ _ _ _ _ hf hw dX9_capacity_21
  unfold f_X9_capacity at hf
  refine lv_aload_n X.1 X.2.1 dX9_capacity_0 rfl (lv_at hl 0 rfl) ?_
  refine lv_iload_n X.1 X.2.1 dX9_capacity_1 rfl (lv_at hl 1 rfl) ?_
  obtain ⟨q1, eq1, hf⟩ := si_ob hf
  refine si_cVi [.int x1] cal_X9_hasScale gm_RX9_125 X hw hA hl.1 (c_X9_hasScale l E F x1 S q1 eq1) si_cl9 rfl ⟨⟨rfl, rfl⟩, Nat.le_of_ble_eq_true rfl, Nat.le_of_ble_eq_true rfl⟩ rfl rfl (Nat.le_of_ble_eq_true rfl) ⟨Nat.zero_le _, Nat.zero_le _⟩ dX9_capacity_2 (fun H locs hw => ?_)
  refine lv_if_eq (tgt := 20) X.1 X.2.1 dX9_capacity_5 (by decide) (fun c5 => ?_) (fun c5 => ?_)
  · have hf := si_ip c5 hf
    refine lv_iconst (v := (-1)) X.1 X.2.1 dX9_capacity_20 (by decide) ?_
    exact B21 _ _ _ _ _ hf hw (lv_sub hl [] rfl)
  · have hf := si_in c5 hf
    refine lv_aload_n X.1 X.2.1 dX9_capacity_8 rfl (lv_at hl 0 rfl) ?_
    obtain ⟨k92, ek92, hf⟩ := si_ob hf
    have hk92 := (si_mk_inv ek92).1
    refine si_gtM (d := 0) X hw si_cl9 9 (by decide) gf_RX9_71 rfl rfl rfl ek92 dX9_capacity_9 ?_
    refine si_getR (k' := (k92 + 4)) (d := 4) X hw si_cl2 7 (by decide) gf_RX9_133 rfl hk92 rfl (by decide) rfl dX9_capacity_12 ?_
    refine lv_iload_n X.1 X.2.1 dX9_capacity_15 rfl (lv_at hl 1 rfl) ?_
    obtain ⟨v3, ev3, hf⟩ := si_ob hf
    refine si_iald X hw (sk_2_4 hk92) ev3 dX9_capacity_16 ?_
    refine lv_goto (tgt := 21) X.1 X.2.1 dX9_capacity_17 (by decide) ?_
    exact B21 _ _ _ _ _ hf hw (lv_sub hl [] rfl)
abbrev rm_X9_massValue : Room := { frames := 0, cells := 0, slots := 0, locals := 0 }
set_option maxHeartbeats 4000000 in
set_option maxRecDepth 100000 in
theorem c_X9_massValue (l : Launch) (E : si_Ev) (F : Nat) (x1 : Int32) (S : si_St) (o : Int32 × si_St) (hf : f_X9_massValue F x1 S = some o) : si_Mi l E yX9_massValue cX9_massValue 2 (some .int) rm_X9_massValue [.ref (E.2.1 0), .int x1] S o := by
  refine si_ofWi (plainFor_of_name (by decide +kernel)) (Nat.le_of_ble_eq_true rfl) ?_
  intro p e s m args below meth c ls Q A X hw hA hl hret
  have hl : lv_has ls 2 [(0, .ref (E.2.1 0)), (1, .int x1)] := hl
  have B28 : ∀ (t0 : Int32) (S : si_St) (H : Heap) (locs : List Loc) (ls : Array Slot) , f_X9_massValue_h28 F t0 S = some o → si_Ws E A s.heap S H locs → lv_has ls 2 [] → W p l e rm_X9_massValue s m args below meth c H locs 0 0 Q (F0 m 28 ls [.int t0]) := by
    intro t0  S H locs ls  hf hw hl
    unfold f_X9_massValue_h28 at hf
    exact hret _ _ _ _ _ _ hf hw dX9_massValue_28
  have B27 : ∀ (S : si_St) (H : Heap) (locs : List Loc) (ls : Array Slot) , f_X9_massValue_h27 F S = some o → si_Ws E A s.heap S H locs → lv_has ls 2 [] → W p l e rm_X9_massValue s m args below meth c H locs 0 0 Q (F0 m 27 ls []) := by
    intro   S H locs ls  hf hw hl
    unfold f_X9_massValue_h27 at hf
    refine lv_iconst (v := (-1)) X.1 X.2.1 dX9_massValue_27 (by decide) ?_
    exact B28 _ _ _ _ _ hf hw (lv_sub hl [] rfl)
  unfold f_X9_massValue at hf
  refine lv_iload_n X.1 X.2.1 dX9_massValue_0 rfl (lv_at hl 1 rfl) ?_
  refine lv_if_lt (tgt := 27) X.1 X.2.1 dX9_massValue_1 (by decide) (fun c1 => ?_) (fun c1 => ?_)
  · have hf := si_ip c1 hf
    exact B27 _ _ _ _ hf hw (lv_sub hl [] rfl)
  · have hf := si_in c1 hf
    refine lv_iload_n X.1 X.2.1 dX9_massValue_4 rfl (lv_at hl 1 rfl) ?_
    refine lv_aload_n X.1 X.2.1 dX9_massValue_5 rfl (lv_at hl 0 rfl) ?_
    obtain ⟨k91, ek91, hf⟩ := si_ob hf
    have hk91 := (si_mk_inv ek91).1
    refine si_gtM (d := 0) X hw si_cl9 9 (by decide) gf_RX9_71 rfl rfl rfl ek91 dX9_massValue_6 ?_
    refine si_getI X hw si_cl2 2 (by decide) gf_RX9_119 rfl hk91 rfl dX9_massValue_9 ?_
    refine lv_icmp_ge (tgt := 27) X.1 X.2.1 dX9_massValue_12 (by decide) (fun c12 => ?_) (fun c12 => ?_)
    · have hf := si_ip c12 hf
      exact B27 _ _ _ _ hf hw (lv_sub hl [] rfl)
    · have hf := si_in c12 hf
      refine lv_aload_n X.1 X.2.1 dX9_massValue_15 rfl (lv_at hl 0 rfl) ?_
      obtain ⟨k92, ek92, hf⟩ := si_ob hf
      have hk92 := (si_mk_inv ek92).1
      refine si_gtM (d := 0) X hw si_cl9 9 (by decide) gf_RX9_71 rfl rfl rfl ek92 dX9_massValue_16 ?_
      refine si_getR (k' := (k92 + 5)) (d := 5) X hw si_cl2 8 (by decide) gf_RX9_152 rfl hk92 rfl (by decide) rfl dX9_massValue_19 ?_
      refine lv_iload_n X.1 X.2.1 dX9_massValue_22 rfl (lv_at hl 1 rfl) ?_
      obtain ⟨v3, ev3, hf⟩ := si_ob hf
      refine si_iald X hw (sk_2_5 hk92) ev3 dX9_massValue_23 ?_
      refine lv_goto (tgt := 28) X.1 X.2.1 dX9_massValue_24 (by decide) ?_
      exact B28 _ _ _ _ _ hf hw (lv_sub hl [] rfl)
abbrev rm_X9_fewestMasses : Room := { frames := 2, cells := 0, slots := 0, locals := 44 }
set_option maxHeartbeats 4000000 in
set_option maxRecDepth 100000 in
theorem c_X9_fewestMasses (l : Launch) (E : si_Ev) (F : Nat) (x1 : Int32) (S : si_St) (o : Int32 × si_St) (hf : f_X9_fewestMasses F x1 S = some o) : si_Mi l E yX9_fewestMasses cX9_fewestMasses 2 (some .int) rm_X9_fewestMasses [.ref (E.2.1 0), .int x1] S o := by
  refine si_ofWi (plainFor_of_name (by decide +kernel)) (Nat.le_of_ble_eq_true rfl) ?_
  intro p e s m args below meth c ls Q A X hw hA hl hret
  have hl : lv_has ls 2 [(0, .ref (E.2.1 0)), (1, .int x1)] := hl
  have B16 : ∀ (t0 : Int32) (S : si_St) (H : Heap) (locs : List Loc) (ls : Array Slot) , f_X9_fewestMasses_h16 F t0 S = some o → si_Ws E A s.heap S H locs → lv_has ls 2 [] → W p l e rm_X9_fewestMasses s m args below meth c H locs 0 0 Q (F0 m 16 ls [.int t0]) := by
    intro t0  S H locs ls  hf hw hl
    unfold f_X9_fewestMasses_h16 at hf
    exact hret _ _ _ _ _ _ hf hw dX9_fewestMasses_16
  unfold f_X9_fewestMasses at hf
  refine lv_iload_n X.1 X.2.1 dX9_fewestMasses_0 rfl (lv_at hl 1 rfl) ?_
  refine lv_if_ge (tgt := 8) X.1 X.2.1 dX9_fewestMasses_1 (by decide) (fun c1 => ?_) (fun c1 => ?_)
  · have hf := si_ip c1 hf
    refine lv_aload_n X.1 X.2.1 dX9_fewestMasses_8 rfl (lv_at hl 0 rfl) ?_
    refine si_getR (k' := 3) (d := 3) X hw si_cl9 1 (by decide) gf_RX9_19 rfl rfl rfl (by decide) rfl dX9_fewestMasses_9 ?_
    refine lv_iload_n X.1 X.2.1 dX9_fewestMasses_12 rfl (lv_at hl 1 rfl) ?_
    obtain ⟨q1, eq1, hf⟩ := si_ob hf
    refine si_cVi [.int x1] cal_X1_smallestSet gm_RX9_155 X hw hA hl.1 (c_X1_smallestSet l E F x1 S q1 eq1) si_cl1 rfl ⟨⟨rfl, rfl⟩, Nat.le_of_ble_eq_true rfl, Nat.le_of_ble_eq_true rfl⟩ rfl rfl (Nat.le_of_ble_eq_true rfl) ⟨Nat.zero_le _, Nat.zero_le _⟩ dX9_fewestMasses_13 (fun H locs hw => ?_)
    exact B16 _ _ _ _ _ hf hw (lv_sub hl [] rfl)
  · have hf := si_in c1 hf
    refine lv_iconst (v := (-1)) X.1 X.2.1 dX9_fewestMasses_4 (by decide) ?_
    refine lv_goto (tgt := 16) X.1 X.2.1 dX9_fewestMasses_5 (by decide) ?_
    exact B16 _ _ _ _ _ hf hw (lv_sub hl [] rfl)
abbrev rm_X9_closestLoad : Room := { frames := 1, cells := 0, slots := 0, locals := 23 }
set_option maxHeartbeats 4000000 in
set_option maxRecDepth 100000 in
theorem c_X9_closestLoad (l : Launch) (E : si_Ev) (F : Nat) (x1 : Int32) (S : si_St) (o : Int32 × si_St) (hf : f_X9_closestLoad F x1 S = some o) : si_Mi l E yX9_closestLoad cX9_closestLoad 2 (some .int) rm_X9_closestLoad [.ref (E.2.1 0), .int x1] S o := by
  refine si_ofWi (plainFor_of_name (by decide +kernel)) (Nat.le_of_ble_eq_true rfl) ?_
  intro p e s m args below meth c ls Q A X hw hA hl hret
  have hl : lv_has ls 2 [(0, .ref (E.2.1 0)), (1, .int x1)] := hl
  have B16 : ∀ (t0 : Int32) (S : si_St) (H : Heap) (locs : List Loc) (ls : Array Slot) , f_X9_closestLoad_h16 F t0 S = some o → si_Ws E A s.heap S H locs → lv_has ls 2 [] → W p l e rm_X9_closestLoad s m args below meth c H locs 0 0 Q (F0 m 16 ls [.int t0]) := by
    intro t0  S H locs ls  hf hw hl
    unfold f_X9_closestLoad_h16 at hf
    exact hret _ _ _ _ _ _ hf hw dX9_closestLoad_16
  unfold f_X9_closestLoad at hf
  refine lv_iload_n X.1 X.2.1 dX9_closestLoad_0 rfl (lv_at hl 1 rfl) ?_
  refine lv_if_ge (tgt := 8) X.1 X.2.1 dX9_closestLoad_1 (by decide) (fun c1 => ?_) (fun c1 => ?_)
  · have hf := si_ip c1 hf
    refine lv_aload_n X.1 X.2.1 dX9_closestLoad_8 rfl (lv_at hl 0 rfl) ?_
    refine si_getR (k' := 3) (d := 3) X hw si_cl9 1 (by decide) gf_RX9_19 rfl rfl rfl (by decide) rfl dX9_closestLoad_9 ?_
    refine lv_iload_n X.1 X.2.1 dX9_closestLoad_12 rfl (lv_at hl 1 rfl) ?_
    obtain ⟨q1, eq1, hf⟩ := si_ob hf
    refine si_cVi [.int x1] cal_X1_greatestSumUpTo gm_RX9_159 X hw hA hl.1 (c_X1_greatestSumUpTo l E F x1 S q1 eq1) si_cl1 rfl ⟨⟨rfl, rfl⟩, Nat.le_of_ble_eq_true rfl, Nat.le_of_ble_eq_true rfl⟩ rfl rfl (Nat.le_of_ble_eq_true rfl) ⟨Nat.zero_le _, Nat.zero_le _⟩ dX9_closestLoad_13 (fun H locs hw => ?_)
    exact B16 _ _ _ _ _ hf hw (lv_sub hl [] rfl)
  · have hf := si_in c1 hf
    refine lv_iconst (v := (-1)) X.1 X.2.1 dX9_closestLoad_4 (by decide) ?_
    refine lv_goto (tgt := 16) X.1 X.2.1 dX9_closestLoad_5 (by decide) ?_
    exact B16 _ _ _ _ _ hf hw (lv_sub hl [] rfl)
abbrev rm_X9_twoPans : Room := { frames := 2, cells := 0, slots := 0, locals := 51 }
set_option maxHeartbeats 4000000 in
set_option maxRecDepth 100000 in
theorem c_X9_twoPans (l : Launch) (E : si_Ev) (F : Nat) (x1 : Int32) (S : si_St) (o : Int32 × si_St) (hf : f_X9_twoPans F x1 S = some o) : si_Mi l E yX9_twoPans cX9_twoPans 2 (some .int) rm_X9_twoPans [.ref (E.2.1 0), .int x1] S o := by
  refine si_ofWi (plainFor_of_name (by decide +kernel)) (Nat.le_of_ble_eq_true rfl) ?_
  intro p e s m args below meth c ls Q A X hw hA hl hret
  have hl : lv_has ls 2 [(0, .ref (E.2.1 0)), (1, .int x1)] := hl
  have B16 : ∀ (t0 : Int32) (S : si_St) (H : Heap) (locs : List Loc) (ls : Array Slot) , f_X9_twoPans_h16 F t0 S = some o → si_Ws E A s.heap S H locs → lv_has ls 2 [] → W p l e rm_X9_twoPans s m args below meth c H locs 0 0 Q (F0 m 16 ls [.int t0]) := by
    intro t0  S H locs ls  hf hw hl
    unfold f_X9_twoPans_h16 at hf
    exact hret _ _ _ _ _ _ hf hw dX9_twoPans_16
  unfold f_X9_twoPans at hf
  refine lv_iload_n X.1 X.2.1 dX9_twoPans_0 rfl (lv_at hl 1 rfl) ?_
  refine lv_if_ge (tgt := 8) X.1 X.2.1 dX9_twoPans_1 (by decide) (fun c1 => ?_) (fun c1 => ?_)
  · have hf := si_ip c1 hf
    refine lv_aload_n X.1 X.2.1 dX9_twoPans_8 rfl (lv_at hl 0 rfl) ?_
    refine si_getR (k' := 3) (d := 3) X hw si_cl9 1 (by decide) gf_RX9_19 rfl rfl rfl (by decide) rfl dX9_twoPans_9 ?_
    refine lv_iload_n X.1 X.2.1 dX9_twoPans_12 rfl (lv_at hl 1 rfl) ?_
    obtain ⟨q1, eq1, hf⟩ := si_ob hf
    refine si_cVi [.int x1] cal_X1_fewestOnTwoPans gm_RX9_162 X hw hA hl.1 (c_X1_fewestOnTwoPans l E F x1 S q1 eq1) si_cl1 rfl ⟨⟨rfl, rfl⟩, Nat.le_of_ble_eq_true rfl, Nat.le_of_ble_eq_true rfl⟩ rfl rfl (Nat.le_of_ble_eq_true rfl) ⟨Nat.zero_le _, Nat.zero_le _⟩ dX9_twoPans_13 (fun H locs hw => ?_)
    exact B16 _ _ _ _ _ hf hw (lv_sub hl [] rfl)
  · have hf := si_in c1 hf
    refine lv_iconst (v := (-1)) X.1 X.2.1 dX9_twoPans_4 (by decide) ?_
    refine lv_goto (tgt := 16) X.1 X.2.1 dX9_twoPans_5 (by decide) ?_
    exact B16 _ _ _ _ _ hf hw (lv_sub hl [] rfl)
abbrev rm_X9_startVisit : Room := { frames := 2, cells := 0, slots := 0, locals := 46 }
set_option maxHeartbeats 4000000 in
set_option maxRecDepth 100000 in
theorem c_X9_startVisit (l : Launch) (E : si_Ev) (F : Nat) (x1 : Int32) (x2 : Int32) (S : si_St) (o : Int32 × si_St) (hf : f_X9_startVisit F x1 x2 S = some o) : si_Mi l E yX9_startVisit cX9_startVisit 4 (some .int) rm_X9_startVisit [.ref (E.2.1 0), .int x1, .int x2] S o := by
  refine si_ofWi (plainFor_of_name (by decide +kernel)) (Nat.le_of_ble_eq_true rfl) ?_
  intro p e s m args below meth c ls Q A X hw hA hl hret
  have hl : lv_has ls 4 [(0, .ref (E.2.1 0)), (1, .int x1), (2, .int x2)] := hl
  have B27 : ∀ (S : si_St) (H : Heap) (locs : List Loc) (ls : Array Slot) , f_X9_startVisit_h27 F S = some o → si_Ws E A s.heap S H locs → lv_has ls 4 [] → W p l e rm_X9_startVisit s m args below meth c H locs 0 0 Q (F0 m 27 ls []) := by
    intro   S H locs ls  hf hw hl
    unfold f_X9_startVisit_h27 at hf
    refine lv_iconst (v := (-1)) X.1 X.2.1 dX9_startVisit_27 (by decide) ?_
    exact hret _ _ _ _ _ _ hf hw dX9_startVisit_28
  unfold f_X9_startVisit at hf
  refine lv_aload_n X.1 X.2.1 dX9_startVisit_0 rfl (lv_at hl 0 rfl) ?_
  refine lv_iload_n X.1 X.2.1 dX9_startVisit_1 rfl (lv_at hl 1 rfl) ?_
  obtain ⟨q1, eq1, hf⟩ := si_ob hf
  refine si_cVi [.int x1] cal_X9_hasScale gm_RX9_125 X hw hA hl.1 (c_X9_hasScale l E F x1 S q1 eq1) si_cl9 rfl ⟨⟨rfl, rfl⟩, Nat.le_of_ble_eq_true rfl, Nat.le_of_ble_eq_true rfl⟩ rfl rfl (Nat.le_of_ble_eq_true rfl) ⟨Nat.zero_le _, Nat.zero_le _⟩ dX9_startVisit_2 (fun H locs hw => ?_)
  refine lv_if_eq (tgt := 27) X.1 X.2.1 dX9_startVisit_5 (by decide) (fun c5 => ?_) (fun c5 => ?_)
  · have hf := si_ip c5 hf
    exact B27 _ _ _ _ hf hw (lv_sub hl [] rfl)
  · have hf := si_in c5 hf
    refine lv_iload_n X.1 X.2.1 dX9_startVisit_8 rfl (lv_at hl 2 rfl) ?_
    obtain ⟨q2, eq2, hf⟩ := si_ob hf
    refine si_cSi [.int x2] cal_X9_isDay gm_RX9_165 X hw hA hl.1 (c_X9_isDay l E F x2 q1.2 q2 eq2) ⟨⟨rfl, rfl⟩, Nat.le_of_ble_eq_true rfl, Nat.le_of_ble_eq_true rfl⟩ rfl rfl (Nat.le_of_ble_eq_true rfl) ⟨Nat.zero_le _, Nat.zero_le _⟩ dX9_startVisit_9 (fun H locs hw => ?_)
    refine lv_if_eq (tgt := 27) X.1 X.2.1 dX9_startVisit_12 (by decide) (fun c12 => ?_) (fun c12 => ?_)
    · have hf := si_ip c12 hf
      exact B27 _ _ _ _ hf hw (lv_sub hl [] rfl)
    · have hf := si_in c12 hf
      refine lv_iload_n X.1 X.2.1 dX9_startVisit_15 rfl (lv_at hl 2 rfl) ?_
      refine lv_aload_n X.1 X.2.1 dX9_startVisit_16 rfl (lv_at hl 0 rfl) ?_
      refine si_getR (k' := 7) (d := 7) X hw si_cl9 2 (by decide) gf_RX9_26 rfl rfl rfl (by decide) rfl dX9_startVisit_17 ?_
      refine lv_iload_n X.1 X.2.1 dX9_startVisit_20 rfl (lv_at hl 1 rfl) ?_
      obtain ⟨q3, eq3, hf⟩ := si_ob hf
      refine si_cVi [.int x1] cal_X7_lastDayOf gm_RX9_168 X hw hA hl.1 (c_X7_lastDayOf l E F x1 q2.2 q3 eq3) si_cl7 rfl ⟨⟨rfl, rfl⟩, Nat.le_of_ble_eq_true rfl, Nat.le_of_ble_eq_true rfl⟩ rfl rfl (Nat.le_of_ble_eq_true rfl) ⟨Nat.zero_le _, Nat.zero_le _⟩ dX9_startVisit_21 (fun H locs hw => ?_)
      refine lv_icmp_ge (tgt := 29) X.1 X.2.1 dX9_startVisit_24 (by decide) (fun c24 => ?_) (fun c24 => ?_)
      · have hf := si_ip c24 hf
        refine lv_aload_n X.1 X.2.1 dX9_startVisit_29 rfl (lv_at hl 0 rfl) ?_
        refine si_getR (k' := 7) (d := 7) X hw si_cl9 2 (by decide) gf_RX9_26 rfl rfl rfl (by decide) rfl dX9_startVisit_30 ?_
        refine lv_iload_n X.1 X.2.1 dX9_startVisit_33 rfl (lv_at hl 1 rfl) ?_
        obtain ⟨q4, eq4, hf⟩ := si_ob hf
        refine si_cVi [.int x1] cal_X7_hasOpenVisit gm_RX9_171 X hw hA hl.1 (c_X7_hasOpenVisit l E F x1 q3.2 q4 eq4) si_cl7 rfl ⟨⟨rfl, rfl⟩, Nat.le_of_ble_eq_true rfl, Nat.le_of_ble_eq_true rfl⟩ rfl rfl (Nat.le_of_ble_eq_true rfl) ⟨Nat.zero_le _, Nat.zero_le _⟩ dX9_startVisit_34 (fun H locs hw => ?_)
        refine lv_if_eq (tgt := 43) X.1 X.2.1 dX9_startVisit_37 (by decide) (fun c37 => ?_) (fun c37 => ?_)
        · have hf := si_ip c37 hf
          refine lv_aload_n X.1 X.2.1 dX9_startVisit_43 rfl (lv_at hl 0 rfl) ?_
          refine si_getR (k' := 7) (d := 7) X hw si_cl9 2 (by decide) gf_RX9_26 rfl rfl rfl (by decide) rfl dX9_startVisit_44 ?_
          refine si_getI X hw si_cl7 0 (by decide) gf_RX9_97 rfl rfl rfl dX9_startVisit_47 ?_
          refine lv_bipush (v := 30) X.1 X.2.1 dX9_startVisit_50 (by decide) ?_
          refine lv_icmp_lt (tgt := 58) X.1 X.2.1 dX9_startVisit_52 (by decide) (fun c52 => ?_) (fun c52 => ?_)
          · have hf := si_ip c52 hf
            refine lv_aload_n X.1 X.2.1 dX9_startVisit_58 rfl (lv_at hl 0 rfl) ?_
            refine si_getR (k' := 7) (d := 7) X hw si_cl9 2 (by decide) gf_RX9_26 rfl rfl rfl (by decide) rfl dX9_startVisit_59 ?_
            refine lv_iload_n X.1 X.2.1 dX9_startVisit_62 rfl (lv_at hl 1 rfl) ?_
            refine lv_iload_n X.1 X.2.1 dX9_startVisit_63 rfl (lv_at hl 2 rfl) ?_
            obtain ⟨q5, eq5, hf⟩ := si_ob hf
            refine si_cVi [.int x1, .int x2] cal_X7_addVisit gm_RX9_174 X hw hA hl.1 (c_X7_addVisit l E F x1 x2 q4.2 q5 eq5) si_cl7 rfl ⟨⟨rfl, rfl⟩, Nat.le_of_ble_eq_true rfl, Nat.le_of_ble_eq_true rfl⟩ rfl rfl (Nat.le_of_ble_eq_true rfl) ⟨Nat.zero_le _, Nat.zero_le _⟩ dX9_startVisit_64 (fun H locs hw => ?_)
            refine lv_istore_n (lv' := [(3, .int q5.1), (0, .ref (E.2.1 0)), (1, .int x1), (2, .int x2)]) X.1 X.2.1 dX9_startVisit_67 rfl hl (by decide) rfl (fun ls hl => ?_)
            refine lv_aload_n X.1 X.2.1 dX9_startVisit_68 rfl (lv_at hl 1 rfl) ?_
            refine si_getR (k' := 21) (d := 21) X hw si_cl9 4 (by decide) gf_RX9_40 rfl rfl rfl (by decide) rfl dX9_startVisit_69 ?_
            refine lv_iconst (v := 0) X.1 X.2.1 dX9_startVisit_72 (by decide) ?_
            refine lv_iload_n X.1 X.2.1 dX9_startVisit_73 rfl (lv_at hl 0 rfl) ?_
            obtain ⟨S6, eS6, hf⟩ := si_ob hf
            refine si_cVv [.int 0, .int q5.1] cal_X0_add gm_RX9_177 X hw hA hl.1 (c_X0_add l E F 0 q5.1 q5.2 S6 eS6) si_cl0 rfl ⟨⟨rfl, rfl⟩, Nat.le_of_ble_eq_true rfl, Nat.le_of_ble_eq_true rfl⟩ rfl rfl (Nat.le_of_ble_eq_true rfl) ⟨Nat.zero_le _, Nat.zero_le _⟩ dX9_startVisit_74 (fun H locs hw => ?_)
            refine lv_iload_n X.1 X.2.1 dX9_startVisit_77 rfl (lv_at hl 0 rfl) ?_
            exact hret _ _ _ _ _ _ hf hw dX9_startVisit_78
          · have hf := si_in c52 hf
            refine lv_bipush (v := (-3)) X.1 X.2.1 dX9_startVisit_55 (by decide) ?_
            exact hret _ _ _ _ _ _ hf hw dX9_startVisit_57
        · have hf := si_in c37 hf
          refine lv_bipush (v := (-2)) X.1 X.2.1 dX9_startVisit_40 (by decide) ?_
          exact hret _ _ _ _ _ _ hf hw dX9_startVisit_42
      · have hf := si_in c24 hf
        exact B27 _ _ _ _ hf hw (lv_sub hl [] rfl)
abbrev rm_X9_visitCount : Room := { frames := 0, cells := 0, slots := 0, locals := 0 }
set_option maxHeartbeats 4000000 in
set_option maxRecDepth 100000 in
theorem c_X9_visitCount (l : Launch) (E : si_Ev) (F : Nat) (S : si_St) (o : Int32 × si_St) (hf : f_X9_visitCount F S = some o) : si_Mi l E yX9_visitCount cX9_visitCount 1 (some .int) rm_X9_visitCount [.ref (E.2.1 0)] S o := by
  refine si_ofWi (plainFor_of_name (by decide +kernel)) (Nat.le_of_ble_eq_true rfl) ?_
  intro p e s m args below meth c ls Q A X hw hA hl hret
  have hl : lv_has ls 1 [(0, .ref (E.2.1 0))] := hl
  unfold f_X9_visitCount at hf
  refine lv_aload_n X.1 X.2.1 dX9_visitCount_0 rfl (lv_at hl 0 rfl) ?_
  refine si_getR (k' := 7) (d := 7) X hw si_cl9 2 (by decide) gf_RX9_26 rfl rfl rfl (by decide) rfl dX9_visitCount_1 ?_
  refine si_getI X hw si_cl7 0 (by decide) gf_RX9_97 rfl rfl rfl dX9_visitCount_4 ?_
  exact hret _ _ _ _ _ _ hf hw dX9_visitCount_7
abbrev rm_X9_visitScale : Room := { frames := 1, cells := 0, slots := 0, locals := 21 }
set_option maxHeartbeats 4000000 in
set_option maxRecDepth 100000 in
theorem c_X9_visitScale (l : Launch) (E : si_Ev) (F : Nat) (x1 : Int32) (S : si_St) (o : Int32 × si_St) (hf : f_X9_visitScale F x1 S = some o) : si_Mi l E yX9_visitScale cX9_visitScale 2 (some .int) rm_X9_visitScale [.ref (E.2.1 0), .int x1] S o := by
  refine si_ofWi (plainFor_of_name (by decide +kernel)) (Nat.le_of_ble_eq_true rfl) ?_
  intro p e s m args below meth c ls Q A X hw hA hl hret
  have hl : lv_has ls 2 [(0, .ref (E.2.1 0)), (1, .int x1)] := hl
  have B21 : ∀ (t0 : Int32) (S : si_St) (H : Heap) (locs : List Loc) (ls : Array Slot) , f_X9_visitScale_h21 F t0 S = some o → si_Ws E A s.heap S H locs → lv_has ls 2 [] → W p l e rm_X9_visitScale s m args below meth c H locs 0 0 Q (F0 m 21 ls [.int t0]) := by
    intro t0  S H locs ls  hf hw hl
    unfold f_X9_visitScale_h21 at hf
    exact hret _ _ _ _ _ _ hf hw dX9_visitScale_21
  unfold f_X9_visitScale at hf
  refine lv_aload_n X.1 X.2.1 dX9_visitScale_0 rfl (lv_at hl 0 rfl) ?_
  refine lv_iload_n X.1 X.2.1 dX9_visitScale_1 rfl (lv_at hl 1 rfl) ?_
  obtain ⟨q1, eq1, hf⟩ := si_ob hf
  refine si_cVi [.int x1] cal_X9_hasVisit gm_RX9_181 X hw hA hl.1 (c_X9_hasVisit l E F x1 S q1 eq1) si_cl9 rfl ⟨⟨rfl, rfl⟩, Nat.le_of_ble_eq_true rfl, Nat.le_of_ble_eq_true rfl⟩ rfl rfl (Nat.le_of_ble_eq_true rfl) ⟨Nat.zero_le _, Nat.zero_le _⟩ dX9_visitScale_2 (fun H locs hw => ?_)
  refine lv_if_eq (tgt := 20) X.1 X.2.1 dX9_visitScale_5 (by decide) (fun c5 => ?_) (fun c5 => ?_)
  · have hf := si_ip c5 hf
    refine lv_iconst (v := (-1)) X.1 X.2.1 dX9_visitScale_20 (by decide) ?_
    exact B21 _ _ _ _ _ hf hw (lv_sub hl [] rfl)
  · have hf := si_in c5 hf
    refine lv_aload_n X.1 X.2.1 dX9_visitScale_8 rfl (lv_at hl 0 rfl) ?_
    refine si_getR (k' := 7) (d := 7) X hw si_cl9 2 (by decide) gf_RX9_26 rfl rfl rfl (by decide) rfl dX9_visitScale_9 ?_
    refine si_getR (k' := 8) (d := 1) X hw si_cl7 1 (by decide) gf_RX9_184 rfl rfl rfl (by decide) rfl dX9_visitScale_12 ?_
    refine lv_iload_n X.1 X.2.1 dX9_visitScale_15 rfl (lv_at hl 1 rfl) ?_
    obtain ⟨v2, ev2, hf⟩ := si_ob hf
    refine si_iald X hw rfl ev2 dX9_visitScale_16 ?_
    refine lv_goto (tgt := 21) X.1 X.2.1 dX9_visitScale_17 (by decide) ?_
    exact B21 _ _ _ _ _ hf hw (lv_sub hl [] rfl)
abbrev rm_X9_isInService : Room := { frames := 1, cells := 0, slots := 0, locals := 21 }
set_option maxHeartbeats 4000000 in
set_option maxRecDepth 100000 in
theorem c_X9_isInService (l : Launch) (E : si_Ev) (F : Nat) (x1 : Int32) (S : si_St) (o : Int32 × si_St) (hf : f_X9_isInService F x1 S = some o) : si_Mi l E yX9_isInService cX9_isInService 2 (some .int) rm_X9_isInService [.ref (E.2.1 0), .int x1] S o := by
  refine si_ofWi (plainFor_of_name (by decide +kernel)) (Nat.le_of_ble_eq_true rfl) ?_
  intro p e s m args below meth c ls Q A X hw hA hl hret
  have hl : lv_has ls 2 [(0, .ref (E.2.1 0)), (1, .int x1)] := hl
  have B21 : ∀ (t0 : Int32) (S : si_St) (H : Heap) (locs : List Loc) (ls : Array Slot) , f_X9_isInService_h21 F t0 S = some o → si_Ws E A s.heap S H locs → lv_has ls 2 [] → W p l e rm_X9_isInService s m args below meth c H locs 0 0 Q (F0 m 21 ls [.int t0]) := by
    intro t0  S H locs ls  hf hw hl
    unfold f_X9_isInService_h21 at hf
    exact hret _ _ _ _ _ _ hf hw dX9_isInService_21
  unfold f_X9_isInService at hf
  refine lv_aload_n X.1 X.2.1 dX9_isInService_0 rfl (lv_at hl 0 rfl) ?_
  refine lv_iload_n X.1 X.2.1 dX9_isInService_1 rfl (lv_at hl 1 rfl) ?_
  obtain ⟨q1, eq1, hf⟩ := si_ob hf
  refine si_cVi [.int x1] cal_X9_hasVisit gm_RX9_181 X hw hA hl.1 (c_X9_hasVisit l E F x1 S q1 eq1) si_cl9 rfl ⟨⟨rfl, rfl⟩, Nat.le_of_ble_eq_true rfl, Nat.le_of_ble_eq_true rfl⟩ rfl rfl (Nat.le_of_ble_eq_true rfl) ⟨Nat.zero_le _, Nat.zero_le _⟩ dX9_isInService_2 (fun H locs hw => ?_)
  refine lv_if_eq (tgt := 20) X.1 X.2.1 dX9_isInService_5 (by decide) (fun c5 => ?_) (fun c5 => ?_)
  · have hf := si_ip c5 hf
    refine lv_iconst (v := (-1)) X.1 X.2.1 dX9_isInService_20 (by decide) ?_
    exact B21 _ _ _ _ _ hf hw (lv_sub hl [] rfl)
  · have hf := si_in c5 hf
    refine lv_aload_n X.1 X.2.1 dX9_isInService_8 rfl (lv_at hl 0 rfl) ?_
    refine si_getR (k' := 7) (d := 7) X hw si_cl9 2 (by decide) gf_RX9_26 rfl rfl rfl (by decide) rfl dX9_isInService_9 ?_
    refine si_getR (k' := 10) (d := 3) X hw si_cl7 3 (by decide) gf_RX9_187 rfl rfl rfl (by decide) rfl dX9_isInService_12 ?_
    refine lv_iload_n X.1 X.2.1 dX9_isInService_15 rfl (lv_at hl 1 rfl) ?_
    obtain ⟨v2, ev2, hf⟩ := si_ob hf
    refine si_iald X hw rfl ev2 dX9_isInService_16 ?_
    refine lv_goto (tgt := 21) X.1 X.2.1 dX9_isInService_17 (by decide) ?_
    exact B21 _ _ _ _ _ hf hw (lv_sub hl [] rfl)
abbrev rm_X9_record : Room := { frames := 2, cells := 0, slots := 0, locals := 45 }
set_option maxHeartbeats 4000000 in
set_option maxRecDepth 100000 in
theorem c_X9_record (l : Launch) (E : si_Ev) (F : Nat) (x1 : Int32) (x2 : Int32) (x3 : Int32) (S : si_St) (o : Int32 × si_St) (hf : f_X9_record F x1 x2 x3 S = some o) : si_Mi l E yX9_record cX9_record 5 (some .int) rm_X9_record [.ref (E.2.1 0), .int x1, .int x2, .int x3] S o := by
  refine si_ofWi (plainFor_of_name (by decide +kernel)) (Nat.le_of_ble_eq_true rfl) ?_
  intro p e s m args below meth c ls Q A X hw hA hl hret
  have hl : lv_has ls 5 [(0, .ref (E.2.1 0)), (1, .int x1), (2, .int x2), (3, .int x3)] := hl
  have B31 : ∀ (S : si_St) (H : Heap) (locs : List Loc) (ls : Array Slot) , f_X9_record_h31 F S = some o → si_Ws E A s.heap S H locs → lv_has ls 5 [] → W p l e rm_X9_record s m args below meth c H locs 0 0 Q (F0 m 31 ls []) := by
    intro   S H locs ls  hf hw hl
    unfold f_X9_record_h31 at hf
    refine lv_iconst (v := (-1)) X.1 X.2.1 dX9_record_31 (by decide) ?_
    exact hret _ _ _ _ _ _ hf hw dX9_record_32
  unfold f_X9_record at hf
  refine lv_aload_n X.1 X.2.1 dX9_record_0 rfl (lv_at hl 0 rfl) ?_
  refine lv_iload_n X.1 X.2.1 dX9_record_1 rfl (lv_at hl 1 rfl) ?_
  obtain ⟨q1, eq1, hf⟩ := si_ob hf
  refine si_cVi [.int x1] cal_X9_hasVisit gm_RX9_181 X hw hA hl.1 (c_X9_hasVisit l E F x1 S q1 eq1) si_cl9 rfl ⟨⟨rfl, rfl⟩, Nat.le_of_ble_eq_true rfl, Nat.le_of_ble_eq_true rfl⟩ rfl rfl (Nat.le_of_ble_eq_true rfl) ⟨Nat.zero_le _, Nat.zero_le _⟩ dX9_record_2 (fun H locs hw => ?_)
  refine lv_if_eq (tgt := 31) X.1 X.2.1 dX9_record_5 (by decide) (fun c5 => ?_) (fun c5 => ?_)
  · have hf := si_ip c5 hf
    exact B31 _ _ _ _ hf hw (lv_sub hl [] rfl)
  · have hf := si_in c5 hf
    refine lv_aload_n X.1 X.2.1 dX9_record_8 rfl (lv_at hl 0 rfl) ?_
    refine si_getR (k' := 3) (d := 3) X hw si_cl9 1 (by decide) gf_RX9_19 rfl rfl rfl (by decide) rfl dX9_record_9 ?_
    refine lv_iload_n X.1 X.2.1 dX9_record_12 rfl (lv_at hl 2 rfl) ?_
    obtain ⟨q2, eq2, hf⟩ := si_ob hf
    refine si_cVi [.int x2] cal_X1_hasMasses gm_RX9_190 X hw hA hl.1 (c_X1_hasMasses l E F x2 q1.2 q2 eq2) si_cl1 rfl ⟨⟨rfl, rfl⟩, Nat.le_of_ble_eq_true rfl, Nat.le_of_ble_eq_true rfl⟩ rfl rfl (Nat.le_of_ble_eq_true rfl) ⟨Nat.zero_le _, Nat.zero_le _⟩ dX9_record_13 (fun H locs hw => ?_)
    refine lv_if_eq (tgt := 31) X.1 X.2.1 dX9_record_16 (by decide) (fun c16 => ?_) (fun c16 => ?_)
    · have hf := si_ip c16 hf
      exact B31 _ _ _ _ hf hw (lv_sub hl [] rfl)
    · have hf := si_in c16 hf
      refine lv_iload_n X.1 X.2.1 dX9_record_19 rfl (lv_at hl 3 rfl) ?_
      refine lv_ldc (v := (-1999999)) X.1 X.2.1 X.2.2.2.1 (si_wd X gk_RX9_193) dX9_record_20 ?_
      refine lv_icmp_lt (tgt := 31) X.1 X.2.1 dX9_record_22 (by decide) (fun c22 => ?_) (fun c22 => ?_)
      · have hf := si_ip c22 hf
        exact B31 _ _ _ _ hf hw (lv_sub hl [] rfl)
      · have hf := si_in c22 hf
        refine lv_iload_n X.1 X.2.1 dX9_record_25 rfl (lv_at hl 3 rfl) ?_
        refine lv_ldc (v := 1999999) X.1 X.2.1 X.2.2.2.1 (si_wd X gk_RX9_194) dX9_record_26 ?_
        refine lv_icmp_le (tgt := 33) X.1 X.2.1 dX9_record_28 (by decide) (fun c28 => ?_) (fun c28 => ?_)
        · have hf := si_ip c28 hf
          refine lv_aload_n X.1 X.2.1 dX9_record_33 rfl (lv_at hl 0 rfl) ?_
          refine si_getR (k' := 3) (d := 3) X hw si_cl9 1 (by decide) gf_RX9_19 rfl rfl rfl (by decide) rfl dX9_record_34 ?_
          refine si_getR (k' := 4) (d := 1) X hw si_cl1 0 (by decide) gf_RX9_195 rfl rfl rfl (by decide) rfl dX9_record_37 ?_
          refine lv_iload_n X.1 X.2.1 dX9_record_40 rfl (lv_at hl 2 rfl) ?_
          obtain ⟨v3, ev3, hf⟩ := si_ob hf
          refine si_iald X hw rfl ev3 dX9_record_41 ?_
          refine lv_istore (lv' := [(4, .int v3), (0, .ref (E.2.1 0)), (1, .int x1), (2, .int x2), (3, .int x3)]) X.1 X.2.1 dX9_record_42 hl (by decide) rfl (fun ls hl => ?_)
          refine lv_iload X.1 X.2.1 dX9_record_44 (lv_at hl 0 rfl) ?_
          refine lv_aload_n X.1 X.2.1 dX9_record_46 rfl (lv_at hl 1 rfl) ?_
          obtain ⟨k94, ek94, hf⟩ := si_ob hf
          have hk94 := (si_mk_inv ek94).1
          refine si_gtM (d := 0) X hw si_cl9 9 (by decide) gf_RX9_71 rfl rfl rfl ek94 dX9_record_47 ?_
          refine si_getR (k' := (k94 + 4)) (d := 4) X hw si_cl2 7 (by decide) gf_RX9_133 rfl hk94 rfl (by decide) rfl dX9_record_50 ?_
          refine lv_aload_n X.1 X.2.1 dX9_record_53 rfl (lv_at hl 1 rfl) ?_
          refine si_getR (k' := 7) (d := 7) X hw si_cl9 2 (by decide) gf_RX9_26 rfl rfl rfl (by decide) rfl dX9_record_54 ?_
          refine si_getR (k' := 8) (d := 1) X hw si_cl7 1 (by decide) gf_RX9_184 rfl rfl rfl (by decide) rfl dX9_record_57 ?_
          refine lv_iload_n X.1 X.2.1 dX9_record_60 rfl (lv_at hl 2 rfl) ?_
          obtain ⟨v5, ev5, hf⟩ := si_ob hf
          refine si_iald X hw rfl ev5 dX9_record_61 ?_
          obtain ⟨v6, ev6, hf⟩ := si_ob hf
          refine si_iald X hw (sk_2_4 hk94) ev6 dX9_record_62 ?_
          refine lv_icmp_le (tgt := 68) X.1 X.2.1 dX9_record_63 (by decide) (fun c63 => ?_) (fun c63 => ?_)
          · have hf := si_ip c63 hf
            refine lv_aload_n X.1 X.2.1 dX9_record_68 rfl (lv_at hl 1 rfl) ?_
            refine si_getR (k' := 7) (d := 7) X hw si_cl9 2 (by decide) gf_RX9_26 rfl rfl rfl (by decide) rfl dX9_record_69 ?_
            refine lv_iload_n X.1 X.2.1 dX9_record_72 rfl (lv_at hl 2 rfl) ?_
            obtain ⟨q7, eq7, hf⟩ := si_ob hf
            refine si_cVi [.int x1] cal_X7_isOpen gm_RX9_198 X hw hA hl.1 (c_X7_isOpen l E F x1 q2.2 q7 eq7) si_cl7 rfl ⟨⟨rfl, rfl⟩, Nat.le_of_ble_eq_true rfl, Nat.le_of_ble_eq_true rfl⟩ rfl rfl (Nat.le_of_ble_eq_true rfl) ⟨Nat.zero_le _, Nat.zero_le _⟩ dX9_record_73 (fun H locs hw => ?_)
            refine lv_if_ne (tgt := 82) X.1 X.2.1 dX9_record_76 (by decide) (fun c76 => ?_) (fun c76 => ?_)
            · have hf := si_in c76 hf
              refine lv_aload_n X.1 X.2.1 dX9_record_82 rfl (lv_at hl 1 rfl) ?_
              refine si_getR (k' := 7) (d := 7) X hw si_cl9 2 (by decide) gf_RX9_26 rfl rfl rfl (by decide) rfl dX9_record_83 ?_
              refine si_getR (k' := 12) (d := 5) X hw si_cl7 5 (by decide) gf_RX9_201 rfl rfl rfl (by decide) rfl dX9_record_86 ?_
              refine lv_iload_n X.1 X.2.1 dX9_record_89 rfl (lv_at hl 2 rfl) ?_
              obtain ⟨v8, ev8, hf⟩ := si_ob hf
              refine si_iald X hw rfl ev8 dX9_record_90 ?_
              refine lv_bipush (v := 8) X.1 X.2.1 dX9_record_91 (by decide) ?_
              refine lv_icmp_lt (tgt := 99) X.1 X.2.1 dX9_record_93 (by decide) (fun c93 => ?_) (fun c93 => ?_)
              · have hf := si_ip c93 hf
                refine lv_aload_n X.1 X.2.1 dX9_record_99 rfl (lv_at hl 1 rfl) ?_
                refine si_getR (k' := 21) (d := 21) X hw si_cl9 4 (by decide) gf_RX9_40 rfl rfl rfl (by decide) rfl dX9_record_100 ?_
                refine lv_iconst (v := 1) X.1 X.2.1 dX9_record_103 (by decide) ?_
                refine lv_iload_n X.1 X.2.1 dX9_record_104 rfl (lv_at hl 2 rfl) ?_
                obtain ⟨S9, eS9, hf⟩ := si_ob hf
                refine si_cVv [.int 1, .int x1] cal_X0_add gm_RX9_177 X hw hA hl.1 (c_X0_add l E F 1 x1 q7.2 S9 eS9) si_cl0 rfl ⟨⟨rfl, rfl⟩, Nat.le_of_ble_eq_true rfl, Nat.le_of_ble_eq_true rfl⟩ rfl rfl (Nat.le_of_ble_eq_true rfl) ⟨Nat.zero_le _, Nat.zero_le _⟩ dX9_record_105 (fun H locs hw => ?_)
                refine lv_aload_n X.1 X.2.1 dX9_record_108 rfl (lv_at hl 1 rfl) ?_
                refine si_getR (k' := 7) (d := 7) X hw si_cl9 2 (by decide) gf_RX9_26 rfl rfl rfl (by decide) rfl dX9_record_109 ?_
                refine lv_iload_n X.1 X.2.1 dX9_record_112 rfl (lv_at hl 2 rfl) ?_
                refine lv_iload_n X.1 X.2.1 dX9_record_113 rfl (lv_at hl 3 rfl) ?_
                refine lv_iload X.1 X.2.1 dX9_record_114 (lv_at hl 0 rfl) ?_
                refine lv_iload_n X.1 X.2.1 dX9_record_116 rfl (lv_at hl 4 rfl) ?_
                refine lv_iload X.1 X.2.1 dX9_record_117 (lv_at hl 0 rfl) ?_
                refine lv_isub X.1 X.2.1 dX9_record_119 ?_
                obtain ⟨q10, eq10, hf⟩ := si_ob hf
                refine si_cVi [.int x1, .int x2, .int v3, .int (x3 - v3)] cal_X7_addTest gm_RX9_204 X hw hA hl.1 (c_X7_addTest l E F x1 x2 v3 (x3 - v3) S9 q10 eq10) si_cl7 rfl ⟨⟨rfl, rfl⟩, Nat.le_of_ble_eq_true rfl, Nat.le_of_ble_eq_true rfl⟩ rfl rfl (Nat.le_of_ble_eq_true rfl) ⟨Nat.zero_le _, Nat.zero_le _⟩ dX9_record_120 (fun H locs hw => ?_)
                exact hret _ _ _ _ _ _ hf hw dX9_record_123
              · have hf := si_in c93 hf
                refine lv_bipush (v := (-3)) X.1 X.2.1 dX9_record_96 (by decide) ?_
                exact hret _ _ _ _ _ _ hf hw dX9_record_98
            · have hf := si_ip c76 hf
              refine lv_bipush (v := (-2)) X.1 X.2.1 dX9_record_79 (by decide) ?_
              exact hret _ _ _ _ _ _ hf hw dX9_record_81
          · have hf := si_in c63 hf
            refine lv_iconst (v := (-1)) X.1 X.2.1 dX9_record_66 (by decide) ?_
            exact hret _ _ _ _ _ _ hf hw dX9_record_67
        · have hf := si_in c28 hf
          exact B31 _ _ _ _ hf hw (lv_sub hl [] rfl)
abbrev rm_X9_testCount : Room := { frames := 1, cells := 0, slots := 0, locals := 21 }
set_option maxHeartbeats 4000000 in
set_option maxRecDepth 100000 in
theorem c_X9_testCount (l : Launch) (E : si_Ev) (F : Nat) (x1 : Int32) (S : si_St) (o : Int32 × si_St) (hf : f_X9_testCount F x1 S = some o) : si_Mi l E yX9_testCount cX9_testCount 2 (some .int) rm_X9_testCount [.ref (E.2.1 0), .int x1] S o := by
  refine si_ofWi (plainFor_of_name (by decide +kernel)) (Nat.le_of_ble_eq_true rfl) ?_
  intro p e s m args below meth c ls Q A X hw hA hl hret
  have hl : lv_has ls 2 [(0, .ref (E.2.1 0)), (1, .int x1)] := hl
  have B21 : ∀ (t0 : Int32) (S : si_St) (H : Heap) (locs : List Loc) (ls : Array Slot) , f_X9_testCount_h21 F t0 S = some o → si_Ws E A s.heap S H locs → lv_has ls 2 [] → W p l e rm_X9_testCount s m args below meth c H locs 0 0 Q (F0 m 21 ls [.int t0]) := by
    intro t0  S H locs ls  hf hw hl
    unfold f_X9_testCount_h21 at hf
    exact hret _ _ _ _ _ _ hf hw dX9_testCount_21
  unfold f_X9_testCount at hf
  refine lv_aload_n X.1 X.2.1 dX9_testCount_0 rfl (lv_at hl 0 rfl) ?_
  refine lv_iload_n X.1 X.2.1 dX9_testCount_1 rfl (lv_at hl 1 rfl) ?_
  obtain ⟨q1, eq1, hf⟩ := si_ob hf
  refine si_cVi [.int x1] cal_X9_hasVisit gm_RX9_181 X hw hA hl.1 (c_X9_hasVisit l E F x1 S q1 eq1) si_cl9 rfl ⟨⟨rfl, rfl⟩, Nat.le_of_ble_eq_true rfl, Nat.le_of_ble_eq_true rfl⟩ rfl rfl (Nat.le_of_ble_eq_true rfl) ⟨Nat.zero_le _, Nat.zero_le _⟩ dX9_testCount_2 (fun H locs hw => ?_)
  refine lv_if_eq (tgt := 20) X.1 X.2.1 dX9_testCount_5 (by decide) (fun c5 => ?_) (fun c5 => ?_)
  · have hf := si_ip c5 hf
    refine lv_iconst (v := (-1)) X.1 X.2.1 dX9_testCount_20 (by decide) ?_
    exact B21 _ _ _ _ _ hf hw (lv_sub hl [] rfl)
  · have hf := si_in c5 hf
    refine lv_aload_n X.1 X.2.1 dX9_testCount_8 rfl (lv_at hl 0 rfl) ?_
    refine si_getR (k' := 7) (d := 7) X hw si_cl9 2 (by decide) gf_RX9_26 rfl rfl rfl (by decide) rfl dX9_testCount_9 ?_
    refine si_getR (k' := 12) (d := 5) X hw si_cl7 5 (by decide) gf_RX9_201 rfl rfl rfl (by decide) rfl dX9_testCount_12 ?_
    refine lv_iload_n X.1 X.2.1 dX9_testCount_15 rfl (lv_at hl 1 rfl) ?_
    obtain ⟨v2, ev2, hf⟩ := si_ob hf
    refine si_iald X hw rfl ev2 dX9_testCount_16 ?_
    refine lv_goto (tgt := 21) X.1 X.2.1 dX9_testCount_17 (by decide) ?_
    exact B21 _ _ _ _ _ hf hw (lv_sub hl [] rfl)
abbrev rm_X9_verdict : Room := { frames := 6, cells := 0, slots := 0, locals := 139 }
set_option maxHeartbeats 4000000 in
set_option maxRecDepth 100000 in
theorem c_X9_verdict (l : Launch) (E : si_Ev) (F : Nat) (x1 : Int32) (S : si_St) (o : Int32 × si_St) (hf : f_X9_verdict F x1 S = some o) : si_Mi l E yX9_verdict cX9_verdict 2 (some .int) rm_X9_verdict [.ref (E.2.1 0), .int x1] S o := by
  refine si_ofWi (plainFor_of_name (by decide +kernel)) (Nat.le_of_ble_eq_true rfl) ?_
  intro p e s m args below meth c ls Q A X hw hA hl hret
  have hl : lv_has ls 2 [(0, .ref (E.2.1 0)), (1, .int x1)] := hl
  have B25 : ∀ (t0 : Int32) (S : si_St) (H : Heap) (locs : List Loc) (ls : Array Slot) , f_X9_verdict_h25 F t0 S = some o → si_Ws E A s.heap S H locs → lv_has ls 2 [] → W p l e rm_X9_verdict s m args below meth c H locs 0 0 Q (F0 m 25 ls [.int t0]) := by
    intro t0  S H locs ls  hf hw hl
    unfold f_X9_verdict_h25 at hf
    exact hret _ _ _ _ _ _ hf hw dX9_verdict_25
  unfold f_X9_verdict at hf
  refine lv_aload_n X.1 X.2.1 dX9_verdict_0 rfl (lv_at hl 0 rfl) ?_
  refine lv_iload_n X.1 X.2.1 dX9_verdict_1 rfl (lv_at hl 1 rfl) ?_
  obtain ⟨q1, eq1, hf⟩ := si_ob hf
  refine si_cVi [.int x1] cal_X9_hasVisit gm_RX9_181 X hw hA hl.1 (c_X9_hasVisit l E F x1 S q1 eq1) si_cl9 rfl ⟨⟨rfl, rfl⟩, Nat.le_of_ble_eq_true rfl, Nat.le_of_ble_eq_true rfl⟩ rfl rfl (Nat.le_of_ble_eq_true rfl) ⟨Nat.zero_le _, Nat.zero_le _⟩ dX9_verdict_2 (fun H locs hw => ?_)
  refine lv_if_eq (tgt := 24) X.1 X.2.1 dX9_verdict_5 (by decide) (fun c5 => ?_) (fun c5 => ?_)
  · have hf := si_ip c5 hf
    refine lv_iconst (v := (-1)) X.1 X.2.1 dX9_verdict_24 (by decide) ?_
    exact B25 _ _ _ _ _ hf hw (lv_sub hl [] rfl)
  · have hf := si_in c5 hf
    refine lv_aload_n X.1 X.2.1 dX9_verdict_8 rfl (lv_at hl 0 rfl) ?_
    refine si_getR (k' := 7) (d := 7) X hw si_cl9 2 (by decide) gf_RX9_26 rfl rfl rfl (by decide) rfl dX9_verdict_9 ?_
    refine lv_aload_n X.1 X.2.1 dX9_verdict_12 rfl (lv_at hl 0 rfl) ?_
    obtain ⟨k92, ek92, hf⟩ := si_ob hf
    have hk92 := (si_mk_inv ek92).1
    refine si_gtM (d := 0) X hw si_cl9 9 (by decide) gf_RX9_71 rfl rfl rfl ek92 dX9_verdict_13 ?_
    refine lv_iload_n X.1 X.2.1 dX9_verdict_16 rfl (lv_at hl 1 rfl) ?_
    refine lv_iconst (v := 0) X.1 X.2.1 dX9_verdict_17 (by decide) ?_
    obtain ⟨q3, eq3, hf⟩ := si_ob hf
    refine si_cVi [.ref (E.2.1 k92), .int x1, .int 0] cal_X7_judge gm_RX9_224 X hw hA hl.1 (c_X7_judge l E F k92 hk92 x1 0 q1.2 q3 eq3) si_cl7 rfl ⟨⟨rfl, rfl⟩, Nat.le_of_ble_eq_true rfl, Nat.le_of_ble_eq_true rfl⟩ rfl rfl (Nat.le_of_ble_eq_true rfl) ⟨Nat.zero_le _, Nat.zero_le _⟩ dX9_verdict_18 (fun H locs hw => ?_)
    refine lv_goto (tgt := 25) X.1 X.2.1 dX9_verdict_21 (by decide) ?_
    exact B25 _ _ _ _ _ hf hw (lv_sub hl [] rfl)
abbrev rm_X9_adjustedVerdict : Room := { frames := 6, cells := 0, slots := 0, locals := 139 }
set_option maxHeartbeats 4000000 in
set_option maxRecDepth 100000 in
theorem c_X9_adjustedVerdict (l : Launch) (E : si_Ev) (F : Nat) (x1 : Int32) (S : si_St) (o : Int32 × si_St) (hf : f_X9_adjustedVerdict F x1 S = some o) : si_Mi l E yX9_adjustedVerdict cX9_adjustedVerdict 2 (some .int) rm_X9_adjustedVerdict [.ref (E.2.1 0), .int x1] S o := by
  refine si_ofWi (plainFor_of_name (by decide +kernel)) (Nat.le_of_ble_eq_true rfl) ?_
  intro p e s m args below meth c ls Q A X hw hA hl hret
  have hl : lv_has ls 2 [(0, .ref (E.2.1 0)), (1, .int x1)] := hl
  have B32 : ∀ (t0 : Int32) (S : si_St) (H : Heap) (locs : List Loc) (ls : Array Slot) , f_X9_adjustedVerdict_h32 F t0 S = some o → si_Ws E A s.heap S H locs → lv_has ls 2 [] → W p l e rm_X9_adjustedVerdict s m args below meth c H locs 0 0 Q (F0 m 32 ls [.int t0]) := by
    intro t0  S H locs ls  hf hw hl
    unfold f_X9_adjustedVerdict_h32 at hf
    exact hret _ _ _ _ _ _ hf hw dX9_adjustedVerdict_32
  unfold f_X9_adjustedVerdict at hf
  refine lv_aload_n X.1 X.2.1 dX9_adjustedVerdict_0 rfl (lv_at hl 0 rfl) ?_
  refine lv_iload_n X.1 X.2.1 dX9_adjustedVerdict_1 rfl (lv_at hl 1 rfl) ?_
  obtain ⟨q1, eq1, hf⟩ := si_ob hf
  refine si_cVi [.int x1] cal_X9_hasVisit gm_RX9_181 X hw hA hl.1 (c_X9_hasVisit l E F x1 S q1 eq1) si_cl9 rfl ⟨⟨rfl, rfl⟩, Nat.le_of_ble_eq_true rfl, Nat.le_of_ble_eq_true rfl⟩ rfl rfl (Nat.le_of_ble_eq_true rfl) ⟨Nat.zero_le _, Nat.zero_le _⟩ dX9_adjustedVerdict_2 (fun H locs hw => ?_)
  refine lv_if_eq (tgt := 31) X.1 X.2.1 dX9_adjustedVerdict_5 (by decide) (fun c5 => ?_) (fun c5 => ?_)
  · have hf := si_ip c5 hf
    refine lv_iconst (v := (-1)) X.1 X.2.1 dX9_adjustedVerdict_31 (by decide) ?_
    exact B32 _ _ _ _ _ hf hw (lv_sub hl [] rfl)
  · have hf := si_in c5 hf
    refine lv_aload_n X.1 X.2.1 dX9_adjustedVerdict_8 rfl (lv_at hl 0 rfl) ?_
    refine si_getR (k' := 7) (d := 7) X hw si_cl9 2 (by decide) gf_RX9_26 rfl rfl rfl (by decide) rfl dX9_adjustedVerdict_9 ?_
    refine lv_aload_n X.1 X.2.1 dX9_adjustedVerdict_12 rfl (lv_at hl 0 rfl) ?_
    obtain ⟨k92, ek92, hf⟩ := si_ob hf
    have hk92 := (si_mk_inv ek92).1
    refine si_gtM (d := 0) X hw si_cl9 9 (by decide) gf_RX9_71 rfl rfl rfl ek92 dX9_adjustedVerdict_13 ?_
    refine lv_iload_n X.1 X.2.1 dX9_adjustedVerdict_16 rfl (lv_at hl 1 rfl) ?_
    refine lv_aload_n X.1 X.2.1 dX9_adjustedVerdict_17 rfl (lv_at hl 0 rfl) ?_
    refine si_getR (k' := 7) (d := 7) X hw si_cl9 2 (by decide) gf_RX9_26 rfl rfl rfl (by decide) rfl dX9_adjustedVerdict_18 ?_
    refine lv_iload_n X.1 X.2.1 dX9_adjustedVerdict_21 rfl (lv_at hl 1 rfl) ?_
    obtain ⟨q3, eq3, hf⟩ := si_ob hf
    refine si_cVi [.int x1] cal_X7_middleError gm_RX9_235 X hw hA hl.1 (c_X7_middleError l E F x1 q1.2 q3 eq3) si_cl7 rfl ⟨⟨rfl, rfl⟩, Nat.le_of_ble_eq_true rfl, Nat.le_of_ble_eq_true rfl⟩ rfl rfl (Nat.le_of_ble_eq_true rfl) ⟨Nat.zero_le _, Nat.zero_le _⟩ dX9_adjustedVerdict_22 (fun H locs hw => ?_)
    obtain ⟨q4, eq4, hf⟩ := si_ob hf
    refine si_cVi [.ref (E.2.1 k92), .int x1, .int q3.1] cal_X7_judge gm_RX9_224 X hw hA hl.1 (c_X7_judge l E F k92 hk92 x1 q3.1 q3.2 q4 eq4) si_cl7 rfl ⟨⟨rfl, rfl⟩, Nat.le_of_ble_eq_true rfl, Nat.le_of_ble_eq_true rfl⟩ rfl rfl (Nat.le_of_ble_eq_true rfl) ⟨Nat.zero_le _, Nat.zero_le _⟩ dX9_adjustedVerdict_25 (fun H locs hw => ?_)
    refine lv_goto (tgt := 32) X.1 X.2.1 dX9_adjustedVerdict_28 (by decide) ?_
    exact B32 _ _ _ _ _ hf hw (lv_sub hl [] rfl)
abbrev rm_X9_closeVisit : Room := { frames := 6, cells := 0, slots := 0, locals := 139 }
set_option maxHeartbeats 4000000 in
set_option maxRecDepth 100000 in
theorem c_X9_closeVisit (l : Launch) (E : si_Ev) (F : Nat) (x1 : Int32) (S : si_St) (o : Int32 × si_St) (hf : f_X9_closeVisit F x1 S = some o) : si_Mi l E yX9_closeVisit cX9_closeVisit 2 (some .int) rm_X9_closeVisit [.ref (E.2.1 0), .int x1] S o := by
  refine si_ofWi (plainFor_of_name (by decide +kernel)) (Nat.le_of_ble_eq_true rfl) ?_
  intro p e s m args below meth c ls Q A X hw hA hl hret
  have hl : lv_has ls 2 [(0, .ref (E.2.1 0)), (1, .int x1)] := hl
  unfold f_X9_closeVisit at hf
  refine lv_aload_n X.1 X.2.1 dX9_closeVisit_0 rfl (lv_at hl 0 rfl) ?_
  refine lv_iload_n X.1 X.2.1 dX9_closeVisit_1 rfl (lv_at hl 1 rfl) ?_
  obtain ⟨q1, eq1, hf⟩ := si_ob hf
  refine si_cVi [.int x1] cal_X9_hasVisit gm_RX9_181 X hw hA hl.1 (c_X9_hasVisit l E F x1 S q1 eq1) si_cl9 rfl ⟨⟨rfl, rfl⟩, Nat.le_of_ble_eq_true rfl, Nat.le_of_ble_eq_true rfl⟩ rfl rfl (Nat.le_of_ble_eq_true rfl) ⟨Nat.zero_le _, Nat.zero_le _⟩ dX9_closeVisit_2 (fun H locs hw => ?_)
  refine lv_if_ne (tgt := 10) X.1 X.2.1 dX9_closeVisit_5 (by decide) (fun c5 => ?_) (fun c5 => ?_)
  · have hf := si_in c5 hf
    refine lv_aload_n X.1 X.2.1 dX9_closeVisit_10 rfl (lv_at hl 0 rfl) ?_
    refine si_getR (k' := 7) (d := 7) X hw si_cl9 2 (by decide) gf_RX9_26 rfl rfl rfl (by decide) rfl dX9_closeVisit_11 ?_
    refine lv_iload_n X.1 X.2.1 dX9_closeVisit_14 rfl (lv_at hl 1 rfl) ?_
    obtain ⟨q2, eq2, hf⟩ := si_ob hf
    refine si_cVi [.int x1] cal_X7_isOpen gm_RX9_198 X hw hA hl.1 (c_X7_isOpen l E F x1 q1.2 q2 eq2) si_cl7 rfl ⟨⟨rfl, rfl⟩, Nat.le_of_ble_eq_true rfl, Nat.le_of_ble_eq_true rfl⟩ rfl rfl (Nat.le_of_ble_eq_true rfl) ⟨Nat.zero_le _, Nat.zero_le _⟩ dX9_closeVisit_15 (fun H locs hw => ?_)
    refine lv_if_ne (tgt := 24) X.1 X.2.1 dX9_closeVisit_18 (by decide) (fun c18 => ?_) (fun c18 => ?_)
    · have hf := si_in c18 hf
      refine lv_aload_n X.1 X.2.1 dX9_closeVisit_24 rfl (lv_at hl 0 rfl) ?_
      refine si_getR (k' := 7) (d := 7) X hw si_cl9 2 (by decide) gf_RX9_26 rfl rfl rfl (by decide) rfl dX9_closeVisit_25 ?_
      refine si_getR (k' := 11) (d := 4) X hw si_cl7 4 (by decide) gf_RX9_238 rfl rfl rfl (by decide) rfl dX9_closeVisit_28 ?_
      refine lv_iload_n X.1 X.2.1 dX9_closeVisit_31 rfl (lv_at hl 1 rfl) ?_
      refine lv_aload_n X.1 X.2.1 dX9_closeVisit_32 rfl (lv_at hl 0 rfl) ?_
      refine si_getR (k' := 7) (d := 7) X hw si_cl9 2 (by decide) gf_RX9_26 rfl rfl rfl (by decide) rfl dX9_closeVisit_33 ?_
      refine lv_aload_n X.1 X.2.1 dX9_closeVisit_36 rfl (lv_at hl 0 rfl) ?_
      obtain ⟨k93, ek93, hf⟩ := si_ob hf
      have hk93 := (si_mk_inv ek93).1
      refine si_gtM (d := 0) X hw si_cl9 9 (by decide) gf_RX9_71 rfl rfl rfl ek93 dX9_closeVisit_37 ?_
      refine lv_iload_n X.1 X.2.1 dX9_closeVisit_40 rfl (lv_at hl 1 rfl) ?_
      refine lv_iconst (v := 0) X.1 X.2.1 dX9_closeVisit_41 (by decide) ?_
      obtain ⟨q4, eq4, hf⟩ := si_ob hf
      refine si_cVi [.ref (E.2.1 k93), .int x1, .int 0] cal_X7_judge gm_RX9_224 X hw hA hl.1 (c_X7_judge l E F k93 hk93 x1 0 q2.2 q4 eq4) si_cl7 rfl ⟨⟨rfl, rfl⟩, Nat.le_of_ble_eq_true rfl, Nat.le_of_ble_eq_true rfl⟩ rfl rfl (Nat.le_of_ble_eq_true rfl) ⟨Nat.zero_le _, Nat.zero_le _⟩ dX9_closeVisit_42 (fun H locs hw => ?_)
      obtain ⟨S5, eS5, hf⟩ := si_ob hf
      refine si_iast X hw rfl eS5 dX9_closeVisit_45 (fun H locs hw => ?_)
      refine lv_aload_n X.1 X.2.1 dX9_closeVisit_46 rfl (lv_at hl 0 rfl) ?_
      refine si_getR (k' := 21) (d := 21) X hw si_cl9 4 (by decide) gf_RX9_40 rfl rfl rfl (by decide) rfl dX9_closeVisit_47 ?_
      refine lv_iconst (v := 2) X.1 X.2.1 dX9_closeVisit_50 (by decide) ?_
      refine lv_iload_n X.1 X.2.1 dX9_closeVisit_51 rfl (lv_at hl 1 rfl) ?_
      obtain ⟨S6, eS6, hf⟩ := si_ob hf
      refine si_cVv [.int 2, .int x1] cal_X0_add gm_RX9_177 X hw hA hl.1 (c_X0_add l E F 2 x1 S5 S6 eS6) si_cl0 rfl ⟨⟨rfl, rfl⟩, Nat.le_of_ble_eq_true rfl, Nat.le_of_ble_eq_true rfl⟩ rfl rfl (Nat.le_of_ble_eq_true rfl) ⟨Nat.zero_le _, Nat.zero_le _⟩ dX9_closeVisit_52 (fun H locs hw => ?_)
      refine lv_aload_n X.1 X.2.1 dX9_closeVisit_55 rfl (lv_at hl 0 rfl) ?_
      refine si_getR (k' := 7) (d := 7) X hw si_cl9 2 (by decide) gf_RX9_26 rfl rfl rfl (by decide) rfl dX9_closeVisit_56 ?_
      refine si_getR (k' := 11) (d := 4) X hw si_cl7 4 (by decide) gf_RX9_238 rfl rfl rfl (by decide) rfl dX9_closeVisit_59 ?_
      refine lv_iload_n X.1 X.2.1 dX9_closeVisit_62 rfl (lv_at hl 1 rfl) ?_
      obtain ⟨v7, ev7, hf⟩ := si_ob hf
      refine si_iald X hw rfl ev7 dX9_closeVisit_63 ?_
      exact hret _ _ _ _ _ _ hf hw dX9_closeVisit_64
    · have hf := si_ip c18 hf
      refine lv_bipush (v := (-2)) X.1 X.2.1 dX9_closeVisit_21 (by decide) ?_
      exact hret _ _ _ _ _ _ hf hw dX9_closeVisit_23
  · have hf := si_ip c5 hf
    refine lv_iconst (v := (-1)) X.1 X.2.1 dX9_closeVisit_8 (by decide) ?_
    exact hret _ _ _ _ _ _ hf hw dX9_closeVisit_9
abbrev rm_X9_isClosed : Room := { frames := 1, cells := 0, slots := 0, locals := 21 }
set_option maxHeartbeats 4000000 in
set_option maxRecDepth 100000 in
theorem c_X9_isClosed (l : Launch) (E : si_Ev) (F : Nat) (x1 : Int32) (S : si_St) (o : Int32 × si_St) (hf : f_X9_isClosed F x1 S = some o) : si_Mi l E yX9_isClosed cX9_isClosed 2 (some .int) rm_X9_isClosed [.ref (E.2.1 0), .int x1] S o := by
  refine si_ofWi (plainFor_of_name (by decide +kernel)) (Nat.le_of_ble_eq_true rfl) ?_
  intro p e s m args below meth c ls Q A X hw hA hl hret
  have hl : lv_has ls 2 [(0, .ref (E.2.1 0)), (1, .int x1)] := hl
  have B26 : ∀ (t0 : Int32) (S : si_St) (H : Heap) (locs : List Loc) (ls : Array Slot) , f_X9_isClosed_h26 F t0 S = some o → si_Ws E A s.heap S H locs → lv_has ls 2 [] → W p l e rm_X9_isClosed s m args below meth c H locs 0 0 Q (F0 m 26 ls [.int t0]) := by
    intro t0  S H locs ls  hf hw hl
    unfold f_X9_isClosed_h26 at hf
    exact hret _ _ _ _ _ _ hf hw dX9_isClosed_26
  unfold f_X9_isClosed at hf
  refine lv_aload_n X.1 X.2.1 dX9_isClosed_0 rfl (lv_at hl 0 rfl) ?_
  refine lv_iload_n X.1 X.2.1 dX9_isClosed_1 rfl (lv_at hl 1 rfl) ?_
  obtain ⟨q1, eq1, hf⟩ := si_ob hf
  refine si_cVi [.int x1] cal_X9_hasVisit gm_RX9_181 X hw hA hl.1 (c_X9_hasVisit l E F x1 S q1 eq1) si_cl9 rfl ⟨⟨rfl, rfl⟩, Nat.le_of_ble_eq_true rfl, Nat.le_of_ble_eq_true rfl⟩ rfl rfl (Nat.le_of_ble_eq_true rfl) ⟨Nat.zero_le _, Nat.zero_le _⟩ dX9_isClosed_2 (fun H locs hw => ?_)
  refine lv_if_ne (tgt := 10) X.1 X.2.1 dX9_isClosed_5 (by decide) (fun c5 => ?_) (fun c5 => ?_)
  · have hf := si_in c5 hf
    refine lv_aload_n X.1 X.2.1 dX9_isClosed_10 rfl (lv_at hl 0 rfl) ?_
    refine si_getR (k' := 7) (d := 7) X hw si_cl9 2 (by decide) gf_RX9_26 rfl rfl rfl (by decide) rfl dX9_isClosed_11 ?_
    refine lv_iload_n X.1 X.2.1 dX9_isClosed_14 rfl (lv_at hl 1 rfl) ?_
    obtain ⟨q2, eq2, hf⟩ := si_ob hf
    refine si_cVi [.int x1] cal_X7_isOpen gm_RX9_198 X hw hA hl.1 (c_X7_isOpen l E F x1 q1.2 q2 eq2) si_cl7 rfl ⟨⟨rfl, rfl⟩, Nat.le_of_ble_eq_true rfl, Nat.le_of_ble_eq_true rfl⟩ rfl rfl (Nat.le_of_ble_eq_true rfl) ⟨Nat.zero_le _, Nat.zero_le _⟩ dX9_isClosed_15 (fun H locs hw => ?_)
    refine lv_if_eq (tgt := 25) X.1 X.2.1 dX9_isClosed_18 (by decide) (fun c18 => ?_) (fun c18 => ?_)
    · have hf := si_ip c18 hf
      refine lv_iconst (v := 1) X.1 X.2.1 dX9_isClosed_25 (by decide) ?_
      exact B26 _ _ _ _ _ hf hw (lv_sub hl [] rfl)
    · have hf := si_in c18 hf
      refine lv_iconst (v := 0) X.1 X.2.1 dX9_isClosed_21 (by decide) ?_
      refine lv_goto (tgt := 26) X.1 X.2.1 dX9_isClosed_22 (by decide) ?_
      exact B26 _ _ _ _ _ hf hw (lv_sub hl [] rfl)
  · have hf := si_ip c5 hf
    refine lv_iconst (v := (-1)) X.1 X.2.1 dX9_isClosed_8 (by decide) ?_
    exact hret _ _ _ _ _ _ hf hw dX9_isClosed_9

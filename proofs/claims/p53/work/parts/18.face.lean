theorem dX9_isWeighing_0 : decode cX9_isWeighing 0 = .ok (.iload_n 1, 1) := by decide +kernel
theorem dX9_isWeighing_1 : decode cX9_isWeighing 1 = .ok (.iload_n 2, 1) := by decide +kernel
theorem dX9_isWeighing_2 : decode cX9_isWeighing 2 = .ok (.ior, 1) := by decide +kernel
theorem dX9_isWeighing_3 : decode cX9_isWeighing 3 = .ok (.iconst 1, 1) := by decide +kernel
theorem dX9_isWeighing_4 : decode cX9_isWeighing 4 = .ok (.iload_n 0, 1) := by decide +kernel
theorem dX9_isWeighing_5 : decode cX9_isWeighing 5 = .ok (.ishl, 1) := by decide +kernel
theorem dX9_isWeighing_6 : decode cX9_isWeighing 6 = .ok (.ineg, 1) := by decide +kernel
theorem dX9_isWeighing_7 : decode cX9_isWeighing 7 = .ok (.iand, 1) := by decide +kernel
theorem dX9_isWeighing_8 : decode cX9_isWeighing 8 = .ok (.ifCond .ne 7, 3) := by decide +kernel
theorem dX9_isWeighing_11 : decode cX9_isWeighing 11 = .ok (.iconst 1, 1) := by decide +kernel
theorem dX9_isWeighing_12 : decode cX9_isWeighing 12 = .ok (.goto 4, 3) := by decide +kernel
theorem dX9_isWeighing_15 : decode cX9_isWeighing 15 = .ok (.iconst 0, 1) := by decide +kernel
theorem dX9_isWeighing_16 : decode cX9_isWeighing 16 = .ok (.istore_n 3, 1) := by decide +kernel
theorem dX9_isWeighing_17 : decode cX9_isWeighing 17 = .ok (.iload_n 1, 1) := by decide +kernel
theorem dX9_isWeighing_18 : decode cX9_isWeighing 18 = .ok (.iload_n 2, 1) := by decide +kernel
theorem dX9_isWeighing_19 : decode cX9_isWeighing 19 = .ok (.iand, 1) := by decide +kernel
theorem dX9_isWeighing_20 : decode cX9_isWeighing 20 = .ok (.ifCond .ne 7, 3) := by decide +kernel
theorem dX9_isWeighing_23 : decode cX9_isWeighing 23 = .ok (.iconst 1, 1) := by decide +kernel
theorem dX9_isWeighing_24 : decode cX9_isWeighing 24 = .ok (.goto 4, 3) := by decide +kernel
theorem dX9_isWeighing_27 : decode cX9_isWeighing 27 = .ok (.iconst 0, 1) := by decide +kernel
theorem dX9_isWeighing_28 : decode cX9_isWeighing 28 = .ok (.istore 4, 2) := by decide +kernel
theorem dX9_isWeighing_30 : decode cX9_isWeighing 30 = .ok (.iload_n 1, 1) := by decide +kernel
theorem dX9_isWeighing_31 : decode cX9_isWeighing 31 = .ok (.invokestatic 287, 3) := by decide +kernel
theorem dX9_isWeighing_34 : decode cX9_isWeighing 34 = .ok (.iload_n 2, 1) := by decide +kernel
theorem dX9_isWeighing_35 : decode cX9_isWeighing 35 = .ok (.invokestatic 287, 3) := by decide +kernel
theorem dX9_isWeighing_38 : decode cX9_isWeighing 38 = .ok (.if_icmp .ne 7, 3) := by decide +kernel
theorem dX9_isWeighing_41 : decode cX9_isWeighing 41 = .ok (.iconst 1, 1) := by decide +kernel
theorem dX9_isWeighing_42 : decode cX9_isWeighing 42 = .ok (.goto 4, 3) := by decide +kernel
theorem dX9_isWeighing_45 : decode cX9_isWeighing 45 = .ok (.iconst 0, 1) := by decide +kernel
theorem dX9_isWeighing_46 : decode cX9_isWeighing 46 = .ok (.istore 5, 2) := by decide +kernel
theorem dX9_isWeighing_48 : decode cX9_isWeighing 48 = .ok (.iload_n 3, 1) := by decide +kernel
theorem dX9_isWeighing_49 : decode cX9_isWeighing 49 = .ok (.ifCond .eq 21, 3) := by decide +kernel
theorem dX9_isWeighing_52 : decode cX9_isWeighing 52 = .ok (.iload 4, 2) := by decide +kernel
theorem dX9_isWeighing_54 : decode cX9_isWeighing 54 = .ok (.ifCond .eq 16, 3) := by decide +kernel
theorem dX9_isWeighing_57 : decode cX9_isWeighing 57 = .ok (.iload 5, 2) := by decide +kernel
theorem dX9_isWeighing_59 : decode cX9_isWeighing 59 = .ok (.ifCond .eq 11, 3) := by decide +kernel
theorem dX9_isWeighing_62 : decode cX9_isWeighing 62 = .ok (.iload_n 1, 1) := by decide +kernel
theorem dX9_isWeighing_63 : decode cX9_isWeighing 63 = .ok (.ifCond .eq 7, 3) := by decide +kernel
theorem dX9_isWeighing_66 : decode cX9_isWeighing 66 = .ok (.iconst 1, 1) := by decide +kernel
theorem dX9_isWeighing_67 : decode cX9_isWeighing 67 = .ok (.goto 4, 3) := by decide +kernel
theorem dX9_isWeighing_70 : decode cX9_isWeighing 70 = .ok (.iconst 0, 1) := by decide +kernel
theorem dX9_isWeighing_71 : decode cX9_isWeighing 71 = .ok (.ireturn, 1) := by decide +kernel
theorem dX9_orNone_0 : decode cX9_orNone 0 = .ok (.iload_n 0, 1) := by decide +kernel
theorem dX9_orNone_1 : decode cX9_orNone 1 = .ok (.bipush 99, 2) := by decide +kernel
theorem dX9_orNone_3 : decode cX9_orNone 3 = .ok (.if_icmp .ne 8, 3) := by decide +kernel
theorem dX9_orNone_6 : decode cX9_orNone 6 = .ok (.bipush (-2), 2) := by decide +kernel
theorem dX9_orNone_8 : decode cX9_orNone 8 = .ok (.goto 4, 3) := by decide +kernel
theorem dX9_orNone_11 : decode cX9_orNone 11 = .ok (.iload_n 0, 1) := by decide +kernel
theorem dX9_orNone_12 : decode cX9_orNone 12 = .ok (.ireturn, 1) := by decide +kernel
theorem dX9_hasSet_0 : decode cX9_hasSet 0 = .ok (.iload_n 1, 1) := by decide +kernel
theorem dX9_hasSet_1 : decode cX9_hasSet 1 = .ok (.ifCond .lt 18, 3) := by decide +kernel
theorem dX9_hasSet_4 : decode cX9_hasSet 4 = .ok (.iload_n 1, 1) := by decide +kernel
theorem dX9_hasSet_5 : decode cX9_hasSet 5 = .ok (.aload_n 0, 1) := by decide +kernel
theorem dX9_hasSet_6 : decode cX9_hasSet 6 = .ok (.getfield 71, 3) := by decide +kernel
theorem dX9_hasSet_9 : decode cX9_hasSet 9 = .ok (.getfield 122, 3) := by decide +kernel
theorem dX9_hasSet_12 : decode cX9_hasSet 12 = .ok (.if_icmp .ge 7, 3) := by decide +kernel
theorem dX9_hasSet_15 : decode cX9_hasSet 15 = .ok (.iconst 1, 1) := by decide +kernel
theorem dX9_hasSet_16 : decode cX9_hasSet 16 = .ok (.goto 4, 3) := by decide +kernel
theorem dX9_hasSet_19 : decode cX9_hasSet 19 = .ok (.iconst 0, 1) := by decide +kernel
theorem dX9_hasSet_20 : decode cX9_hasSet 20 = .ok (.ireturn, 1) := by decide +kernel
theorem dX9_chooseSet_0 : decode cX9_chooseSet 0 = .ok (.aload_n 0, 1) := by decide +kernel
theorem dX9_chooseSet_1 : decode cX9_chooseSet 1 = .ok (.getfield 64, 3) := by decide +kernel
theorem dX9_chooseSet_4 : decode cX9_chooseSet 4 = .ok (.aload_n 0, 1) := by decide +kernel
theorem dX9_chooseSet_5 : decode cX9_chooseSet 5 = .ok (.getfield 71, 3) := by decide +kernel
theorem dX9_chooseSet_8 : decode cX9_chooseSet 8 = .ok (.getfield 268, 3) := by decide +kernel
theorem dX9_chooseSet_11 : decode cX9_chooseSet 11 = .ok (.iload_n 1, 1) := by decide +kernel
theorem dX9_chooseSet_12 : decode cX9_chooseSet 12 = .ok (.iaload, 1) := by decide +kernel
theorem dX9_chooseSet_13 : decode cX9_chooseSet 13 = .ok (.aload_n 0, 1) := by decide +kernel
theorem dX9_chooseSet_14 : decode cX9_chooseSet 14 = .ok (.getfield 33, 3) := by decide +kernel
theorem dX9_chooseSet_17 : decode cX9_chooseSet 17 = .ok (.getfield 275, 3) := by decide +kernel
theorem dX9_chooseSet_20 : decode cX9_chooseSet 20 = .ok (.iload_n 1, 1) := by decide +kernel
theorem dX9_chooseSet_21 : decode cX9_chooseSet 21 = .ok (.iaload, 1) := by decide +kernel
theorem dX9_chooseSet_22 : decode cX9_chooseSet 22 = .ok (.aload_n 0, 1) := by decide +kernel
theorem dX9_chooseSet_23 : decode cX9_chooseSet 23 = .ok (.getfield 33, 3) := by decide +kernel
theorem dX9_chooseSet_26 : decode cX9_chooseSet 26 = .ok (.getfield 281, 3) := by decide +kernel
theorem dX9_chooseSet_29 : decode cX9_chooseSet 29 = .ok (.iload_n 1, 1) := by decide +kernel
theorem dX9_chooseSet_30 : decode cX9_chooseSet 30 = .ok (.iaload, 1) := by decide +kernel
theorem dX9_chooseSet_31 : decode cX9_chooseSet 31 = .ok (.aload_n 0, 1) := by decide +kernel
theorem dX9_chooseSet_32 : decode cX9_chooseSet 32 = .ok (.getfield 33, 3) := by decide +kernel
theorem dX9_chooseSet_35 : decode cX9_chooseSet 35 = .ok (.getfield 284, 3) := by decide +kernel
theorem dX9_chooseSet_38 : decode cX9_chooseSet 38 = .ok (.iload_n 1, 1) := by decide +kernel
theorem dX9_chooseSet_39 : decode cX9_chooseSet 39 = .ok (.iaload, 1) := by decide +kernel
theorem dX9_chooseSet_40 : decode cX9_chooseSet 40 = .ok (.invokevirtual 329, 3) := by decide +kernel
theorem dX9_chooseSet_43 : decode cX9_chooseSet 43 = .ok (.return_, 1) := by decide +kernel
theorem dX9_append_0 : decode cX9_append 0 = .ok (.aload_n 0, 1) := by decide +kernel
theorem dX9_append_1 : decode cX9_append 1 = .ok (.getfield 10, 3) := by decide +kernel
theorem dX9_append_4 : decode cX9_append 4 = .ok (.getfield 78, 3) := by decide +kernel
theorem dX9_append_7 : decode cX9_append 7 = .ok (.bipush 20, 2) := by decide +kernel
theorem dX9_append_9 : decode cX9_append 9 = .ok (.iadd, 1) := by decide +kernel
theorem dX9_append_10 : decode cX9_append 10 = .ok (.sipush 800, 3) := by decide +kernel
theorem dX9_append_13 : decode cX9_append 13 = .ok (.if_icmp .le 6, 3) := by decide +kernel
theorem dX9_append_16 : decode cX9_append 16 = .ok (.bipush (-3), 2) := by decide +kernel
theorem dX9_append_18 : decode cX9_append 18 = .ok (.ireturn, 1) := by decide +kernel
theorem dX9_append_19 : decode cX9_append 19 = .ok (.aload_n 0, 1) := by decide +kernel
theorem dX9_append_20 : decode cX9_append 20 = .ok (.getfield 10, 3) := by decide +kernel
theorem dX9_append_23 : decode cX9_append 23 = .ok (.iload_n 1, 1) := by decide +kernel
theorem dX9_append_24 : decode cX9_append 24 = .ok (.invokevirtual 82, 3) := by decide +kernel
theorem dX9_append_27 : decode cX9_append 27 = .ok (.aload_n 0, 1) := by decide +kernel
theorem dX9_append_28 : decode cX9_append 28 = .ok (.getfield 10, 3) := by decide +kernel
theorem dX9_append_31 : decode cX9_append 31 = .ok (.iload_n 2, 1) := by decide +kernel
theorem dX9_append_32 : decode cX9_append 32 = .ok (.invokevirtual 82, 3) := by decide +kernel
theorem dX9_append_35 : decode cX9_append 35 = .ok (.aload_n 0, 1) := by decide +kernel
theorem dX9_append_36 : decode cX9_append 36 = .ok (.getfield 10, 3) := by decide +kernel
theorem dX9_append_39 : decode cX9_append 39 = .ok (.iload_n 3, 1) := by decide +kernel
theorem dX9_append_40 : decode cX9_append 40 = .ok (.invokevirtual 82, 3) := by decide +kernel
theorem dX9_append_43 : decode cX9_append 43 = .ok (.aload_n 0, 1) := by decide +kernel
theorem dX9_append_44 : decode cX9_append 44 = .ok (.getfield 10, 3) := by decide +kernel
theorem dX9_append_47 : decode cX9_append 47 = .ok (.iload 4, 2) := by decide +kernel
theorem dX9_append_49 : decode cX9_append 49 = .ok (.invokevirtual 82, 3) := by decide +kernel
theorem dX9_append_52 : decode cX9_append 52 = .ok (.aload_n 0, 1) := by decide +kernel
theorem dX9_append_53 : decode cX9_append 53 = .ok (.getfield 10, 3) := by decide +kernel
theorem dX9_append_56 : decode cX9_append 56 = .ok (.iload 5, 2) := by decide +kernel
theorem dX9_append_58 : decode cX9_append 58 = .ok (.invokevirtual 82, 3) := by decide +kernel
theorem dX9_append_61 : decode cX9_append 61 = .ok (.aload_n 0, 1) := by decide +kernel
theorem dX9_append_62 : decode cX9_append 62 = .ok (.getfield 10, 3) := by decide +kernel
theorem dX9_append_65 : decode cX9_append 65 = .ok (.getfield 78, 3) := by decide +kernel
theorem dX9_append_68 : decode cX9_append 68 = .ok (.ireturn, 1) := by decide +kernel
theorem dX9_takeDraft_0 : decode cX9_takeDraft 0 = .ok (.aload_n 0, 1) := by decide +kernel
theorem dX9_takeDraft_1 : decode cX9_takeDraft 1 = .ok (.getfield 71, 3) := by decide +kernel
theorem dX9_takeDraft_4 : decode cX9_takeDraft 4 = .ok (.astore_n 1, 1) := by decide +kernel
theorem dX9_takeDraft_5 : decode cX9_takeDraft 5 = .ok (.aload_n 0, 1) := by decide +kernel
theorem dX9_takeDraft_6 : decode cX9_takeDraft 6 = .ok (.aload_n 0, 1) := by decide +kernel
theorem dX9_takeDraft_7 : decode cX9_takeDraft 7 = .ok (.getfield 75, 3) := by decide +kernel
theorem dX9_takeDraft_10 : decode cX9_takeDraft 10 = .ok (.putfield 71, 3) := by decide +kernel
theorem dX9_takeDraft_13 : decode cX9_takeDraft 13 = .ok (.aload_n 0, 1) := by decide +kernel
theorem dX9_takeDraft_14 : decode cX9_takeDraft 14 = .ok (.aload_n 1, 1) := by decide +kernel
theorem dX9_takeDraft_15 : decode cX9_takeDraft 15 = .ok (.putfield 75, 3) := by decide +kernel
theorem dX9_takeDraft_18 : decode cX9_takeDraft 18 = .ok (.aload_n 0, 1) := by decide +kernel
theorem dX9_takeDraft_19 : decode cX9_takeDraft 19 = .ok (.getfield 19, 3) := by decide +kernel
theorem dX9_takeDraft_22 : decode cX9_takeDraft 22 = .ok (.aload_n 0, 1) := by decide +kernel
theorem dX9_takeDraft_23 : decode cX9_takeDraft 23 = .ok (.getfield 71, 3) := by decide +kernel
theorem dX9_takeDraft_26 : decode cX9_takeDraft 26 = .ok (.invokevirtual 93, 3) := by decide +kernel
theorem dX9_takeDraft_29 : decode cX9_takeDraft 29 = .ok (.aload_n 0, 1) := by decide +kernel
theorem dX9_takeDraft_30 : decode cX9_takeDraft 30 = .ok (.getfield 26, 3) := by decide +kernel
theorem dX9_takeDraft_33 : decode cX9_takeDraft 33 = .ok (.iconst 0, 1) := by decide +kernel
theorem dX9_takeDraft_34 : decode cX9_takeDraft 34 = .ok (.putfield 97, 3) := by decide +kernel
theorem dX9_takeDraft_37 : decode cX9_takeDraft 37 = .ok (.aload_n 0, 1) := by decide +kernel
theorem dX9_takeDraft_38 : decode cX9_takeDraft 38 = .ok (.getfield 33, 3) := by decide +kernel
theorem dX9_takeDraft_41 : decode cX9_takeDraft 41 = .ok (.aload_n 0, 1) := by decide +kernel
theorem dX9_takeDraft_42 : decode cX9_takeDraft 42 = .ok (.getfield 71, 3) := by decide +kernel
theorem dX9_takeDraft_45 : decode cX9_takeDraft 45 = .ok (.invokevirtual 100, 3) := by decide +kernel
theorem dX9_takeDraft_48 : decode cX9_takeDraft 48 = .ok (.aload_n 0, 1) := by decide +kernel
theorem dX9_takeDraft_49 : decode cX9_takeDraft 49 = .ok (.getfield 40, 3) := by decide +kernel
theorem dX9_takeDraft_52 : decode cX9_takeDraft 52 = .ok (.invokevirtual 103, 3) := by decide +kernel
theorem dX9_takeDraft_55 : decode cX9_takeDraft 55 = .ok (.aload_n 0, 1) := by decide +kernel
theorem dX9_takeDraft_56 : decode cX9_takeDraft 56 = .ok (.getfield 47, 3) := by decide +kernel
theorem dX9_takeDraft_59 : decode cX9_takeDraft 59 = .ok (.iconst 0, 1) := by decide +kernel
theorem dX9_takeDraft_60 : decode cX9_takeDraft 60 = .ok (.putfield 106, 3) := by decide +kernel
theorem dX9_takeDraft_63 : decode cX9_takeDraft 63 = .ok (.aload_n 0, 1) := by decide +kernel
theorem dX9_takeDraft_64 : decode cX9_takeDraft 64 = .ok (.getfield 51, 3) := by decide +kernel
theorem dX9_takeDraft_67 : decode cX9_takeDraft 67 = .ok (.iconst 0, 1) := by decide +kernel
theorem dX9_takeDraft_68 : decode cX9_takeDraft 68 = .ok (.putfield 106, 3) := by decide +kernel
theorem dX9_takeDraft_71 : decode cX9_takeDraft 71 = .ok (.return_, 1) := by decide +kernel
theorem dX9_parse_0 : decode cX9_parse 0 = .ok (.iload_n 1, 1) := by decide +kernel
theorem dX9_parse_1 : decode cX9_parse 1 = .ok (.ifCond .lt 14, 3) := by decide +kernel
theorem dX9_parse_4 : decode cX9_parse 4 = .ok (.iload_n 1, 1) := by decide +kernel
theorem dX9_parse_5 : decode cX9_parse 5 = .ok (.aload_n 0, 1) := by decide +kernel
theorem dX9_parse_6 : decode cX9_parse 6 = .ok (.getfield 10, 3) := by decide +kernel
theorem dX9_parse_9 : decode cX9_parse 9 = .ok (.getfield 78, 3) := by decide +kernel
theorem dX9_parse_12 : decode cX9_parse 12 = .ok (.if_icmp .le 5, 3) := by decide +kernel
theorem dX9_parse_15 : decode cX9_parse 15 = .ok (.iconst (-1), 1) := by decide +kernel
theorem dX9_parse_16 : decode cX9_parse 16 = .ok (.ireturn, 1) := by decide +kernel
theorem dX9_parse_17 : decode cX9_parse 17 = .ok (.aload_n 0, 1) := by decide +kernel
theorem dX9_parse_18 : decode cX9_parse 18 = .ok (.getfield 10, 3) := by decide +kernel
theorem dX9_parse_21 : decode cX9_parse 21 = .ok (.iload_n 1, 1) := by decide +kernel
theorem dX9_parse_22 : decode cX9_parse 22 = .ok (.aload_n 0, 1) := by decide +kernel
theorem dX9_parse_23 : decode cX9_parse 23 = .ok (.getfield 75, 3) := by decide +kernel
theorem dX9_parse_26 : decode cX9_parse 26 = .ok (.invokevirtual 86, 3) := by decide +kernel
theorem dX9_parse_29 : decode cX9_parse 29 = .ok (.istore_n 2, 1) := by decide +kernel
theorem dX9_parse_30 : decode cX9_parse 30 = .ok (.aload_n 0, 1) := by decide +kernel
theorem dX9_parse_31 : decode cX9_parse 31 = .ok (.getfield 10, 3) := by decide +kernel
theorem dX9_parse_34 : decode cX9_parse 34 = .ok (.iconst 0, 1) := by decide +kernel
theorem dX9_parse_35 : decode cX9_parse 35 = .ok (.putfield 78, 3) := by decide +kernel
theorem dX9_parse_38 : decode cX9_parse 38 = .ok (.iload_n 2, 1) := by decide +kernel
theorem dX9_parse_39 : decode cX9_parse 39 = .ok (.ifCond .ne 7, 3) := by decide +kernel
theorem dX9_parse_42 : decode cX9_parse 42 = .ok (.aload_n 0, 1) := by decide +kernel
theorem dX9_parse_43 : decode cX9_parse 43 = .ok (.invokevirtual 90, 3) := by decide +kernel
theorem dX9_parse_46 : decode cX9_parse 46 = .ok (.iload_n 2, 1) := by decide +kernel
theorem dX9_parse_47 : decode cX9_parse 47 = .ok (.ireturn, 1) := by decide +kernel
theorem dX9_weigh_0 : decode cX9_weigh 0 = .ok (.aload_n 0, 1) := by decide +kernel
theorem dX9_weigh_1 : decode cX9_weigh 1 = .ok (.iload_n 1, 1) := by decide +kernel
theorem dX9_weigh_2 : decode cX9_weigh 2 = .ok (.invokevirtual 265, 3) := by decide +kernel
theorem dX9_weigh_5 : decode cX9_weigh 5 = .ok (.ifCond .eq 20, 3) := by decide +kernel
theorem dX9_weigh_8 : decode cX9_weigh 8 = .ok (.aload_n 0, 1) := by decide +kernel
theorem dX9_weigh_9 : decode cX9_weigh 9 = .ok (.getfield 71, 3) := by decide +kernel
theorem dX9_weigh_12 : decode cX9_weigh 12 = .ok (.getfield 268, 3) := by decide +kernel
theorem dX9_weigh_15 : decode cX9_weigh 15 = .ok (.iload_n 1, 1) := by decide +kernel
theorem dX9_weigh_16 : decode cX9_weigh 16 = .ok (.iaload, 1) := by decide +kernel
theorem dX9_weigh_17 : decode cX9_weigh 17 = .ok (.iload_n 2, 1) := by decide +kernel
theorem dX9_weigh_18 : decode cX9_weigh 18 = .ok (.iload_n 3, 1) := by decide +kernel
theorem dX9_weigh_19 : decode cX9_weigh 19 = .ok (.invokestatic 271, 3) := by decide +kernel
theorem dX9_weigh_22 : decode cX9_weigh 22 = .ok (.ifCond .ne 5, 3) := by decide +kernel
theorem dX9_weigh_25 : decode cX9_weigh 25 = .ok (.iconst (-1), 1) := by decide +kernel
theorem dX9_weigh_26 : decode cX9_weigh 26 = .ok (.ireturn, 1) := by decide +kernel
theorem dX9_weigh_27 : decode cX9_weigh 27 = .ok (.iload 4, 2) := by decide +kernel
theorem dX9_weigh_29 : decode cX9_weigh 29 = .ok (.ifCond .lt 9, 3) := by decide +kernel
theorem dX9_weigh_32 : decode cX9_weigh 32 = .ok (.iload 4, 2) := by decide +kernel
theorem dX9_weigh_34 : decode cX9_weigh 34 = .ok (.iconst 2, 1) := by decide +kernel
theorem dX9_weigh_35 : decode cX9_weigh 35 = .ok (.if_icmp .le 5, 3) := by decide +kernel
theorem dX9_weigh_38 : decode cX9_weigh 38 = .ok (.iconst (-1), 1) := by decide +kernel
theorem dX9_weigh_39 : decode cX9_weigh 39 = .ok (.ireturn, 1) := by decide +kernel
theorem dX9_weigh_40 : decode cX9_weigh 40 = .ok (.aload_n 0, 1) := by decide +kernel
theorem dX9_weigh_41 : decode cX9_weigh 41 = .ok (.getfield 33, 3) := by decide +kernel
theorem dX9_weigh_44 : decode cX9_weigh 44 = .ok (.getfield 275, 3) := by decide +kernel
theorem dX9_weigh_47 : decode cX9_weigh 47 = .ok (.iload_n 1, 1) := by decide +kernel
theorem dX9_weigh_48 : decode cX9_weigh 48 = .ok (.iaload, 1) := by decide +kernel
theorem dX9_weigh_49 : decode cX9_weigh 49 = .ok (.iload_n 2, 1) := by decide +kernel
theorem dX9_weigh_50 : decode cX9_weigh 50 = .ok (.iload_n 3, 1) := by decide +kernel
theorem dX9_weigh_51 : decode cX9_weigh 51 = .ok (.iload 4, 2) := by decide +kernel
theorem dX9_weigh_53 : decode cX9_weigh 53 = .ok (.invokestatic 278, 3) := by decide +kernel
theorem dX9_weigh_56 : decode cX9_weigh 56 = .ok (.istore 5, 2) := by decide +kernel
theorem dX9_weigh_58 : decode cX9_weigh 58 = .ok (.aload_n 0, 1) := by decide +kernel
theorem dX9_weigh_59 : decode cX9_weigh 59 = .ok (.getfield 33, 3) := by decide +kernel
theorem dX9_weigh_62 : decode cX9_weigh 62 = .ok (.getfield 281, 3) := by decide +kernel
theorem dX9_weigh_65 : decode cX9_weigh 65 = .ok (.iload_n 1, 1) := by decide +kernel
theorem dX9_weigh_66 : decode cX9_weigh 66 = .ok (.iaload, 1) := by decide +kernel
theorem dX9_weigh_67 : decode cX9_weigh 67 = .ok (.iload_n 3, 1) := by decide +kernel
theorem dX9_weigh_68 : decode cX9_weigh 68 = .ok (.iload_n 2, 1) := by decide +kernel
theorem dX9_weigh_69 : decode cX9_weigh 69 = .ok (.iload 4, 2) := by decide +kernel
theorem dX9_weigh_71 : decode cX9_weigh 71 = .ok (.invokestatic 278, 3) := by decide +kernel
theorem dX9_weigh_74 : decode cX9_weigh 74 = .ok (.istore 6, 2) := by decide +kernel
theorem dX9_weigh_76 : decode cX9_weigh 76 = .ok (.iload 4, 2) := by decide +kernel
theorem dX9_weigh_78 : decode cX9_weigh 78 = .ok (.ifCond .ne 15, 3) := by decide +kernel
theorem dX9_weigh_81 : decode cX9_weigh 81 = .ok (.aload_n 0, 1) := by decide +kernel
theorem dX9_weigh_82 : decode cX9_weigh 82 = .ok (.getfield 33, 3) := by decide +kernel
theorem dX9_weigh_85 : decode cX9_weigh 85 = .ok (.getfield 284, 3) := by decide +kernel
theorem dX9_weigh_88 : decode cX9_weigh 88 = .ok (.iload_n 1, 1) := by decide +kernel
theorem dX9_weigh_89 : decode cX9_weigh 89 = .ok (.iaload, 1) := by decide +kernel
theorem dX9_weigh_90 : decode cX9_weigh 90 = .ok (.goto 4, 3) := by decide +kernel
theorem dX9_weigh_93 : decode cX9_weigh 93 = .ok (.iconst 0, 1) := by decide +kernel
theorem dX9_weigh_94 : decode cX9_weigh 94 = .ok (.istore 7, 2) := by decide +kernel
theorem dX9_weigh_96 : decode cX9_weigh 96 = .ok (.iload 5, 2) := by decide +kernel
theorem dX9_weigh_98 : decode cX9_weigh 98 = .ok (.invokestatic 287, 3) := by decide +kernel
theorem dX9_weigh_101 : decode cX9_weigh 101 = .ok (.iload 6, 2) := by decide +kernel
theorem dX9_weigh_103 : decode cX9_weigh 103 = .ok (.invokestatic 287, 3) := by decide +kernel
theorem dX9_weigh_106 : decode cX9_weigh 106 = .ok (.iadd, 1) := by decide +kernel
theorem dX9_weigh_107 : decode cX9_weigh 107 = .ok (.iload 7, 2) := by decide +kernel
theorem dX9_weigh_109 : decode cX9_weigh 109 = .ok (.iadd, 1) := by decide +kernel
theorem dX9_weigh_110 : decode cX9_weigh 110 = .ok (.istore 8, 2) := by decide +kernel
theorem dX9_weigh_112 : decode cX9_weigh 112 = .ok (.iload 8, 2) := by decide +kernel
theorem dX9_weigh_114 : decode cX9_weigh 114 = .ok (.ifCond .ne 6, 3) := by decide +kernel
theorem dX9_weigh_117 : decode cX9_weigh 117 = .ok (.bipush (-2), 2) := by decide +kernel
theorem dX9_weigh_119 : decode cX9_weigh 119 = .ok (.ireturn, 1) := by decide +kernel
theorem dX9_weigh_120 : decode cX9_weigh 120 = .ok (.aload_n 0, 1) := by decide +kernel
theorem dX9_weigh_121 : decode cX9_weigh 121 = .ok (.getfield 33, 3) := by decide +kernel
theorem dX9_weigh_124 : decode cX9_weigh 124 = .ok (.getfield 292, 3) := by decide +kernel
theorem dX9_weigh_127 : decode cX9_weigh 127 = .ok (.iload_n 1, 1) := by decide +kernel
theorem dX9_weigh_128 : decode cX9_weigh 128 = .ok (.iaload, 1) := by decide +kernel
theorem dX9_weigh_129 : decode cX9_weigh 129 = .ok (.bipush 20, 2) := by decide +kernel
theorem dX9_weigh_131 : decode cX9_weigh 131 = .ok (.if_icmp .lt 6, 3) := by decide +kernel
theorem dX9_weigh_134 : decode cX9_weigh 134 = .ok (.bipush (-3), 2) := by decide +kernel
theorem dX9_weigh_136 : decode cX9_weigh 136 = .ok (.ireturn, 1) := by decide +kernel
theorem dX9_weigh_137 : decode cX9_weigh 137 = .ok (.aload_n 0, 1) := by decide +kernel
theorem dX9_weigh_138 : decode cX9_weigh 138 = .ok (.getfield 40, 3) := by decide +kernel
theorem dX9_weigh_141 : decode cX9_weigh 141 = .ok (.iload_n 1, 1) := by decide +kernel
theorem dX9_weigh_142 : decode cX9_weigh 142 = .ok (.aload_n 0, 1) := by decide +kernel
theorem dX9_weigh_143 : decode cX9_weigh 143 = .ok (.getfield 33, 3) := by decide +kernel
theorem dX9_weigh_146 : decode cX9_weigh 146 = .ok (.invokevirtual 295, 3) := by decide +kernel
theorem dX9_weigh_149 : decode cX9_weigh 149 = .ok (.aload_n 0, 1) := by decide +kernel
theorem dX9_weigh_150 : decode cX9_weigh 150 = .ok (.getfield 33, 3) := by decide +kernel
theorem dX9_weigh_153 : decode cX9_weigh 153 = .ok (.iload_n 1, 1) := by decide +kernel
theorem dX9_weigh_154 : decode cX9_weigh 154 = .ok (.iload 5, 2) := by decide +kernel
theorem dX9_weigh_156 : decode cX9_weigh 156 = .ok (.iload 6, 2) := by decide +kernel
theorem dX9_weigh_158 : decode cX9_weigh 158 = .ok (.iload 7, 2) := by decide +kernel
theorem dX9_weigh_160 : decode cX9_weigh 160 = .ok (.invokevirtual 299, 3) := by decide +kernel
theorem dX9_weigh_163 : decode cX9_weigh 163 = .ok (.aload_n 0, 1) := by decide +kernel
theorem dX9_weigh_164 : decode cX9_weigh 164 = .ok (.getfield 33, 3) := by decide +kernel
theorem dX9_weigh_167 : decode cX9_weigh 167 = .ok (.getfield 292, 3) := by decide +kernel
theorem dX9_weigh_170 : decode cX9_weigh 170 = .ok (.iload_n 1, 1) := by decide +kernel
theorem dX9_weigh_171 : decode cX9_weigh 171 = .ok (.dup2, 1) := by decide +kernel
theorem dX9_weigh_172 : decode cX9_weigh 172 = .ok (.iaload, 1) := by decide +kernel
theorem dX9_weigh_173 : decode cX9_weigh 173 = .ok (.iconst 1, 1) := by decide +kernel
theorem dX9_weigh_174 : decode cX9_weigh 174 = .ok (.iadd, 1) := by decide +kernel
theorem dX9_weigh_175 : decode cX9_weigh 175 = .ok (.iastore, 1) := by decide +kernel
theorem dX9_weigh_176 : decode cX9_weigh 176 = .ok (.iload 8, 2) := by decide +kernel
theorem dX9_weigh_178 : decode cX9_weigh 178 = .ok (.ireturn, 1) := by decide +kernel
theorem dX9_hypothesisCount_0 : decode cX9_hypothesisCount 0 = .ok (.aload_n 0, 1) := by decide +kernel
theorem dX9_hypothesisCount_1 : decode cX9_hypothesisCount 1 = .ok (.iload_n 1, 1) := by decide +kernel
theorem dX9_hypothesisCount_2 : decode cX9_hypothesisCount 2 = .ok (.invokevirtual 265, 3) := by decide +kernel
theorem dX9_hypothesisCount_5 : decode cX9_hypothesisCount 5 = .ok (.ifCond .eq 14, 3) := by decide +kernel
theorem dX9_hypothesisCount_8 : decode cX9_hypothesisCount 8 = .ok (.aload_n 0, 1) := by decide +kernel
theorem dX9_hypothesisCount_9 : decode cX9_hypothesisCount 9 = .ok (.getfield 33, 3) := by decide +kernel
theorem dX9_hypothesisCount_12 : decode cX9_hypothesisCount 12 = .ok (.iload_n 1, 1) := by decide +kernel
theorem dX9_hypothesisCount_13 : decode cX9_hypothesisCount 13 = .ok (.invokevirtual 303, 3) := by decide +kernel
theorem dX9_hypothesisCount_16 : decode cX9_hypothesisCount 16 = .ok (.goto 4, 3) := by decide +kernel
theorem dX9_hypothesisCount_19 : decode cX9_hypothesisCount 19 = .ok (.iconst (-1), 1) := by decide +kernel
theorem dX9_hypothesisCount_20 : decode cX9_hypothesisCount 20 = .ok (.ireturn, 1) := by decide +kernel
theorem dX9_heavySuspects_0 : decode cX9_heavySuspects 0 = .ok (.aload_n 0, 1) := by decide +kernel
theorem dX9_heavySuspects_1 : decode cX9_heavySuspects 1 = .ok (.iload_n 1, 1) := by decide +kernel
theorem dX9_heavySuspects_2 : decode cX9_heavySuspects 2 = .ok (.invokevirtual 265, 3) := by decide +kernel
theorem dX9_heavySuspects_5 : decode cX9_heavySuspects 5 = .ok (.ifCond .eq 15, 3) := by decide +kernel
theorem dX9_heavySuspects_8 : decode cX9_heavySuspects 8 = .ok (.aload_n 0, 1) := by decide +kernel
theorem dX9_heavySuspects_9 : decode cX9_heavySuspects 9 = .ok (.getfield 33, 3) := by decide +kernel
theorem dX9_heavySuspects_12 : decode cX9_heavySuspects 12 = .ok (.getfield 275, 3) := by decide +kernel
theorem dX9_heavySuspects_15 : decode cX9_heavySuspects 15 = .ok (.iload_n 1, 1) := by decide +kernel
theorem dX9_heavySuspects_16 : decode cX9_heavySuspects 16 = .ok (.iaload, 1) := by decide +kernel
theorem dX9_heavySuspects_17 : decode cX9_heavySuspects 17 = .ok (.goto 4, 3) := by decide +kernel
theorem dX9_heavySuspects_20 : decode cX9_heavySuspects 20 = .ok (.iconst (-1), 1) := by decide +kernel
theorem dX9_heavySuspects_21 : decode cX9_heavySuspects 21 = .ok (.ireturn, 1) := by decide +kernel
theorem dX9_lightSuspects_0 : decode cX9_lightSuspects 0 = .ok (.aload_n 0, 1) := by decide +kernel
theorem dX9_lightSuspects_1 : decode cX9_lightSuspects 1 = .ok (.iload_n 1, 1) := by decide +kernel
theorem dX9_lightSuspects_2 : decode cX9_lightSuspects 2 = .ok (.invokevirtual 265, 3) := by decide +kernel
theorem dX9_lightSuspects_5 : decode cX9_lightSuspects 5 = .ok (.ifCond .eq 15, 3) := by decide +kernel
theorem dX9_lightSuspects_8 : decode cX9_lightSuspects 8 = .ok (.aload_n 0, 1) := by decide +kernel
theorem dX9_lightSuspects_9 : decode cX9_lightSuspects 9 = .ok (.getfield 33, 3) := by decide +kernel
theorem dX9_lightSuspects_12 : decode cX9_lightSuspects 12 = .ok (.getfield 281, 3) := by decide +kernel
theorem dX9_lightSuspects_15 : decode cX9_lightSuspects 15 = .ok (.iload_n 1, 1) := by decide +kernel
theorem dX9_lightSuspects_16 : decode cX9_lightSuspects 16 = .ok (.iaload, 1) := by decide +kernel
theorem dX9_lightSuspects_17 : decode cX9_lightSuspects 17 = .ok (.goto 4, 3) := by decide +kernel
theorem dX9_lightSuspects_20 : decode cX9_lightSuspects 20 = .ok (.iconst (-1), 1) := by decide +kernel
theorem dX9_lightSuspects_21 : decode cX9_lightSuspects 21 = .ok (.ireturn, 1) := by decide +kernel
theorem dX9_canBeGenuine_0 : decode cX9_canBeGenuine 0 = .ok (.aload_n 0, 1) := by decide +kernel
theorem dX9_canBeGenuine_1 : decode cX9_canBeGenuine 1 = .ok (.iload_n 1, 1) := by decide +kernel
theorem dX9_canBeGenuine_2 : decode cX9_canBeGenuine 2 = .ok (.invokevirtual 265, 3) := by decide +kernel
theorem dX9_canBeGenuine_5 : decode cX9_canBeGenuine 5 = .ok (.ifCond .eq 15, 3) := by decide +kernel
theorem dX9_canBeGenuine_8 : decode cX9_canBeGenuine 8 = .ok (.aload_n 0, 1) := by decide +kernel
theorem dX9_canBeGenuine_9 : decode cX9_canBeGenuine 9 = .ok (.getfield 33, 3) := by decide +kernel
theorem dX9_canBeGenuine_12 : decode cX9_canBeGenuine 12 = .ok (.getfield 284, 3) := by decide +kernel
theorem dX9_canBeGenuine_15 : decode cX9_canBeGenuine 15 = .ok (.iload_n 1, 1) := by decide +kernel
theorem dX9_canBeGenuine_16 : decode cX9_canBeGenuine 16 = .ok (.iaload, 1) := by decide +kernel
theorem dX9_canBeGenuine_17 : decode cX9_canBeGenuine 17 = .ok (.goto 4, 3) := by decide +kernel
theorem dX9_canBeGenuine_20 : decode cX9_canBeGenuine 20 = .ok (.iconst (-1), 1) := by decide +kernel
theorem dX9_canBeGenuine_21 : decode cX9_canBeGenuine 21 = .ok (.ireturn, 1) := by decide +kernel
theorem dX9_finding_0 : decode cX9_finding 0 = .ok (.aload_n 0, 1) := by decide +kernel
theorem dX9_finding_1 : decode cX9_finding 1 = .ok (.iload_n 1, 1) := by decide +kernel
theorem dX9_finding_2 : decode cX9_finding 2 = .ok (.invokevirtual 265, 3) := by decide +kernel
theorem dX9_finding_5 : decode cX9_finding 5 = .ok (.ifCond .eq 14, 3) := by decide +kernel
theorem dX9_finding_8 : decode cX9_finding 8 = .ok (.aload_n 0, 1) := by decide +kernel
theorem dX9_finding_9 : decode cX9_finding 9 = .ok (.getfield 33, 3) := by decide +kernel
theorem dX9_finding_12 : decode cX9_finding 12 = .ok (.iload_n 1, 1) := by decide +kernel
theorem dX9_finding_13 : decode cX9_finding 13 = .ok (.invokevirtual 306, 3) := by decide +kernel
theorem dX9_finding_16 : decode cX9_finding 16 = .ok (.goto 4, 3) := by decide +kernel
theorem dX9_finding_19 : decode cX9_finding 19 = .ok (.iconst (-1), 1) := by decide +kernel
theorem dX9_finding_20 : decode cX9_finding 20 = .ok (.ireturn, 1) := by decide +kernel
theorem dX9_weighingsNeeded_0 : decode cX9_weighingsNeeded 0 = .ok (.aload_n 0, 1) := by decide +kernel
theorem dX9_weighingsNeeded_1 : decode cX9_weighingsNeeded 1 = .ok (.iload_n 1, 1) := by decide +kernel
theorem dX9_weighingsNeeded_2 : decode cX9_weighingsNeeded 2 = .ok (.invokevirtual 265, 3) := by decide +kernel
theorem dX9_weighingsNeeded_5 : decode cX9_weighingsNeeded 5 = .ok (.ifCond .ne 5, 3) := by decide +kernel
theorem dX9_weighingsNeeded_8 : decode cX9_weighingsNeeded 8 = .ok (.iconst (-1), 1) := by decide +kernel
theorem dX9_weighingsNeeded_9 : decode cX9_weighingsNeeded 9 = .ok (.ireturn, 1) := by decide +kernel
theorem dX9_weighingsNeeded_10 : decode cX9_weighingsNeeded 10 = .ok (.aload_n 0, 1) := by decide +kernel
theorem dX9_weighingsNeeded_11 : decode cX9_weighingsNeeded 11 = .ok (.iload_n 1, 1) := by decide +kernel
theorem dX9_weighingsNeeded_12 : decode cX9_weighingsNeeded 12 = .ok (.invokevirtual 309, 3) := by decide +kernel
theorem dX9_weighingsNeeded_15 : decode cX9_weighingsNeeded 15 = .ok (.aload_n 0, 1) := by decide +kernel
theorem dX9_weighingsNeeded_16 : decode cX9_weighingsNeeded 16 = .ok (.getfield 64, 3) := by decide +kernel
theorem dX9_weighingsNeeded_19 : decode cX9_weighingsNeeded 19 = .ok (.invokevirtual 312, 3) := by decide +kernel
theorem dX9_weighingsNeeded_22 : decode cX9_weighingsNeeded 22 = .ok (.invokestatic 316, 3) := by decide +kernel
theorem dX9_weighingsNeeded_25 : decode cX9_weighingsNeeded 25 = .ok (.ireturn, 1) := by decide +kernel
theorem dX9_bestLeft_0 : decode cX9_bestLeft 0 = .ok (.aload_n 0, 1) := by decide +kernel
theorem dX9_bestLeft_1 : decode cX9_bestLeft 1 = .ok (.iload_n 1, 1) := by decide +kernel
theorem dX9_bestLeft_2 : decode cX9_bestLeft 2 = .ok (.invokevirtual 265, 3) := by decide +kernel
theorem dX9_bestLeft_5 : decode cX9_bestLeft 5 = .ok (.ifCond .ne 5, 3) := by decide +kernel
theorem dX9_bestLeft_8 : decode cX9_bestLeft 8 = .ok (.iconst (-1), 1) := by decide +kernel
theorem dX9_bestLeft_9 : decode cX9_bestLeft 9 = .ok (.ireturn, 1) := by decide +kernel
theorem dX9_bestLeft_10 : decode cX9_bestLeft 10 = .ok (.aload_n 0, 1) := by decide +kernel
theorem dX9_bestLeft_11 : decode cX9_bestLeft 11 = .ok (.iload_n 1, 1) := by decide +kernel
theorem dX9_bestLeft_12 : decode cX9_bestLeft 12 = .ok (.invokevirtual 309, 3) := by decide +kernel
theorem dX9_bestLeft_15 : decode cX9_bestLeft 15 = .ok (.aload_n 0, 1) := by decide +kernel
theorem dX9_bestLeft_16 : decode cX9_bestLeft 16 = .ok (.getfield 64, 3) := by decide +kernel
theorem dX9_bestLeft_19 : decode cX9_bestLeft 19 = .ok (.invokevirtual 319, 3) := by decide +kernel
theorem dX9_bestLeft_22 : decode cX9_bestLeft 22 = .ok (.istore_n 2, 1) := by decide +kernel
theorem dX9_bestLeft_23 : decode cX9_bestLeft 23 = .ok (.iload_n 2, 1) := by decide +kernel
theorem dX9_bestLeft_24 : decode cX9_bestLeft 24 = .ok (.ldc_w 322, 3) := by decide +kernel
theorem dX9_bestLeft_27 : decode cX9_bestLeft 27 = .ok (.if_icmp .ne 8, 3) := by decide +kernel
theorem dX9_bestLeft_30 : decode cX9_bestLeft 30 = .ok (.bipush (-2), 2) := by decide +kernel
theorem dX9_bestLeft_32 : decode cX9_bestLeft 32 = .ok (.goto 7, 3) := by decide +kernel
theorem dX9_bestLeft_35 : decode cX9_bestLeft 35 = .ok (.iload_n 2, 1) := by decide +kernel
theorem dX9_bestLeft_36 : decode cX9_bestLeft 36 = .ok (.invokestatic 323, 3) := by decide +kernel
theorem dX9_bestLeft_39 : decode cX9_bestLeft 39 = .ok (.ireturn, 1) := by decide +kernel
theorem dX9_bestRight_0 : decode cX9_bestRight 0 = .ok (.aload_n 0, 1) := by decide +kernel
theorem dX9_bestRight_1 : decode cX9_bestRight 1 = .ok (.iload_n 1, 1) := by decide +kernel
theorem dX9_bestRight_2 : decode cX9_bestRight 2 = .ok (.invokevirtual 265, 3) := by decide +kernel
theorem dX9_bestRight_5 : decode cX9_bestRight 5 = .ok (.ifCond .ne 5, 3) := by decide +kernel
theorem dX9_bestRight_8 : decode cX9_bestRight 8 = .ok (.iconst (-1), 1) := by decide +kernel
theorem dX9_bestRight_9 : decode cX9_bestRight 9 = .ok (.ireturn, 1) := by decide +kernel
theorem dX9_bestRight_10 : decode cX9_bestRight 10 = .ok (.aload_n 0, 1) := by decide +kernel
theorem dX9_bestRight_11 : decode cX9_bestRight 11 = .ok (.iload_n 1, 1) := by decide +kernel
theorem dX9_bestRight_12 : decode cX9_bestRight 12 = .ok (.invokevirtual 309, 3) := by decide +kernel
theorem dX9_bestRight_15 : decode cX9_bestRight 15 = .ok (.aload_n 0, 1) := by decide +kernel
theorem dX9_bestRight_16 : decode cX9_bestRight 16 = .ok (.getfield 64, 3) := by decide +kernel
theorem dX9_bestRight_19 : decode cX9_bestRight 19 = .ok (.invokevirtual 319, 3) := by decide +kernel
theorem dX9_bestRight_22 : decode cX9_bestRight 22 = .ok (.istore_n 2, 1) := by decide +kernel
theorem dX9_bestRight_23 : decode cX9_bestRight 23 = .ok (.iload_n 2, 1) := by decide +kernel
theorem dX9_bestRight_24 : decode cX9_bestRight 24 = .ok (.ldc_w 322, 3) := by decide +kernel
theorem dX9_bestRight_27 : decode cX9_bestRight 27 = .ok (.if_icmp .ne 8, 3) := by decide +kernel
theorem dX9_bestRight_30 : decode cX9_bestRight 30 = .ok (.bipush (-2), 2) := by decide +kernel
theorem dX9_bestRight_32 : decode cX9_bestRight 32 = .ok (.goto 7, 3) := by decide +kernel
theorem dX9_bestRight_35 : decode cX9_bestRight 35 = .ok (.iload_n 2, 1) := by decide +kernel
theorem dX9_bestRight_36 : decode cX9_bestRight 36 = .ok (.invokestatic 326, 3) := by decide +kernel
theorem dX9_bestRight_39 : decode cX9_bestRight 39 = .ok (.ireturn, 1) := by decide +kernel
theorem dX9_fewestWeighings_0 : decode cX9_fewestWeighings 0 = .ok (.iload_n 1, 1) := by decide +kernel
theorem dX9_fewestWeighings_1 : decode cX9_fewestWeighings 1 = .ok (.iconst 2, 1) := by decide +kernel
theorem dX9_fewestWeighings_2 : decode cX9_fewestWeighings 2 = .ok (.if_icmp .lt 9, 3) := by decide +kernel
theorem dX9_fewestWeighings_5 : decode cX9_fewestWeighings 5 = .ok (.iload_n 1, 1) := by decide +kernel
theorem dX9_fewestWeighings_6 : decode cX9_fewestWeighings 6 = .ok (.bipush 12, 2) := by decide +kernel
theorem dX9_fewestWeighings_8 : decode cX9_fewestWeighings 8 = .ok (.if_icmp .le 5, 3) := by decide +kernel
theorem dX9_fewestWeighings_11 : decode cX9_fewestWeighings 11 = .ok (.iconst (-1), 1) := by decide +kernel
theorem dX9_fewestWeighings_12 : decode cX9_fewestWeighings 12 = .ok (.ireturn, 1) := by decide +kernel
theorem dX9_fewestWeighings_13 : decode cX9_fewestWeighings 13 = .ok (.iconst 1, 1) := by decide +kernel
theorem dX9_fewestWeighings_14 : decode cX9_fewestWeighings 14 = .ok (.iload_n 1, 1) := by decide +kernel
theorem dX9_fewestWeighings_15 : decode cX9_fewestWeighings 15 = .ok (.ishl, 1) := by decide +kernel
theorem dX9_fewestWeighings_16 : decode cX9_fewestWeighings 16 = .ok (.iconst 1, 1) := by decide +kernel
theorem dX9_fewestWeighings_17 : decode cX9_fewestWeighings 17 = .ok (.isub, 1) := by decide +kernel
theorem dX9_fewestWeighings_18 : decode cX9_fewestWeighings 18 = .ok (.istore_n 3, 1) := by decide +kernel
theorem dX9_fewestWeighings_19 : decode cX9_fewestWeighings 19 = .ok (.aload_n 0, 1) := by decide +kernel
theorem dX9_fewestWeighings_20 : decode cX9_fewestWeighings 20 = .ok (.getfield 64, 3) := by decide +kernel
theorem dX9_fewestWeighings_23 : decode cX9_fewestWeighings 23 = .ok (.iload_n 1, 1) := by decide +kernel
theorem dX9_fewestWeighings_24 : decode cX9_fewestWeighings 24 = .ok (.iload_n 3, 1) := by decide +kernel
theorem dX9_fewestWeighings_25 : decode cX9_fewestWeighings 25 = .ok (.iload_n 3, 1) := by decide +kernel
theorem dX9_fewestWeighings_26 : decode cX9_fewestWeighings 26 = .ok (.iload_n 2, 1) := by decide +kernel
theorem dX9_fewestWeighings_27 : decode cX9_fewestWeighings 27 = .ok (.ifCond .eq 7, 3) := by decide +kernel
theorem dX9_fewestWeighings_30 : decode cX9_fewestWeighings 30 = .ok (.iconst 1, 1) := by decide +kernel
theorem dX9_fewestWeighings_31 : decode cX9_fewestWeighings 31 = .ok (.goto 4, 3) := by decide +kernel
theorem dX9_fewestWeighings_34 : decode cX9_fewestWeighings 34 = .ok (.iconst 0, 1) := by decide +kernel
theorem dX9_fewestWeighings_35 : decode cX9_fewestWeighings 35 = .ok (.invokevirtual 329, 3) := by decide +kernel
theorem dX9_fewestWeighings_38 : decode cX9_fewestWeighings 38 = .ok (.aload_n 0, 1) := by decide +kernel
theorem dX9_fewestWeighings_39 : decode cX9_fewestWeighings 39 = .ok (.getfield 64, 3) := by decide +kernel
theorem dX9_fewestWeighings_42 : decode cX9_fewestWeighings 42 = .ok (.invokevirtual 312, 3) := by decide +kernel
theorem dX9_fewestWeighings_45 : decode cX9_fewestWeighings 45 = .ok (.invokestatic 316, 3) := by decide +kernel
theorem dX9_fewestWeighings_48 : decode cX9_fewestWeighings 48 = .ok (.ireturn, 1) := by decide +kernel
def f_X9_isWeighing_h71 (F : Nat) (t0 : Int32) (S : si_St) : Option (Int32 × si_St) :=
  Option.bind (si_bz t0) fun v1 => some (v1, S)
def f_X9_isWeighing_h70 (F : Nat) (S : si_St) : Option (Int32 × si_St) :=
  f_X9_isWeighing_h71 F 0 S
def f_X9_isWeighing_h46 (F : Nat) (x1 : Int32) (x3 : Int32) (x4 : Int32) (t0 : Int32) (S : si_St) : Option (Int32 × si_St) :=
  if x3 = 0 then (f_X9_isWeighing_h70 F S) else (if x4 = 0 then (f_X9_isWeighing_h70 F S) else (if t0 = 0 then (f_X9_isWeighing_h70 F S) else (if x1 = 0 then (f_X9_isWeighing_h70 F S) else (f_X9_isWeighing_h71 F 1 S))))
def f_X9_isWeighing_h28 (F : Nat) (x1 : Int32) (x2 : Int32) (x3 : Int32) (t0 : Int32) (S : si_St) : Option (Int32 × si_St) :=
  Option.bind (f_J6_bitCount_0f7a4 F x1 S) fun q2 => Option.bind (f_J6_bitCount_0f7a4 F x2 q2.2) fun q3 => if q2.1 = q3.1 then (f_X9_isWeighing_h46 F x1 x3 t0 1 q3.2) else (f_X9_isWeighing_h46 F x1 x3 t0 0 q3.2)
def f_X9_isWeighing_h16 (F : Nat) (x1 : Int32) (x2 : Int32) (t0 : Int32) (S : si_St) : Option (Int32 × si_St) :=
  if (x1 &&& x2) = 0 then (f_X9_isWeighing_h28 F x1 x2 t0 1 S) else (f_X9_isWeighing_h28 F x1 x2 t0 0 S)
def f_X9_isWeighing (F : Nat) (x0 : Int32) (x1 : Int32) (x2 : Int32) (S : si_St) : Option (Int32 × si_St) :=
  if ((x1 ||| x2) &&& (-(1 <<< (x0 &&& 31)))) = 0 then (f_X9_isWeighing_h16 F x1 x2 1 S) else (f_X9_isWeighing_h16 F x1 x2 0 S)
def f_X9_orNone_h12 (F : Nat) (t0 : Int32) (S : si_St) : Option (Int32 × si_St) :=
  some (t0, S)
def f_X9_orNone (F : Nat) (x0 : Int32) (S : si_St) : Option (Int32 × si_St) :=
  if x0 = 99 then (f_X9_orNone_h12 F (-2) S) else (f_X9_orNone_h12 F x0 S)
def f_X9_hasSet_h20 (F : Nat) (t0 : Int32) (S : si_St) : Option (Int32 × si_St) :=
  Option.bind (si_bz t0) fun v1 => some (v1, S)
def f_X9_hasSet_h19 (F : Nat) (S : si_St) : Option (Int32 × si_St) :=
  f_X9_hasSet_h20 F 0 S
def f_X9_hasSet (F : Nat) (x1 : Int32) (S : si_St) : Option (Int32 × si_St) :=
  if x1 < 0 then (f_X9_hasSet_h19 F S) else (Option.bind (si_mk S 0 2) fun k92 => if (S.1 k92 3) ≤ x1 then (f_X9_hasSet_h19 F S) else (f_X9_hasSet_h20 F 1 S))
def f_X9_chooseSet (F : Nat) (x1 : Int32) (S : si_St) : Option (si_St) :=
  Option.bind (si_mk S 0 2) fun k91 => Option.bind (si_rd S (k91 + 6) x1) fun v2 => Option.bind (si_rd S 17 x1) fun v3 => Option.bind (si_rd S 18 x1) fun v4 => Option.bind (si_rd S 19 x1) fun v5 => Option.bind (f_X5_choose F v2 v3 v4 v5 S) fun S6 => some S6
def f_X9_append (F : Nat) (x1 : Int32) (x2 : Int32) (x3 : Int32) (x4 : Int32) (x5 : Int32) (S : si_St) : Option (Int32 × si_St) :=
  if ((S.1 1 1) + 20) ≤ 800 then (Option.bind (f_X3_addBytes F x1 S) fun S1 => Option.bind (f_X3_addBytes F x2 S1) fun S2 => Option.bind (f_X3_addBytes F x3 S2) fun S3 => Option.bind (f_X3_addBytes F x4 S3) fun S4 => Option.bind (f_X3_addBytes F x5 S4) fun S5 => some ((S5.1 1 1), S5)) else (some ((-3), S))
def f_X9_takeDraft (F : Nat) (S : si_St) : Option (si_St) :=
  Option.bind (si_mk S 0 2) fun k91 => Option.bind (si_mk S 1 2) fun k92 => Option.bind (si_pm S 0 k92) fun S3 => Option.bind (si_pm S3 1 k91) fun S4 => Option.bind (si_mk S4 0 2) fun k95 => Option.bind (f_X1_learn F k95 S4) fun S6 => Option.bind (si_pt S6 7 0 0) fun S7 => Option.bind (si_mk S7 0 2) fun k98 => Option.bind (f_X8_reset F k98 S7) fun S9 => Option.bind (f_X0_clear F S9) fun S10 => Option.bind (si_pz S10 27 2 0) fun S11 => Option.bind (si_pz S11 42 2 0) fun S12 => some S12
def f_X9_parse_h15 (F : Nat) (S : si_St) : Option (Int32 × si_St) :=
  some ((-1), S)
def f_X9_parse_h46 (F : Nat) (x2 : Int32) (S : si_St) : Option (Int32 × si_St) :=
  some (x2, S)
def f_X9_parse (F : Nat) (x1 : Int32) (S : si_St) : Option (Int32 × si_St) :=
  if x1 < 0 then (f_X9_parse_h15 F S) else (if x1 ≤ (S.1 1 1) then (Option.bind (si_mk S 1 2) fun k91 => Option.bind (f_X3_readMarket F k91 x1 S) fun q2 => Option.bind (si_pt q2.2 1 1 0) fun S3 => if q2.1 = 0 then (Option.bind (f_X9_takeDraft F S3) fun S4 => f_X9_parse_h46 F q2.1 S4) else (f_X9_parse_h46 F q2.1 S3)) else (f_X9_parse_h15 F S))
def f_X9_weigh_h25 (F : Nat) (S : si_St) : Option (Int32 × si_St) :=
  some ((-1), S)
def f_X9_weigh_h38 (F : Nat) (S : si_St) : Option (Int32 × si_St) :=
  some ((-1), S)
def f_X9_weigh_h94 (F : Nat) (x1 : Int32) (x5 : Int32) (x6 : Int32) (t0 : Int32) (S : si_St) : Option (Int32 × si_St) :=
  Option.bind (f_J6_bitCount_0f7a4 F x5 S) fun q1 => Option.bind (f_J6_bitCount_0f7a4 F x6 q1.2) fun q2 => Option.bind (some ((q1.1 + q2.1) + t0)) fun v3 => if v3 = 0 then (some ((-2), q2.2)) else (Option.bind (si_rd q2.2 20 x1) fun v4 => if v4 < 20 then (Option.bind (f_X0_addWeighing F x1 q2.2) fun S5 => Option.bind (f_X8_put F x1 x5 x6 t0 S5) fun S6 => Option.bind (si_rd S6 20 x1) fun v7 => Option.bind (si_wr S6 20 x1 (v7 + 1)) fun S8 => some (v3, S8)) else (some ((-3), q2.2)))
def f_X9_weigh (F : Nat) (x1 : Int32) (x2 : Int32) (x3 : Int32) (x4 : Int32) (S : si_St) : Option (Int32 × si_St) :=
  Option.bind (f_X9_hasSet F x1 S) fun q9 => if q9.1 = 0 then (f_X9_weigh_h25 F q9.2) else (Option.bind (si_mk q9.2 0 2) fun k910 => Option.bind (si_rd q9.2 (k910 + 6) x1) fun v11 => Option.bind (f_X9_isWeighing F v11 x2 x3 q9.2) fun q12 => if q12.1 = 0 then (f_X9_weigh_h25 F q12.2) else (if x4 < 0 then (f_X9_weigh_h38 F q12.2) else (if x4 ≤ 2 then (Option.bind (si_rd q12.2 17 x1) fun v13 => Option.bind (f_X8_suspectsAfter F v13 x2 x3 x4 q12.2) fun q14 => Option.bind (si_rd q14.2 18 x1) fun v15 => Option.bind (f_X8_suspectsAfter F v15 x3 x2 x4 q14.2) fun q16 => if x4 = 0 then (Option.bind (si_rd q16.2 19 x1) fun v17 => f_X9_weigh_h94 F x1 q14.1 q16.1 v17 q16.2) else (f_X9_weigh_h94 F x1 q14.1 q16.1 0 q16.2)) else (f_X9_weigh_h38 F q12.2))))
def f_X9_hypothesisCount_h20 (F : Nat) (t0 : Int32) (S : si_St) : Option (Int32 × si_St) :=
  some (t0, S)
def f_X9_hypothesisCount (F : Nat) (x1 : Int32) (S : si_St) : Option (Int32 × si_St) :=
  Option.bind (f_X9_hasSet F x1 S) fun q1 => if q1.1 = 0 then (f_X9_hypothesisCount_h20 F (-1) q1.2) else (Option.bind (f_X8_hypothesesOf F x1 q1.2) fun q2 => f_X9_hypothesisCount_h20 F q2.1 q2.2)
def f_X9_heavySuspects_h21 (F : Nat) (t0 : Int32) (S : si_St) : Option (Int32 × si_St) :=
  some (t0, S)
def f_X9_heavySuspects (F : Nat) (x1 : Int32) (S : si_St) : Option (Int32 × si_St) :=
  Option.bind (f_X9_hasSet F x1 S) fun q1 => if q1.1 = 0 then (f_X9_heavySuspects_h21 F (-1) q1.2) else (Option.bind (si_rd q1.2 17 x1) fun v2 => f_X9_heavySuspects_h21 F v2 q1.2)
def f_X9_lightSuspects_h21 (F : Nat) (t0 : Int32) (S : si_St) : Option (Int32 × si_St) :=
  some (t0, S)
def f_X9_lightSuspects (F : Nat) (x1 : Int32) (S : si_St) : Option (Int32 × si_St) :=
  Option.bind (f_X9_hasSet F x1 S) fun q1 => if q1.1 = 0 then (f_X9_lightSuspects_h21 F (-1) q1.2) else (Option.bind (si_rd q1.2 18 x1) fun v2 => f_X9_lightSuspects_h21 F v2 q1.2)
def f_X9_canBeGenuine_h21 (F : Nat) (t0 : Int32) (S : si_St) : Option (Int32 × si_St) :=
  some (t0, S)
def f_X9_canBeGenuine (F : Nat) (x1 : Int32) (S : si_St) : Option (Int32 × si_St) :=
  Option.bind (f_X9_hasSet F x1 S) fun q1 => if q1.1 = 0 then (f_X9_canBeGenuine_h21 F (-1) q1.2) else (Option.bind (si_rd q1.2 19 x1) fun v2 => f_X9_canBeGenuine_h21 F v2 q1.2)
def f_X9_finding_h20 (F : Nat) (t0 : Int32) (S : si_St) : Option (Int32 × si_St) :=
  some (t0, S)
def f_X9_finding (F : Nat) (x1 : Int32) (S : si_St) : Option (Int32 × si_St) :=
  Option.bind (f_X9_hasSet F x1 S) fun q1 => if q1.1 = 0 then (f_X9_finding_h20 F (-1) q1.2) else (Option.bind (f_X8_onlyHypothesis F x1 q1.2) fun q2 => f_X9_finding_h20 F q2.1 q2.2)
def f_X9_weighingsNeeded (F : Nat) (x1 : Int32) (S : si_St) : Option (Int32 × si_St) :=
  Option.bind (f_X9_hasSet F x1 S) fun q1 => if q1.1 = 0 then (some ((-1), q1.2)) else (Option.bind (f_X9_chooseSet F x1 q1.2) fun S2 => Option.bind (f_X5_needed F S2) fun q3 => Option.bind (f_X9_orNone F q3.1 q3.2) fun q4 => some (q4.1, q4.2))
def f_X9_bestLeft_h39 (F : Nat) (t0 : Int32) (S : si_St) : Option (Int32 × si_St) :=
  some (t0, S)
def f_X9_bestLeft (F : Nat) (x1 : Int32) (S : si_St) : Option (Int32 × si_St) :=
  Option.bind (f_X9_hasSet F x1 S) fun q1 => if q1.1 = 0 then (some ((-1), q1.2)) else (Option.bind (f_X9_chooseSet F x1 q1.2) fun S2 => Option.bind (f_X5_bestWeighing F S2) fun q3 => if q3.1 = 268435456 then (f_X9_bestLeft_h39 F (-2) q3.2) else (Option.bind (f_X5_leftPan F q3.1 q3.2) fun q4 => f_X9_bestLeft_h39 F q4.1 q4.2))
def f_X9_bestRight_h39 (F : Nat) (t0 : Int32) (S : si_St) : Option (Int32 × si_St) :=
  some (t0, S)
def f_X9_bestRight (F : Nat) (x1 : Int32) (S : si_St) : Option (Int32 × si_St) :=
  Option.bind (f_X9_hasSet F x1 S) fun q1 => if q1.1 = 0 then (some ((-1), q1.2)) else (Option.bind (f_X9_chooseSet F x1 q1.2) fun S2 => Option.bind (f_X5_bestWeighing F S2) fun q3 => if q3.1 = 268435456 then (f_X9_bestRight_h39 F (-2) q3.2) else (Option.bind (f_X5_rightPan F q3.1 q3.2) fun q4 => f_X9_bestRight_h39 F q4.1 q4.2))
def f_X9_fewestWeighings_h11 (F : Nat) (S : si_St) : Option (Int32 × si_St) :=
  some ((-1), S)
def f_X9_fewestWeighings_h35 (F : Nat) (t0 : Int32) (t1 : Int32) (t2 : Int32) (t3 : Int32) (S : si_St) : Option (Int32 × si_St) :=
  Option.bind (f_X5_choose F t3 t2 t1 t0 S) fun S1 => Option.bind (f_X5_needed F S1) fun q2 => Option.bind (f_X9_orNone F q2.1 q2.2) fun q3 => some (q3.1, q3.2)
def f_X9_fewestWeighings (F : Nat) (x1 : Int32) (x2 : Int32) (S : si_St) : Option (Int32 × si_St) :=
  if x1 < 2 then (f_X9_fewestWeighings_h11 F S) else (if x1 ≤ 12 then (Option.bind (some ((1 <<< (x1 &&& 31)) - 1)) fun v4 => if x2 = 0 then (f_X9_fewestWeighings_h35 F 0 v4 v4 x1 S) else (f_X9_fewestWeighings_h35 F 1 v4 v4 x1 S)) else (f_X9_fewestWeighings_h11 F S))
abbrev rm_X9_isWeighing : Room := { frames := 1, cells := 0, slots := 0, locals := 20 }
set_option maxHeartbeats 4000000 in
set_option maxRecDepth 100000 in
theorem c_X9_isWeighing (l : Launch) (E : si_Ev) (F : Nat) (x0 : Int32) (x1 : Int32) (x2 : Int32) (S : si_St) (o : Int32 × si_St) (hf : f_X9_isWeighing F x0 x1 x2 S = some o) : si_Mi l E yX9_isWeighing cX9_isWeighing 6 (some .boolean) rm_X9_isWeighing [.int x0, .int x1, .int x2] S o := by
  refine si_ofWz (plainFor_of_name (by decide +kernel)) (Nat.le_of_ble_eq_true rfl) ?_
  intro p e s m args below meth c ls Q A X hw hA hl hret
  have hl : lv_has ls 6 [(0, .int x0), (1, .int x1), (2, .int x2)] := hl
  have B71 : ∀ (t0 : Int32) (S : si_St) (H : Heap) (locs : List Loc) (ls : Array Slot), f_X9_isWeighing_h71 F t0 S = some o → si_Ws E A s.heap S H locs → lv_has ls 6 [] → W p l e rm_X9_isWeighing s m args below meth c H locs 0 0 Q (F0 m 71 ls [.int t0]) := by
    intro t0  S H locs ls hf hw hl
    unfold f_X9_isWeighing_h71 at hf
    obtain ⟨v1, ev1, hf⟩ := si_ob hf
    exact hret _ _ _ _ _ _ (si_bzf ev1 hf) (si_nz (si_bz_inv ev1).1) hw dX9_isWeighing_71
  have B70 : ∀ (S : si_St) (H : Heap) (locs : List Loc) (ls : Array Slot), f_X9_isWeighing_h70 F S = some o → si_Ws E A s.heap S H locs → lv_has ls 6 [] → W p l e rm_X9_isWeighing s m args below meth c H locs 0 0 Q (F0 m 70 ls []) := by
    intro   S H locs ls hf hw hl
    unfold f_X9_isWeighing_h70 at hf
    refine lv_iconst (v := 0) X.1 X.2.1 dX9_isWeighing_70 (by decide) ?_
    exact B71 _ _ _ _ _ hf hw (lv_sub hl [] rfl)
  have B46 : ∀ (x1 : Int32) (x3 : Int32) (x4 : Int32) (t0 : Int32) (S : si_St) (H : Heap) (locs : List Loc) (ls : Array Slot), f_X9_isWeighing_h46 F x1 x3 x4 t0 S = some o → si_Ws E A s.heap S H locs → lv_has ls 6 [(1, .int x1), (3, .int x3), (4, .int x4)] → W p l e rm_X9_isWeighing s m args below meth c H locs 0 0 Q (F0 m 46 ls [.int t0]) := by
    intro x1 x3 x4 t0  S H locs ls hf hw hl
    unfold f_X9_isWeighing_h46 at hf
    refine lv_istore (lv' := [(5, .int t0), (1, .int x1), (3, .int x3), (4, .int x4)]) X.1 X.2.1 dX9_isWeighing_46 hl (by decide) rfl (fun ls hl => ?_)
    refine lv_iload_n X.1 X.2.1 dX9_isWeighing_48 rfl (lv_at hl 2 rfl) ?_
    refine lv_if_eq (tgt := 70) X.1 X.2.1 dX9_isWeighing_49 (by decide) (fun c49 => ?_) (fun c49 => ?_)
    · have hf := si_ip c49 hf
      exact B70 _ _ _ _ hf hw (lv_sub hl [] rfl)
    · have hf := si_in c49 hf
      refine lv_iload X.1 X.2.1 dX9_isWeighing_52 (lv_at hl 3 rfl) ?_
      refine lv_if_eq (tgt := 70) X.1 X.2.1 dX9_isWeighing_54 (by decide) (fun c54 => ?_) (fun c54 => ?_)
      · have hf := si_ip c54 hf
        exact B70 _ _ _ _ hf hw (lv_sub hl [] rfl)
      · have hf := si_in c54 hf
        refine lv_iload X.1 X.2.1 dX9_isWeighing_57 (lv_at hl 0 rfl) ?_
        refine lv_if_eq (tgt := 70) X.1 X.2.1 dX9_isWeighing_59 (by decide) (fun c59 => ?_) (fun c59 => ?_)
        · have hf := si_ip c59 hf
          exact B70 _ _ _ _ hf hw (lv_sub hl [] rfl)
        · have hf := si_in c59 hf
          refine lv_iload_n X.1 X.2.1 dX9_isWeighing_62 rfl (lv_at hl 1 rfl) ?_
          refine lv_if_eq (tgt := 70) X.1 X.2.1 dX9_isWeighing_63 (by decide) (fun c63 => ?_) (fun c63 => ?_)
          · have hf := si_ip c63 hf
            exact B70 _ _ _ _ hf hw (lv_sub hl [] rfl)
          · have hf := si_in c63 hf
            refine lv_iconst (v := 1) X.1 X.2.1 dX9_isWeighing_66 (by decide) ?_
            refine lv_goto (tgt := 71) X.1 X.2.1 dX9_isWeighing_67 (by decide) ?_
            exact B71 _ _ _ _ _ hf hw (lv_sub hl [] rfl)
  have B28 : ∀ (x1 : Int32) (x2 : Int32) (x3 : Int32) (t0 : Int32) (S : si_St) (H : Heap) (locs : List Loc) (ls : Array Slot), f_X9_isWeighing_h28 F x1 x2 x3 t0 S = some o → si_Ws E A s.heap S H locs → lv_has ls 6 [(1, .int x1), (2, .int x2), (3, .int x3)] → W p l e rm_X9_isWeighing s m args below meth c H locs 0 0 Q (F0 m 28 ls [.int t0]) := by
    intro x1 x2 x3 t0  S H locs ls hf hw hl
    unfold f_X9_isWeighing_h28 at hf
    refine lv_istore (lv' := [(4, .int t0), (1, .int x1), (2, .int x2), (3, .int x3)]) X.1 X.2.1 dX9_isWeighing_28 hl (by decide) rfl (fun ls hl => ?_)
    refine lv_iload_n X.1 X.2.1 dX9_isWeighing_30 rfl (lv_at hl 1 rfl) ?_
    obtain ⟨q2, eq2, hf⟩ := si_ob hf
    refine si_cSi [.int x1] cal_J6_bitCount_0f7a4 gm_RX9_287 X hw hA hl.1 (c_J6_bitCount_0f7a4 l E F x1 S q2 eq2) ⟨⟨rfl, rfl⟩, Nat.le_of_ble_eq_true rfl, Nat.le_of_ble_eq_true rfl⟩ rfl rfl (Nat.le_of_ble_eq_true rfl) ⟨Nat.zero_le _, Nat.zero_le _⟩ dX9_isWeighing_31 (fun H locs hw => ?_)
    refine lv_iload_n X.1 X.2.1 dX9_isWeighing_34 rfl (lv_at hl 2 rfl) ?_
    obtain ⟨q3, eq3, hf⟩ := si_ob hf
    refine si_cSi [.int x2] cal_J6_bitCount_0f7a4 gm_RX9_287 X hw hA hl.1 (c_J6_bitCount_0f7a4 l E F x2 q2.2 q3 eq3) ⟨⟨rfl, rfl⟩, Nat.le_of_ble_eq_true rfl, Nat.le_of_ble_eq_true rfl⟩ rfl rfl (Nat.le_of_ble_eq_true rfl) ⟨Nat.zero_le _, Nat.zero_le _⟩ dX9_isWeighing_35 (fun H locs hw => ?_)
    refine lv_icmp_ne (tgt := 45) X.1 X.2.1 dX9_isWeighing_38 (by decide) (fun c38 => ?_) (fun c38 => ?_)
    · have hf := si_in c38 hf
      refine lv_iconst (v := 0) X.1 X.2.1 dX9_isWeighing_45 (by decide) ?_
      exact B46 _ _ _ _ _ _ _ _ hf hw (lv_sub hl [1, 3, 0] rfl)
    · have hf := si_ip c38 hf
      refine lv_iconst (v := 1) X.1 X.2.1 dX9_isWeighing_41 (by decide) ?_
      refine lv_goto (tgt := 46) X.1 X.2.1 dX9_isWeighing_42 (by decide) ?_
      exact B46 _ _ _ _ _ _ _ _ hf hw (lv_sub hl [1, 3, 0] rfl)
  have B16 : ∀ (x1 : Int32) (x2 : Int32) (t0 : Int32) (S : si_St) (H : Heap) (locs : List Loc) (ls : Array Slot), f_X9_isWeighing_h16 F x1 x2 t0 S = some o → si_Ws E A s.heap S H locs → lv_has ls 6 [(1, .int x1), (2, .int x2)] → W p l e rm_X9_isWeighing s m args below meth c H locs 0 0 Q (F0 m 16 ls [.int t0]) := by
    intro x1 x2 t0  S H locs ls hf hw hl
    unfold f_X9_isWeighing_h16 at hf
    refine lv_istore_n (lv' := [(3, .int t0), (1, .int x1), (2, .int x2)]) X.1 X.2.1 dX9_isWeighing_16 rfl hl (by decide) rfl (fun ls hl => ?_)
    refine lv_iload_n X.1 X.2.1 dX9_isWeighing_17 rfl (lv_at hl 1 rfl) ?_
    refine lv_iload_n X.1 X.2.1 dX9_isWeighing_18 rfl (lv_at hl 2 rfl) ?_
    refine lv_iand X.1 X.2.1 dX9_isWeighing_19 ?_
    refine lv_if_ne (tgt := 27) X.1 X.2.1 dX9_isWeighing_20 (by decide) (fun c20 => ?_) (fun c20 => ?_)
    · have hf := si_in c20 hf
      refine lv_iconst (v := 0) X.1 X.2.1 dX9_isWeighing_27 (by decide) ?_
      exact B28 _ _ _ _ _ _ _ _ hf hw (lv_sub hl [1, 2, 0] rfl)
    · have hf := si_ip c20 hf
      refine lv_iconst (v := 1) X.1 X.2.1 dX9_isWeighing_23 (by decide) ?_
      refine lv_goto (tgt := 28) X.1 X.2.1 dX9_isWeighing_24 (by decide) ?_
      exact B28 _ _ _ _ _ _ _ _ hf hw (lv_sub hl [1, 2, 0] rfl)
  unfold f_X9_isWeighing at hf
  refine lv_iload_n X.1 X.2.1 dX9_isWeighing_0 rfl (lv_at hl 1 rfl) ?_
  refine lv_iload_n X.1 X.2.1 dX9_isWeighing_1 rfl (lv_at hl 2 rfl) ?_
  refine lv_ior X.1 X.2.1 dX9_isWeighing_2 ?_
  refine lv_iconst (v := 1) X.1 X.2.1 dX9_isWeighing_3 (by decide) ?_
  refine lv_iload_n X.1 X.2.1 dX9_isWeighing_4 rfl (lv_at hl 0 rfl) ?_
  refine lv_ishl X.1 X.2.1 dX9_isWeighing_5 ?_
  refine lv_ineg X.1 X.2.1 dX9_isWeighing_6 ?_
  refine lv_iand X.1 X.2.1 dX9_isWeighing_7 ?_
  refine lv_if_ne (tgt := 15) X.1 X.2.1 dX9_isWeighing_8 (by decide) (fun c8 => ?_) (fun c8 => ?_)
  · have hf := si_in c8 hf
    refine lv_iconst (v := 0) X.1 X.2.1 dX9_isWeighing_15 (by decide) ?_
    exact B16 _ _ _ _ _ _ _ hf hw (lv_sub hl [1, 2] rfl)
  · have hf := si_ip c8 hf
    refine lv_iconst (v := 1) X.1 X.2.1 dX9_isWeighing_11 (by decide) ?_
    refine lv_goto (tgt := 16) X.1 X.2.1 dX9_isWeighing_12 (by decide) ?_
    exact B16 _ _ _ _ _ _ _ hf hw (lv_sub hl [1, 2] rfl)
abbrev rm_X9_orNone : Room := { frames := 0, cells := 0, slots := 0, locals := 0 }
set_option maxHeartbeats 4000000 in
set_option maxRecDepth 100000 in
theorem c_X9_orNone (l : Launch) (E : si_Ev) (F : Nat) (x0 : Int32) (S : si_St) (o : Int32 × si_St) (hf : f_X9_orNone F x0 S = some o) : si_Mi l E yX9_orNone cX9_orNone 1 (some .int) rm_X9_orNone [.int x0] S o := by
  refine si_ofWi (plainFor_of_name (by decide +kernel)) (Nat.le_of_ble_eq_true rfl) ?_
  intro p e s m args below meth c ls Q A X hw hA hl hret
  have hl : lv_has ls 1 [(0, .int x0)] := hl
  have B12 : ∀ (t0 : Int32) (S : si_St) (H : Heap) (locs : List Loc) (ls : Array Slot), f_X9_orNone_h12 F t0 S = some o → si_Ws E A s.heap S H locs → lv_has ls 1 [] → W p l e rm_X9_orNone s m args below meth c H locs 0 0 Q (F0 m 12 ls [.int t0]) := by
    intro t0  S H locs ls hf hw hl
    unfold f_X9_orNone_h12 at hf
    exact hret _ _ _ _ _ _ hf hw dX9_orNone_12
  unfold f_X9_orNone at hf
  refine lv_iload_n X.1 X.2.1 dX9_orNone_0 rfl (lv_at hl 0 rfl) ?_
  refine lv_bipush (v := 99) X.1 X.2.1 dX9_orNone_1 (by decide) ?_
  refine lv_icmp_ne (tgt := 11) X.1 X.2.1 dX9_orNone_3 (by decide) (fun c3 => ?_) (fun c3 => ?_)
  · have hf := si_in c3 hf
    refine lv_iload_n X.1 X.2.1 dX9_orNone_11 rfl (lv_at hl 0 rfl) ?_
    exact B12 _ _ _ _ _ hf hw (lv_sub hl [] rfl)
  · have hf := si_ip c3 hf
    refine lv_bipush (v := (-2)) X.1 X.2.1 dX9_orNone_6 (by decide) ?_
    refine lv_goto (tgt := 12) X.1 X.2.1 dX9_orNone_8 (by decide) ?_
    exact B12 _ _ _ _ _ hf hw (lv_sub hl [] rfl)
abbrev rm_X9_hasSet : Room := { frames := 0, cells := 0, slots := 0, locals := 0 }
set_option maxHeartbeats 4000000 in
set_option maxRecDepth 100000 in
theorem c_X9_hasSet (l : Launch) (E : si_Ev) (F : Nat) (x1 : Int32) (S : si_St) (o : Int32 × si_St) (hf : f_X9_hasSet F x1 S = some o) : si_Mi l E yX9_hasSet cX9_hasSet 2 (some .boolean) rm_X9_hasSet [.ref (E.2.1 0), .int x1] S o := by
  refine si_ofWz (plainFor_of_name (by decide +kernel)) (Nat.le_of_ble_eq_true rfl) ?_
  intro p e s m args below meth c ls Q A X hw hA hl hret
  have hl : lv_has ls 2 [(0, .ref (E.2.1 0)), (1, .int x1)] := hl
  have B20 : ∀ (t0 : Int32) (S : si_St) (H : Heap) (locs : List Loc) (ls : Array Slot), f_X9_hasSet_h20 F t0 S = some o → si_Ws E A s.heap S H locs → lv_has ls 2 [] → W p l e rm_X9_hasSet s m args below meth c H locs 0 0 Q (F0 m 20 ls [.int t0]) := by
    intro t0  S H locs ls hf hw hl
    unfold f_X9_hasSet_h20 at hf
    obtain ⟨v1, ev1, hf⟩ := si_ob hf
    exact hret _ _ _ _ _ _ (si_bzf ev1 hf) (si_nz (si_bz_inv ev1).1) hw dX9_hasSet_20
  have B19 : ∀ (S : si_St) (H : Heap) (locs : List Loc) (ls : Array Slot), f_X9_hasSet_h19 F S = some o → si_Ws E A s.heap S H locs → lv_has ls 2 [] → W p l e rm_X9_hasSet s m args below meth c H locs 0 0 Q (F0 m 19 ls []) := by
    intro   S H locs ls hf hw hl
    unfold f_X9_hasSet_h19 at hf
    refine lv_iconst (v := 0) X.1 X.2.1 dX9_hasSet_19 (by decide) ?_
    exact B20 _ _ _ _ _ hf hw (lv_sub hl [] rfl)
  unfold f_X9_hasSet at hf
  refine lv_iload_n X.1 X.2.1 dX9_hasSet_0 rfl (lv_at hl 1 rfl) ?_
  refine lv_if_lt (tgt := 19) X.1 X.2.1 dX9_hasSet_1 (by decide) (fun c1 => ?_) (fun c1 => ?_)
  · have hf := si_ip c1 hf
    exact B19 _ _ _ _ hf hw (lv_sub hl [] rfl)
  · have hf := si_in c1 hf
    refine lv_iload_n X.1 X.2.1 dX9_hasSet_4 rfl (lv_at hl 1 rfl) ?_
    refine lv_aload_n X.1 X.2.1 dX9_hasSet_5 rfl (lv_at hl 0 rfl) ?_
    obtain ⟨k92, ek92, hf⟩ := si_ob hf
    have hk92 := (si_mk_inv ek92).1
    refine si_gtM (d := 0) X hw si_cl9 9 (by decide) gf_RX9_71 rfl rfl rfl ek92 dX9_hasSet_6 ?_
    refine si_getI X hw si_cl2 3 (by decide) gf_RX9_122 rfl hk92 rfl dX9_hasSet_9 ?_
    refine lv_icmp_ge (tgt := 19) X.1 X.2.1 dX9_hasSet_12 (by decide) (fun c12 => ?_) (fun c12 => ?_)
    · have hf := si_ip c12 hf
      exact B19 _ _ _ _ hf hw (lv_sub hl [] rfl)
    · have hf := si_in c12 hf
      refine lv_iconst (v := 1) X.1 X.2.1 dX9_hasSet_15 (by decide) ?_
      refine lv_goto (tgt := 20) X.1 X.2.1 dX9_hasSet_16 (by decide) ?_
      exact B20 _ _ _ _ _ hf hw (lv_sub hl [] rfl)
abbrev rm_X9_chooseSet : Room := { frames := 5, cells := 0, slots := 0, locals := 123 }
set_option maxHeartbeats 4000000 in
set_option maxRecDepth 100000 in
theorem c_X9_chooseSet (l : Launch) (E : si_Ev) (F : Nat) (x1 : Int32) (S : si_St) (o : si_St) (hf : f_X9_chooseSet F x1 S = some o) : si_Mv l E yX9_chooseSet cX9_chooseSet 2 rm_X9_chooseSet [.ref (E.2.1 0), .int x1] S o := by
  refine si_ofWv (plainFor_of_name (by decide +kernel)) (Nat.le_of_ble_eq_true rfl) ?_
  intro p e s m args below meth c ls Q A X hw hA hl hret
  have hl : lv_has ls 2 [(0, .ref (E.2.1 0)), (1, .int x1)] := hl
  unfold f_X9_chooseSet at hf
  refine lv_aload_n X.1 X.2.1 dX9_chooseSet_0 rfl (lv_at hl 0 rfl) ?_
  refine si_getR (k' := 65) (d := 65) X hw si_cl9 8 (by decide) gf_RX9_64 rfl rfl rfl (by decide) rfl dX9_chooseSet_1 ?_
  refine lv_aload_n X.1 X.2.1 dX9_chooseSet_4 rfl (lv_at hl 0 rfl) ?_
  obtain ⟨k91, ek91, hf⟩ := si_ob hf
  have hk91 := (si_mk_inv ek91).1
  refine si_gtM (d := 0) X hw si_cl9 9 (by decide) gf_RX9_71 rfl rfl rfl ek91 dX9_chooseSet_5 ?_
  refine si_getR (k' := (k91 + 6)) (d := 6) X hw si_cl2 9 (by decide) gf_RX9_268 rfl hk91 rfl (by decide) rfl dX9_chooseSet_8 ?_
  refine lv_iload_n X.1 X.2.1 dX9_chooseSet_11 rfl (lv_at hl 1 rfl) ?_
  obtain ⟨v2, ev2, hf⟩ := si_ob hf
  refine si_iald X hw (sk_2_6 hk91) ev2 dX9_chooseSet_12 ?_
  refine lv_aload_n X.1 X.2.1 dX9_chooseSet_13 rfl (lv_at hl 0 rfl) ?_
  refine si_getR (k' := 16) (d := 16) X hw si_cl9 3 (by decide) gf_RX9_33 rfl rfl rfl (by decide) rfl dX9_chooseSet_14 ?_
  refine si_getR (k' := 17) (d := 1) X hw si_cl8 0 (by decide) gf_RX9_275 rfl rfl rfl (by decide) rfl dX9_chooseSet_17 ?_
  refine lv_iload_n X.1 X.2.1 dX9_chooseSet_20 rfl (lv_at hl 1 rfl) ?_
  obtain ⟨v3, ev3, hf⟩ := si_ob hf
  refine si_iald X hw rfl ev3 dX9_chooseSet_21 ?_
  refine lv_aload_n X.1 X.2.1 dX9_chooseSet_22 rfl (lv_at hl 0 rfl) ?_
  refine si_getR (k' := 16) (d := 16) X hw si_cl9 3 (by decide) gf_RX9_33 rfl rfl rfl (by decide) rfl dX9_chooseSet_23 ?_
  refine si_getR (k' := 18) (d := 2) X hw si_cl8 1 (by decide) gf_RX9_281 rfl rfl rfl (by decide) rfl dX9_chooseSet_26 ?_
  refine lv_iload_n X.1 X.2.1 dX9_chooseSet_29 rfl (lv_at hl 1 rfl) ?_
  obtain ⟨v4, ev4, hf⟩ := si_ob hf
  refine si_iald X hw rfl ev4 dX9_chooseSet_30 ?_
  refine lv_aload_n X.1 X.2.1 dX9_chooseSet_31 rfl (lv_at hl 0 rfl) ?_
  refine si_getR (k' := 16) (d := 16) X hw si_cl9 3 (by decide) gf_RX9_33 rfl rfl rfl (by decide) rfl dX9_chooseSet_32 ?_
  refine si_getR (k' := 19) (d := 3) X hw si_cl8 2 (by decide) gf_RX9_284 rfl rfl rfl (by decide) rfl dX9_chooseSet_35 ?_
  refine lv_iload_n X.1 X.2.1 dX9_chooseSet_38 rfl (lv_at hl 1 rfl) ?_
  obtain ⟨v5, ev5, hf⟩ := si_ob hf
  refine si_iald X hw rfl ev5 dX9_chooseSet_39 ?_
  obtain ⟨S6, eS6, hf⟩ := si_ob hf
  refine si_cVv [.int v2, .int v3, .int v4, .int v5] cal_X5_choose gm_RX9_329 X hw hA hl.1 (c_X5_choose l E F v2 v3 v4 v5 S S6 eS6) si_cl5 rfl ⟨⟨rfl, rfl⟩, Nat.le_of_ble_eq_true rfl, Nat.le_of_ble_eq_true rfl⟩ rfl rfl (Nat.le_of_ble_eq_true rfl) ⟨Nat.zero_le _, Nat.zero_le _⟩ dX9_chooseSet_40 (fun H locs hw => ?_)
  exact hret _ _ _ _ _ hf hw dX9_chooseSet_43
abbrev rm_X9_append : Room := { frames := 1, cells := 0, slots := 0, locals := 22 }
set_option maxHeartbeats 4000000 in
set_option maxRecDepth 100000 in
theorem c_X9_append (l : Launch) (E : si_Ev) (F : Nat) (x1 : Int32) (x2 : Int32) (x3 : Int32) (x4 : Int32) (x5 : Int32) (S : si_St) (o : Int32 × si_St) (hf : f_X9_append F x1 x2 x3 x4 x5 S = some o) : si_Mi l E yX9_append cX9_append 6 (some .int) rm_X9_append [.ref (E.2.1 0), .int x1, .int x2, .int x3, .int x4, .int x5] S o := by
  refine si_ofWi (plainFor_of_name (by decide +kernel)) (Nat.le_of_ble_eq_true rfl) ?_
  intro p e s m args below meth c ls Q A X hw hA hl hret
  have hl : lv_has ls 6 [(0, .ref (E.2.1 0)), (1, .int x1), (2, .int x2), (3, .int x3), (4, .int x4), (5, .int x5)] := hl
  unfold f_X9_append at hf
  refine lv_aload_n X.1 X.2.1 dX9_append_0 rfl (lv_at hl 0 rfl) ?_
  refine si_getR (k' := 1) (d := 1) X hw si_cl9 0 (by decide) gf_RX9_10 rfl rfl rfl (by decide) rfl dX9_append_1 ?_
  refine si_getI X hw si_cl3 1 (by decide) gf_RX9_78 rfl rfl rfl dX9_append_4 ?_
  refine lv_bipush (v := 20) X.1 X.2.1 dX9_append_7 (by decide) ?_
  refine lv_iadd X.1 X.2.1 dX9_append_9 ?_
  refine lv_sipush (v := 800) X.1 X.2.1 dX9_append_10 (by decide) ?_
  refine lv_icmp_le (tgt := 19) X.1 X.2.1 dX9_append_13 (by decide) (fun c13 => ?_) (fun c13 => ?_)
  · have hf := si_ip c13 hf
    refine lv_aload_n X.1 X.2.1 dX9_append_19 rfl (lv_at hl 0 rfl) ?_
    refine si_getR (k' := 1) (d := 1) X hw si_cl9 0 (by decide) gf_RX9_10 rfl rfl rfl (by decide) rfl dX9_append_20 ?_
    refine lv_iload_n X.1 X.2.1 dX9_append_23 rfl (lv_at hl 1 rfl) ?_
    obtain ⟨S1, eS1, hf⟩ := si_ob hf
    refine si_cVv [.int x1] cal_X3_addBytes gm_RX9_82 X hw hA hl.1 (c_X3_addBytes l E F x1 S S1 eS1) si_cl3 rfl ⟨⟨rfl, rfl⟩, Nat.le_of_ble_eq_true rfl, Nat.le_of_ble_eq_true rfl⟩ rfl rfl (Nat.le_of_ble_eq_true rfl) ⟨Nat.zero_le _, Nat.zero_le _⟩ dX9_append_24 (fun H locs hw => ?_)
    refine lv_aload_n X.1 X.2.1 dX9_append_27 rfl (lv_at hl 0 rfl) ?_
    refine si_getR (k' := 1) (d := 1) X hw si_cl9 0 (by decide) gf_RX9_10 rfl rfl rfl (by decide) rfl dX9_append_28 ?_
    refine lv_iload_n X.1 X.2.1 dX9_append_31 rfl (lv_at hl 2 rfl) ?_
    obtain ⟨S2, eS2, hf⟩ := si_ob hf
    refine si_cVv [.int x2] cal_X3_addBytes gm_RX9_82 X hw hA hl.1 (c_X3_addBytes l E F x2 S1 S2 eS2) si_cl3 rfl ⟨⟨rfl, rfl⟩, Nat.le_of_ble_eq_true rfl, Nat.le_of_ble_eq_true rfl⟩ rfl rfl (Nat.le_of_ble_eq_true rfl) ⟨Nat.zero_le _, Nat.zero_le _⟩ dX9_append_32 (fun H locs hw => ?_)
    refine lv_aload_n X.1 X.2.1 dX9_append_35 rfl (lv_at hl 0 rfl) ?_
    refine si_getR (k' := 1) (d := 1) X hw si_cl9 0 (by decide) gf_RX9_10 rfl rfl rfl (by decide) rfl dX9_append_36 ?_
    refine lv_iload_n X.1 X.2.1 dX9_append_39 rfl (lv_at hl 3 rfl) ?_
    obtain ⟨S3, eS3, hf⟩ := si_ob hf
    refine si_cVv [.int x3] cal_X3_addBytes gm_RX9_82 X hw hA hl.1 (c_X3_addBytes l E F x3 S2 S3 eS3) si_cl3 rfl ⟨⟨rfl, rfl⟩, Nat.le_of_ble_eq_true rfl, Nat.le_of_ble_eq_true rfl⟩ rfl rfl (Nat.le_of_ble_eq_true rfl) ⟨Nat.zero_le _, Nat.zero_le _⟩ dX9_append_40 (fun H locs hw => ?_)
    refine lv_aload_n X.1 X.2.1 dX9_append_43 rfl (lv_at hl 0 rfl) ?_
    refine si_getR (k' := 1) (d := 1) X hw si_cl9 0 (by decide) gf_RX9_10 rfl rfl rfl (by decide) rfl dX9_append_44 ?_
    refine lv_iload X.1 X.2.1 dX9_append_47 (lv_at hl 4 rfl) ?_
    obtain ⟨S4, eS4, hf⟩ := si_ob hf
    refine si_cVv [.int x4] cal_X3_addBytes gm_RX9_82 X hw hA hl.1 (c_X3_addBytes l E F x4 S3 S4 eS4) si_cl3 rfl ⟨⟨rfl, rfl⟩, Nat.le_of_ble_eq_true rfl, Nat.le_of_ble_eq_true rfl⟩ rfl rfl (Nat.le_of_ble_eq_true rfl) ⟨Nat.zero_le _, Nat.zero_le _⟩ dX9_append_49 (fun H locs hw => ?_)
    refine lv_aload_n X.1 X.2.1 dX9_append_52 rfl (lv_at hl 0 rfl) ?_
    refine si_getR (k' := 1) (d := 1) X hw si_cl9 0 (by decide) gf_RX9_10 rfl rfl rfl (by decide) rfl dX9_append_53 ?_
    refine lv_iload X.1 X.2.1 dX9_append_56 (lv_at hl 5 rfl) ?_
    obtain ⟨S5, eS5, hf⟩ := si_ob hf
    refine si_cVv [.int x5] cal_X3_addBytes gm_RX9_82 X hw hA hl.1 (c_X3_addBytes l E F x5 S4 S5 eS5) si_cl3 rfl ⟨⟨rfl, rfl⟩, Nat.le_of_ble_eq_true rfl, Nat.le_of_ble_eq_true rfl⟩ rfl rfl (Nat.le_of_ble_eq_true rfl) ⟨Nat.zero_le _, Nat.zero_le _⟩ dX9_append_58 (fun H locs hw => ?_)
    refine lv_aload_n X.1 X.2.1 dX9_append_61 rfl (lv_at hl 0 rfl) ?_
    refine si_getR (k' := 1) (d := 1) X hw si_cl9 0 (by decide) gf_RX9_10 rfl rfl rfl (by decide) rfl dX9_append_62 ?_
    refine si_getI X hw si_cl3 1 (by decide) gf_RX9_78 rfl rfl rfl dX9_append_65 ?_
    exact hret _ _ _ _ _ _ hf hw dX9_append_68
  · have hf := si_in c13 hf
    refine lv_bipush (v := (-3)) X.1 X.2.1 dX9_append_16 (by decide) ?_
    exact hret _ _ _ _ _ _ hf hw dX9_append_18
abbrev rm_X9_takeDraft : Room := { frames := 3, cells := 0, slots := 0, locals := 85 }
set_option maxHeartbeats 4000000 in
set_option maxRecDepth 100000 in
theorem c_X9_takeDraft (l : Launch) (E : si_Ev) (F : Nat) (S : si_St) (o : si_St) (hf : f_X9_takeDraft F S = some o) : si_Mv l E yX9_takeDraft cX9_takeDraft 2 rm_X9_takeDraft [.ref (E.2.1 0)] S o := by
  refine si_ofWv (plainFor_of_name (by decide +kernel)) (Nat.le_of_ble_eq_true rfl) ?_
  intro p e s m args below meth c ls Q A X hw hA hl hret
  have hl : lv_has ls 2 [(0, .ref (E.2.1 0))] := hl
  unfold f_X9_takeDraft at hf
  refine lv_aload_n X.1 X.2.1 dX9_takeDraft_0 rfl (lv_at hl 0 rfl) ?_
  obtain ⟨k91, ek91, hf⟩ := si_ob hf
  have hk91 := (si_mk_inv ek91).1
  refine si_gtM (d := 0) X hw si_cl9 9 (by decide) gf_RX9_71 rfl rfl rfl ek91 dX9_takeDraft_1 ?_
  refine lv_astore_n (lv' := [(1, .ref (E.2.1 k91)), (0, .ref (E.2.1 0))]) X.1 X.2.1 dX9_takeDraft_4 rfl hl (by decide) rfl (fun ls hl => ?_)
  refine lv_aload_n X.1 X.2.1 dX9_takeDraft_5 rfl (lv_at hl 1 rfl) ?_
  refine lv_aload_n X.1 X.2.1 dX9_takeDraft_6 rfl (lv_at hl 1 rfl) ?_
  obtain ⟨k92, ek92, hf⟩ := si_ob hf
  have hk92 := (si_mk_inv ek92).1
  refine si_gtM (d := 1) X hw si_cl9 10 (by decide) gf_RX9_75 rfl rfl rfl ek92 dX9_takeDraft_7 ?_
  obtain ⟨S3, eS3, hf⟩ := si_ob hf
  refine si_ptM (d := 0) (by decide) X hw si_cl9 9 (by decide) gf_RX9_71 rfl rfl rfl si_hu9 rfl eS3 dX9_takeDraft_10 (fun H locs hw => ?_)
  refine lv_aload_n X.1 X.2.1 dX9_takeDraft_13 rfl (lv_at hl 1 rfl) ?_
  refine lv_aload_n X.1 X.2.1 dX9_takeDraft_14 rfl (lv_at hl 0 rfl) ?_
  obtain ⟨S4, eS4, hf⟩ := si_ob hf
  refine si_ptM (d := 1) (by decide) X hw si_cl9 10 (by decide) gf_RX9_75 rfl rfl rfl si_hu10 rfl eS4 dX9_takeDraft_15 (fun H locs hw => ?_)
  refine lv_aload_n X.1 X.2.1 dX9_takeDraft_18 rfl (lv_at hl 1 rfl) ?_
  refine si_getR (k' := 3) (d := 3) X hw si_cl9 1 (by decide) gf_RX9_19 rfl rfl rfl (by decide) rfl dX9_takeDraft_19 ?_
  refine lv_aload_n X.1 X.2.1 dX9_takeDraft_22 rfl (lv_at hl 1 rfl) ?_
  obtain ⟨k95, ek95, hf⟩ := si_ob hf
  have hk95 := (si_mk_inv ek95).1
  refine si_gtM (d := 0) X hw si_cl9 9 (by decide) gf_RX9_71 rfl rfl rfl ek95 dX9_takeDraft_23 ?_
  obtain ⟨S6, eS6, hf⟩ := si_ob hf
  refine si_cVv [.ref (E.2.1 k95)] cal_X1_learn gm_RX9_93 X hw hA hl.1 (c_X1_learn l E F k95 hk95 S4 S6 eS6) si_cl1 rfl ⟨⟨rfl, rfl⟩, Nat.le_of_ble_eq_true rfl, Nat.le_of_ble_eq_true rfl⟩ rfl rfl (Nat.le_of_ble_eq_true rfl) ⟨Nat.zero_le _, Nat.zero_le _⟩ dX9_takeDraft_26 (fun H locs hw => ?_)
  refine lv_aload_n X.1 X.2.1 dX9_takeDraft_29 rfl (lv_at hl 1 rfl) ?_
  refine si_getR (k' := 7) (d := 7) X hw si_cl9 2 (by decide) gf_RX9_26 rfl rfl rfl (by decide) rfl dX9_takeDraft_30 ?_
  refine lv_iconst (v := 0) X.1 X.2.1 dX9_takeDraft_33 (by decide) ?_
  obtain ⟨S7, eS7, hf⟩ := si_ob hf
  refine si_ptI X hw si_cl7 0 (by decide) gf_RX9_97 rfl rfl rfl rfl rfl eS7 dX9_takeDraft_34 (fun H locs hw => ?_)
  refine lv_aload_n X.1 X.2.1 dX9_takeDraft_37 rfl (lv_at hl 1 rfl) ?_
  refine si_getR (k' := 16) (d := 16) X hw si_cl9 3 (by decide) gf_RX9_33 rfl rfl rfl (by decide) rfl dX9_takeDraft_38 ?_
  refine lv_aload_n X.1 X.2.1 dX9_takeDraft_41 rfl (lv_at hl 1 rfl) ?_
  obtain ⟨k98, ek98, hf⟩ := si_ob hf
  have hk98 := (si_mk_inv ek98).1
  refine si_gtM (d := 0) X hw si_cl9 9 (by decide) gf_RX9_71 rfl rfl rfl ek98 dX9_takeDraft_42 ?_
  obtain ⟨S9, eS9, hf⟩ := si_ob hf
  refine si_cVv [.ref (E.2.1 k98)] cal_X8_reset gm_RX9_100 X hw hA hl.1 (c_X8_reset l E F k98 hk98 S7 S9 eS9) si_cl8 rfl ⟨⟨rfl, rfl⟩, Nat.le_of_ble_eq_true rfl, Nat.le_of_ble_eq_true rfl⟩ rfl rfl (Nat.le_of_ble_eq_true rfl) ⟨Nat.zero_le _, Nat.zero_le _⟩ dX9_takeDraft_45 (fun H locs hw => ?_)
  refine lv_aload_n X.1 X.2.1 dX9_takeDraft_48 rfl (lv_at hl 1 rfl) ?_
  refine si_getR (k' := 21) (d := 21) X hw si_cl9 4 (by decide) gf_RX9_40 rfl rfl rfl (by decide) rfl dX9_takeDraft_49 ?_
  obtain ⟨S10, eS10, hf⟩ := si_ob hf
  refine si_cVv [] cal_X0_clear gm_RX9_103 X hw hA hl.1 (c_X0_clear l E F S9 S10 eS10) si_cl0 rfl ⟨⟨rfl, rfl⟩, Nat.le_of_ble_eq_true rfl, Nat.le_of_ble_eq_true rfl⟩ rfl rfl (Nat.le_of_ble_eq_true rfl) ⟨Nat.zero_le _, Nat.zero_le _⟩ dX9_takeDraft_52 (fun H locs hw => ?_)
  refine lv_aload_n X.1 X.2.1 dX9_takeDraft_55 rfl (lv_at hl 1 rfl) ?_
  refine si_getR (k' := 27) (d := 27) X hw si_cl9 5 (by decide) gf_RX9_47 rfl rfl rfl (by decide) rfl dX9_takeDraft_56 ?_
  refine lv_iconst (v := 0) X.1 X.2.1 dX9_takeDraft_59 (by decide) ?_
  obtain ⟨S11, eS11, hf⟩ := si_ob hf
  refine si_ptZ X hw si_cl4 2 (by decide) gf_RX9_106 rfl rfl rfl rfl rfl eS11 dX9_takeDraft_60 (fun H locs hw => ?_)
  refine lv_aload_n X.1 X.2.1 dX9_takeDraft_63 rfl (lv_at hl 1 rfl) ?_
  refine si_getR (k' := 42) (d := 42) X hw si_cl9 6 (by decide) gf_RX9_51 rfl rfl rfl (by decide) rfl dX9_takeDraft_64 ?_
  refine lv_iconst (v := 0) X.1 X.2.1 dX9_takeDraft_67 (by decide) ?_
  obtain ⟨S12, eS12, hf⟩ := si_ob hf
  refine si_ptZ X hw si_cl4 2 (by decide) gf_RX9_106 rfl rfl rfl rfl rfl eS12 dX9_takeDraft_68 (fun H locs hw => ?_)
  exact hret _ _ _ _ _ hf hw dX9_takeDraft_71
abbrev rm_X9_parse : Room := { frames := 8, cells := 0, slots := 0, locals := 174 }
set_option maxHeartbeats 4000000 in
set_option maxRecDepth 100000 in
theorem c_X9_parse (l : Launch) (E : si_Ev) (F : Nat) (x1 : Int32) (S : si_St) (o : Int32 × si_St) (hf : f_X9_parse F x1 S = some o) : si_Mi l E yX9_parse cX9_parse 3 (some .int) rm_X9_parse [.ref (E.2.1 0), .int x1] S o := by
  refine si_ofWi (plainFor_of_name (by decide +kernel)) (Nat.le_of_ble_eq_true rfl) ?_
  intro p e s m args below meth c ls Q A X hw hA hl hret
  have hl : lv_has ls 3 [(0, .ref (E.2.1 0)), (1, .int x1)] := hl
  have B15 : ∀ (S : si_St) (H : Heap) (locs : List Loc) (ls : Array Slot), f_X9_parse_h15 F S = some o → si_Ws E A s.heap S H locs → lv_has ls 3 [] → W p l e rm_X9_parse s m args below meth c H locs 0 0 Q (F0 m 15 ls []) := by
    intro   S H locs ls hf hw hl
    unfold f_X9_parse_h15 at hf
    refine lv_iconst (v := (-1)) X.1 X.2.1 dX9_parse_15 (by decide) ?_
    exact hret _ _ _ _ _ _ hf hw dX9_parse_16
  have B46 : ∀ (x2 : Int32) (S : si_St) (H : Heap) (locs : List Loc) (ls : Array Slot), f_X9_parse_h46 F x2 S = some o → si_Ws E A s.heap S H locs → lv_has ls 3 [(2, .int x2)] → W p l e rm_X9_parse s m args below meth c H locs 0 0 Q (F0 m 46 ls []) := by
    intro x2  S H locs ls hf hw hl
    unfold f_X9_parse_h46 at hf
    refine lv_iload_n X.1 X.2.1 dX9_parse_46 rfl (lv_at hl 0 rfl) ?_
    exact hret _ _ _ _ _ _ hf hw dX9_parse_47
  unfold f_X9_parse at hf
  refine lv_iload_n X.1 X.2.1 dX9_parse_0 rfl (lv_at hl 1 rfl) ?_
  refine lv_if_lt (tgt := 15) X.1 X.2.1 dX9_parse_1 (by decide) (fun c1 => ?_) (fun c1 => ?_)
  · have hf := si_ip c1 hf
    exact B15 _ _ _ _ hf hw (lv_sub hl [] rfl)
  · have hf := si_in c1 hf
    refine lv_iload_n X.1 X.2.1 dX9_parse_4 rfl (lv_at hl 1 rfl) ?_
    refine lv_aload_n X.1 X.2.1 dX9_parse_5 rfl (lv_at hl 0 rfl) ?_
    refine si_getR (k' := 1) (d := 1) X hw si_cl9 0 (by decide) gf_RX9_10 rfl rfl rfl (by decide) rfl dX9_parse_6 ?_
    refine si_getI X hw si_cl3 1 (by decide) gf_RX9_78 rfl rfl rfl dX9_parse_9 ?_
    refine lv_icmp_le (tgt := 17) X.1 X.2.1 dX9_parse_12 (by decide) (fun c12 => ?_) (fun c12 => ?_)
    · have hf := si_ip c12 hf
      refine lv_aload_n X.1 X.2.1 dX9_parse_17 rfl (lv_at hl 0 rfl) ?_
      refine si_getR (k' := 1) (d := 1) X hw si_cl9 0 (by decide) gf_RX9_10 rfl rfl rfl (by decide) rfl dX9_parse_18 ?_
      refine lv_iload_n X.1 X.2.1 dX9_parse_21 rfl (lv_at hl 1 rfl) ?_
      refine lv_aload_n X.1 X.2.1 dX9_parse_22 rfl (lv_at hl 0 rfl) ?_
      obtain ⟨k91, ek91, hf⟩ := si_ob hf
      have hk91 := (si_mk_inv ek91).1
      refine si_gtM (d := 1) X hw si_cl9 10 (by decide) gf_RX9_75 rfl rfl rfl ek91 dX9_parse_23 ?_
      obtain ⟨q2, eq2, hf⟩ := si_ob hf
      refine si_cVi [.int x1, .ref (E.2.1 k91)] cal_X3_readMarket gm_RX9_86 X hw hA hl.1 (c_X3_readMarket l E F k91 hk91 x1 S q2 eq2) si_cl3 rfl ⟨⟨rfl, rfl⟩, Nat.le_of_ble_eq_true rfl, Nat.le_of_ble_eq_true rfl⟩ rfl rfl (Nat.le_of_ble_eq_true rfl) ⟨Nat.zero_le _, Nat.zero_le _⟩ dX9_parse_26 (fun H locs hw => ?_)
      refine lv_istore_n (lv' := [(2, .int q2.1), (0, .ref (E.2.1 0)), (1, .int x1)]) X.1 X.2.1 dX9_parse_29 rfl hl (by decide) rfl (fun ls hl => ?_)
      refine lv_aload_n X.1 X.2.1 dX9_parse_30 rfl (lv_at hl 1 rfl) ?_
      refine si_getR (k' := 1) (d := 1) X hw si_cl9 0 (by decide) gf_RX9_10 rfl rfl rfl (by decide) rfl dX9_parse_31 ?_
      refine lv_iconst (v := 0) X.1 X.2.1 dX9_parse_34 (by decide) ?_
      obtain ⟨S3, eS3, hf⟩ := si_ob hf
      refine si_ptI X hw si_cl3 1 (by decide) gf_RX9_78 rfl rfl rfl rfl rfl eS3 dX9_parse_35 (fun H locs hw => ?_)
      refine lv_iload_n X.1 X.2.1 dX9_parse_38 rfl (lv_at hl 0 rfl) ?_
      refine lv_if_ne (tgt := 46) X.1 X.2.1 dX9_parse_39 (by decide) (fun c39 => ?_) (fun c39 => ?_)
      · have hf := si_in c39 hf
        exact B46 _ _ _ _ _ hf hw (lv_sub hl [0] rfl)
      · have hf := si_ip c39 hf
        refine lv_aload_n X.1 X.2.1 dX9_parse_42 rfl (lv_at hl 1 rfl) ?_
        obtain ⟨S4, eS4, hf⟩ := si_ob hf
        refine si_cVv [] cal_X9_takeDraft gm_RX9_90 X hw hA hl.1 (c_X9_takeDraft l E F S3 S4 eS4) si_cl9 rfl ⟨⟨rfl, rfl⟩, Nat.le_of_ble_eq_true rfl, Nat.le_of_ble_eq_true rfl⟩ rfl rfl (Nat.le_of_ble_eq_true rfl) ⟨Nat.zero_le _, Nat.zero_le _⟩ dX9_parse_43 (fun H locs hw => ?_)
        exact B46 _ _ _ _ _ hf hw (lv_sub hl [0] rfl)
    · have hf := si_in c12 hf
      exact B15 _ _ _ _ hf hw (lv_sub hl [] rfl)
abbrev rm_X9_weigh : Room := { frames := 3, cells := 0, slots := 0, locals := 67 }
set_option maxHeartbeats 4000000 in
set_option maxRecDepth 100000 in
theorem c_X9_weigh (l : Launch) (E : si_Ev) (F : Nat) (x1 : Int32) (x2 : Int32) (x3 : Int32) (x4 : Int32) (S : si_St) (o : Int32 × si_St) (hf : f_X9_weigh F x1 x2 x3 x4 S = some o) : si_Mi l E yX9_weigh cX9_weigh 9 (some .int) rm_X9_weigh [.ref (E.2.1 0), .int x1, .int x2, .int x3, .int x4] S o := by
  refine si_ofWi (plainFor_of_name (by decide +kernel)) (Nat.le_of_ble_eq_true rfl) ?_
  intro p e s m args below meth c ls Q A X hw hA hl hret
  have hl : lv_has ls 9 [(0, .ref (E.2.1 0)), (1, .int x1), (2, .int x2), (3, .int x3), (4, .int x4)] := hl
  have B25 : ∀ (S : si_St) (H : Heap) (locs : List Loc) (ls : Array Slot), f_X9_weigh_h25 F S = some o → si_Ws E A s.heap S H locs → lv_has ls 9 [] → W p l e rm_X9_weigh s m args below meth c H locs 0 0 Q (F0 m 25 ls []) := by
    intro   S H locs ls hf hw hl
    unfold f_X9_weigh_h25 at hf
    refine lv_iconst (v := (-1)) X.1 X.2.1 dX9_weigh_25 (by decide) ?_
    exact hret _ _ _ _ _ _ hf hw dX9_weigh_26
  have B38 : ∀ (S : si_St) (H : Heap) (locs : List Loc) (ls : Array Slot), f_X9_weigh_h38 F S = some o → si_Ws E A s.heap S H locs → lv_has ls 9 [] → W p l e rm_X9_weigh s m args below meth c H locs 0 0 Q (F0 m 38 ls []) := by
    intro   S H locs ls hf hw hl
    unfold f_X9_weigh_h38 at hf
    refine lv_iconst (v := (-1)) X.1 X.2.1 dX9_weigh_38 (by decide) ?_
    exact hret _ _ _ _ _ _ hf hw dX9_weigh_39
  have B94 : ∀ (x1 : Int32) (x5 : Int32) (x6 : Int32) (t0 : Int32) (S : si_St) (H : Heap) (locs : List Loc) (ls : Array Slot), f_X9_weigh_h94 F x1 x5 x6 t0 S = some o → si_Ws E A s.heap S H locs → lv_has ls 9 [(0, .ref (E.2.1 0)), (1, .int x1), (5, .int x5), (6, .int x6)] → W p l e rm_X9_weigh s m args below meth c H locs 0 0 Q (F0 m 94 ls [.int t0]) := by
    intro x1 x5 x6 t0  S H locs ls hf hw hl
    unfold f_X9_weigh_h94 at hf
    refine lv_istore (lv' := [(7, .int t0), (0, .ref (E.2.1 0)), (1, .int x1), (5, .int x5), (6, .int x6)]) X.1 X.2.1 dX9_weigh_94 hl (by decide) rfl (fun ls hl => ?_)
    refine lv_iload X.1 X.2.1 dX9_weigh_96 (lv_at hl 3 rfl) ?_
    obtain ⟨q1, eq1, hf⟩ := si_ob hf
    refine si_cSi [.int x5] cal_J6_bitCount_0f7a4 gm_RX9_287 X hw hA hl.1 (c_J6_bitCount_0f7a4 l E F x5 S q1 eq1) ⟨⟨rfl, rfl⟩, Nat.le_of_ble_eq_true rfl, Nat.le_of_ble_eq_true rfl⟩ rfl rfl (Nat.le_of_ble_eq_true rfl) ⟨Nat.zero_le _, Nat.zero_le _⟩ dX9_weigh_98 (fun H locs hw => ?_)
    refine lv_iload X.1 X.2.1 dX9_weigh_101 (lv_at hl 4 rfl) ?_
    obtain ⟨q2, eq2, hf⟩ := si_ob hf
    refine si_cSi [.int x6] cal_J6_bitCount_0f7a4 gm_RX9_287 X hw hA hl.1 (c_J6_bitCount_0f7a4 l E F x6 q1.2 q2 eq2) ⟨⟨rfl, rfl⟩, Nat.le_of_ble_eq_true rfl, Nat.le_of_ble_eq_true rfl⟩ rfl rfl (Nat.le_of_ble_eq_true rfl) ⟨Nat.zero_le _, Nat.zero_le _⟩ dX9_weigh_103 (fun H locs hw => ?_)
    refine lv_iadd X.1 X.2.1 dX9_weigh_106 ?_
    refine lv_iload X.1 X.2.1 dX9_weigh_107 (lv_at hl 0 rfl) ?_
    refine lv_iadd X.1 X.2.1 dX9_weigh_109 ?_
    obtain ⟨v3, ev3, hf⟩ := si_ob hf
    refine si_nmI ev3 ?_
    refine lv_istore (lv' := [(8, .int v3), (7, .int t0), (0, .ref (E.2.1 0)), (1, .int x1), (5, .int x5), (6, .int x6)]) X.1 X.2.1 dX9_weigh_110 hl (by decide) rfl (fun ls hl => ?_)
    refine lv_iload X.1 X.2.1 dX9_weigh_112 (lv_at hl 0 rfl) ?_
    refine lv_if_ne (tgt := 120) X.1 X.2.1 dX9_weigh_114 (by decide) (fun c114 => ?_) (fun c114 => ?_)
    · have hf := si_in c114 hf
      refine lv_aload_n X.1 X.2.1 dX9_weigh_120 rfl (lv_at hl 2 rfl) ?_
      refine si_getR (k' := 16) (d := 16) X hw si_cl9 3 (by decide) gf_RX9_33 rfl rfl rfl (by decide) rfl dX9_weigh_121 ?_
      refine si_getR (k' := 20) (d := 4) X hw si_cl8 3 (by decide) gf_RX9_292 rfl rfl rfl (by decide) rfl dX9_weigh_124 ?_
      refine lv_iload_n X.1 X.2.1 dX9_weigh_127 rfl (lv_at hl 3 rfl) ?_
      obtain ⟨v4, ev4, hf⟩ := si_ob hf
      refine si_iald X hw rfl ev4 dX9_weigh_128 ?_
      refine lv_bipush (v := 20) X.1 X.2.1 dX9_weigh_129 (by decide) ?_
      refine lv_icmp_lt (tgt := 137) X.1 X.2.1 dX9_weigh_131 (by decide) (fun c131 => ?_) (fun c131 => ?_)
      · have hf := si_ip c131 hf
        refine lv_aload_n X.1 X.2.1 dX9_weigh_137 rfl (lv_at hl 2 rfl) ?_
        refine si_getR (k' := 21) (d := 21) X hw si_cl9 4 (by decide) gf_RX9_40 rfl rfl rfl (by decide) rfl dX9_weigh_138 ?_
        refine lv_iload_n X.1 X.2.1 dX9_weigh_141 rfl (lv_at hl 3 rfl) ?_
        refine lv_aload_n X.1 X.2.1 dX9_weigh_142 rfl (lv_at hl 2 rfl) ?_
        refine si_getR (k' := 16) (d := 16) X hw si_cl9 3 (by decide) gf_RX9_33 rfl rfl rfl (by decide) rfl dX9_weigh_143 ?_
        obtain ⟨S5, eS5, hf⟩ := si_ob hf
        refine si_cVv [.int x1, .ref (E.2.1 16)] cal_X0_addWeighing gm_RX9_295 X hw hA hl.1 (c_X0_addWeighing l E F x1 q2.2 S5 eS5) si_cl0 rfl ⟨⟨rfl, rfl⟩, Nat.le_of_ble_eq_true rfl, Nat.le_of_ble_eq_true rfl⟩ rfl rfl (Nat.le_of_ble_eq_true rfl) ⟨Nat.zero_le _, Nat.zero_le _⟩ dX9_weigh_146 (fun H locs hw => ?_)
        refine lv_aload_n X.1 X.2.1 dX9_weigh_149 rfl (lv_at hl 2 rfl) ?_
        refine si_getR (k' := 16) (d := 16) X hw si_cl9 3 (by decide) gf_RX9_33 rfl rfl rfl (by decide) rfl dX9_weigh_150 ?_
        refine lv_iload_n X.1 X.2.1 dX9_weigh_153 rfl (lv_at hl 3 rfl) ?_
        refine lv_iload X.1 X.2.1 dX9_weigh_154 (lv_at hl 4 rfl) ?_
        refine lv_iload X.1 X.2.1 dX9_weigh_156 (lv_at hl 5 rfl) ?_
        refine lv_iload X.1 X.2.1 dX9_weigh_158 (lv_at hl 1 rfl) ?_
        obtain ⟨S6, eS6, hf⟩ := si_ob hf
        refine si_cVv [.int x1, .int x5, .int x6, .int t0] cal_X8_put gm_RX9_299 X hw hA hl.1 (c_X8_put l E F x1 x5 x6 t0 S5 S6 eS6) si_cl8 rfl ⟨⟨rfl, rfl⟩, Nat.le_of_ble_eq_true rfl, Nat.le_of_ble_eq_true rfl⟩ rfl rfl (Nat.le_of_ble_eq_true rfl) ⟨Nat.zero_le _, Nat.zero_le _⟩ dX9_weigh_160 (fun H locs hw => ?_)
        refine lv_aload_n X.1 X.2.1 dX9_weigh_163 rfl (lv_at hl 2 rfl) ?_
        refine si_getR (k' := 16) (d := 16) X hw si_cl9 3 (by decide) gf_RX9_33 rfl rfl rfl (by decide) rfl dX9_weigh_164 ?_
        refine si_getR (k' := 20) (d := 4) X hw si_cl8 3 (by decide) gf_RX9_292 rfl rfl rfl (by decide) rfl dX9_weigh_167 ?_
        refine lv_iload_n X.1 X.2.1 dX9_weigh_170 rfl (lv_at hl 3 rfl) ?_
        refine lv_dup2_11 X.1 X.2.1 dX9_weigh_171 rfl rfl ?_
        obtain ⟨v7, ev7, hf⟩ := si_ob hf
        refine si_iald X hw rfl ev7 dX9_weigh_172 ?_
        refine lv_iconst (v := 1) X.1 X.2.1 dX9_weigh_173 (by decide) ?_
        refine lv_iadd X.1 X.2.1 dX9_weigh_174 ?_
        obtain ⟨S8, eS8, hf⟩ := si_ob hf
        refine si_iast X hw rfl eS8 dX9_weigh_175 (fun H locs hw => ?_)
        refine lv_iload X.1 X.2.1 dX9_weigh_176 (lv_at hl 0 rfl) ?_
        exact hret _ _ _ _ _ _ hf hw dX9_weigh_178
      · have hf := si_in c131 hf
        refine lv_bipush (v := (-3)) X.1 X.2.1 dX9_weigh_134 (by decide) ?_
        exact hret _ _ _ _ _ _ hf hw dX9_weigh_136
    · have hf := si_ip c114 hf
      refine lv_bipush (v := (-2)) X.1 X.2.1 dX9_weigh_117 (by decide) ?_
      exact hret _ _ _ _ _ _ hf hw dX9_weigh_119
  unfold f_X9_weigh at hf
  refine lv_aload_n X.1 X.2.1 dX9_weigh_0 rfl (lv_at hl 0 rfl) ?_
  refine lv_iload_n X.1 X.2.1 dX9_weigh_1 rfl (lv_at hl 1 rfl) ?_
  obtain ⟨q9, eq9, hf⟩ := si_ob hf
  refine si_cVi [.int x1] cal_X9_hasSet gm_RX9_265 X hw hA hl.1 (c_X9_hasSet l E F x1 S q9 eq9) si_cl9 rfl ⟨⟨rfl, rfl⟩, Nat.le_of_ble_eq_true rfl, Nat.le_of_ble_eq_true rfl⟩ rfl rfl (Nat.le_of_ble_eq_true rfl) ⟨Nat.zero_le _, Nat.zero_le _⟩ dX9_weigh_2 (fun H locs hw => ?_)
  refine lv_if_eq (tgt := 25) X.1 X.2.1 dX9_weigh_5 (by decide) (fun c5 => ?_) (fun c5 => ?_)
  · have hf := si_ip c5 hf
    exact B25 _ _ _ _ hf hw (lv_sub hl [] rfl)
  · have hf := si_in c5 hf
    refine lv_aload_n X.1 X.2.1 dX9_weigh_8 rfl (lv_at hl 0 rfl) ?_
    obtain ⟨k910, ek910, hf⟩ := si_ob hf
    have hk910 := (si_mk_inv ek910).1
    refine si_gtM (d := 0) X hw si_cl9 9 (by decide) gf_RX9_71 rfl rfl rfl ek910 dX9_weigh_9 ?_
    refine si_getR (k' := (k910 + 6)) (d := 6) X hw si_cl2 9 (by decide) gf_RX9_268 rfl hk910 rfl (by decide) rfl dX9_weigh_12 ?_
    refine lv_iload_n X.1 X.2.1 dX9_weigh_15 rfl (lv_at hl 1 rfl) ?_
    obtain ⟨v11, ev11, hf⟩ := si_ob hf
    refine si_iald X hw (sk_2_6 hk910) ev11 dX9_weigh_16 ?_
    refine lv_iload_n X.1 X.2.1 dX9_weigh_17 rfl (lv_at hl 2 rfl) ?_
    refine lv_iload_n X.1 X.2.1 dX9_weigh_18 rfl (lv_at hl 3 rfl) ?_
    obtain ⟨q12, eq12, hf⟩ := si_ob hf
    refine si_cSi [.int v11, .int x2, .int x3] cal_X9_isWeighing gm_RX9_271 X hw hA hl.1 (c_X9_isWeighing l E F v11 x2 x3 q9.2 q12 eq12) ⟨⟨rfl, rfl⟩, Nat.le_of_ble_eq_true rfl, Nat.le_of_ble_eq_true rfl⟩ rfl rfl (Nat.le_of_ble_eq_true rfl) ⟨Nat.zero_le _, Nat.zero_le _⟩ dX9_weigh_19 (fun H locs hw => ?_)
    refine lv_if_ne (tgt := 27) X.1 X.2.1 dX9_weigh_22 (by decide) (fun c22 => ?_) (fun c22 => ?_)
    · have hf := si_in c22 hf
      refine lv_iload X.1 X.2.1 dX9_weigh_27 (lv_at hl 4 rfl) ?_
      refine lv_if_lt (tgt := 38) X.1 X.2.1 dX9_weigh_29 (by decide) (fun c29 => ?_) (fun c29 => ?_)
      · have hf := si_ip c29 hf
        exact B38 _ _ _ _ hf hw (lv_sub hl [] rfl)
      · have hf := si_in c29 hf
        refine lv_iload X.1 X.2.1 dX9_weigh_32 (lv_at hl 4 rfl) ?_
        refine lv_iconst (v := 2) X.1 X.2.1 dX9_weigh_34 (by decide) ?_
        refine lv_icmp_le (tgt := 40) X.1 X.2.1 dX9_weigh_35 (by decide) (fun c35 => ?_) (fun c35 => ?_)
        · have hf := si_ip c35 hf
          refine lv_aload_n X.1 X.2.1 dX9_weigh_40 rfl (lv_at hl 0 rfl) ?_
          refine si_getR (k' := 16) (d := 16) X hw si_cl9 3 (by decide) gf_RX9_33 rfl rfl rfl (by decide) rfl dX9_weigh_41 ?_
          refine si_getR (k' := 17) (d := 1) X hw si_cl8 0 (by decide) gf_RX9_275 rfl rfl rfl (by decide) rfl dX9_weigh_44 ?_
          refine lv_iload_n X.1 X.2.1 dX9_weigh_47 rfl (lv_at hl 1 rfl) ?_
          obtain ⟨v13, ev13, hf⟩ := si_ob hf
          refine si_iald X hw rfl ev13 dX9_weigh_48 ?_
          refine lv_iload_n X.1 X.2.1 dX9_weigh_49 rfl (lv_at hl 2 rfl) ?_
          refine lv_iload_n X.1 X.2.1 dX9_weigh_50 rfl (lv_at hl 3 rfl) ?_
          refine lv_iload X.1 X.2.1 dX9_weigh_51 (lv_at hl 4 rfl) ?_
          obtain ⟨q14, eq14, hf⟩ := si_ob hf
          refine si_cSi [.int v13, .int x2, .int x3, .int x4] cal_X8_suspectsAfter gm_RX9_278 X hw hA hl.1 (c_X8_suspectsAfter l E F v13 x2 x3 x4 q12.2 q14 eq14) ⟨⟨rfl, rfl⟩, Nat.le_of_ble_eq_true rfl, Nat.le_of_ble_eq_true rfl⟩ rfl rfl (Nat.le_of_ble_eq_true rfl) ⟨Nat.zero_le _, Nat.zero_le _⟩ dX9_weigh_53 (fun H locs hw => ?_)
          refine lv_istore (lv' := [(5, .int q14.1), (0, .ref (E.2.1 0)), (1, .int x1), (2, .int x2), (3, .int x3), (4, .int x4)]) X.1 X.2.1 dX9_weigh_56 hl (by decide) rfl (fun ls hl => ?_)
          refine lv_aload_n X.1 X.2.1 dX9_weigh_58 rfl (lv_at hl 1 rfl) ?_
          refine si_getR (k' := 16) (d := 16) X hw si_cl9 3 (by decide) gf_RX9_33 rfl rfl rfl (by decide) rfl dX9_weigh_59 ?_
          refine si_getR (k' := 18) (d := 2) X hw si_cl8 1 (by decide) gf_RX9_281 rfl rfl rfl (by decide) rfl dX9_weigh_62 ?_
          refine lv_iload_n X.1 X.2.1 dX9_weigh_65 rfl (lv_at hl 2 rfl) ?_
          obtain ⟨v15, ev15, hf⟩ := si_ob hf
          refine si_iald X hw rfl ev15 dX9_weigh_66 ?_
          refine lv_iload_n X.1 X.2.1 dX9_weigh_67 rfl (lv_at hl 4 rfl) ?_
          refine lv_iload_n X.1 X.2.1 dX9_weigh_68 rfl (lv_at hl 3 rfl) ?_
          refine lv_iload X.1 X.2.1 dX9_weigh_69 (lv_at hl 5 rfl) ?_
          obtain ⟨q16, eq16, hf⟩ := si_ob hf
          refine si_cSi [.int v15, .int x3, .int x2, .int x4] cal_X8_suspectsAfter gm_RX9_278 X hw hA hl.1 (c_X8_suspectsAfter l E F v15 x3 x2 x4 q14.2 q16 eq16) ⟨⟨rfl, rfl⟩, Nat.le_of_ble_eq_true rfl, Nat.le_of_ble_eq_true rfl⟩ rfl rfl (Nat.le_of_ble_eq_true rfl) ⟨Nat.zero_le _, Nat.zero_le _⟩ dX9_weigh_71 (fun H locs hw => ?_)
          refine lv_istore (lv' := [(6, .int q16.1), (5, .int q14.1), (0, .ref (E.2.1 0)), (1, .int x1), (2, .int x2), (3, .int x3), (4, .int x4)]) X.1 X.2.1 dX9_weigh_74 hl (by decide) rfl (fun ls hl => ?_)
          refine lv_iload X.1 X.2.1 dX9_weigh_76 (lv_at hl 6 rfl) ?_
          refine lv_if_ne (tgt := 93) X.1 X.2.1 dX9_weigh_78 (by decide) (fun c78 => ?_) (fun c78 => ?_)
          · have hf := si_in c78 hf
            refine lv_iconst (v := 0) X.1 X.2.1 dX9_weigh_93 (by decide) ?_
            exact B94 _ _ _ _ _ _ _ _ hf hw (lv_sub hl [2, 3, 1, 0] rfl)
          · have hf := si_ip c78 hf
            refine lv_aload_n X.1 X.2.1 dX9_weigh_81 rfl (lv_at hl 2 rfl) ?_
            refine si_getR (k' := 16) (d := 16) X hw si_cl9 3 (by decide) gf_RX9_33 rfl rfl rfl (by decide) rfl dX9_weigh_82 ?_
            refine si_getR (k' := 19) (d := 3) X hw si_cl8 2 (by decide) gf_RX9_284 rfl rfl rfl (by decide) rfl dX9_weigh_85 ?_
            refine lv_iload_n X.1 X.2.1 dX9_weigh_88 rfl (lv_at hl 3 rfl) ?_
            obtain ⟨v17, ev17, hf⟩ := si_ob hf
            refine si_iald X hw rfl ev17 dX9_weigh_89 ?_
            refine lv_goto (tgt := 94) X.1 X.2.1 dX9_weigh_90 (by decide) ?_
            exact B94 _ _ _ _ _ _ _ _ hf hw (lv_sub hl [2, 3, 1, 0] rfl)
        · have hf := si_in c35 hf
          exact B38 _ _ _ _ hf hw (lv_sub hl [] rfl)
    · have hf := si_ip c22 hf
      exact B25 _ _ _ _ hf hw (lv_sub hl [] rfl)
abbrev rm_X9_hypothesisCount : Room := { frames := 2, cells := 0, slots := 0, locals := 41 }
set_option maxHeartbeats 4000000 in
set_option maxRecDepth 100000 in
theorem c_X9_hypothesisCount (l : Launch) (E : si_Ev) (F : Nat) (x1 : Int32) (S : si_St) (o : Int32 × si_St) (hf : f_X9_hypothesisCount F x1 S = some o) : si_Mi l E yX9_hypothesisCount cX9_hypothesisCount 2 (some .int) rm_X9_hypothesisCount [.ref (E.2.1 0), .int x1] S o := by
  refine si_ofWi (plainFor_of_name (by decide +kernel)) (Nat.le_of_ble_eq_true rfl) ?_
  intro p e s m args below meth c ls Q A X hw hA hl hret
  have hl : lv_has ls 2 [(0, .ref (E.2.1 0)), (1, .int x1)] := hl
  have B20 : ∀ (t0 : Int32) (S : si_St) (H : Heap) (locs : List Loc) (ls : Array Slot), f_X9_hypothesisCount_h20 F t0 S = some o → si_Ws E A s.heap S H locs → lv_has ls 2 [] → W p l e rm_X9_hypothesisCount s m args below meth c H locs 0 0 Q (F0 m 20 ls [.int t0]) := by
    intro t0  S H locs ls hf hw hl
    unfold f_X9_hypothesisCount_h20 at hf
    exact hret _ _ _ _ _ _ hf hw dX9_hypothesisCount_20
  unfold f_X9_hypothesisCount at hf
  refine lv_aload_n X.1 X.2.1 dX9_hypothesisCount_0 rfl (lv_at hl 0 rfl) ?_
  refine lv_iload_n X.1 X.2.1 dX9_hypothesisCount_1 rfl (lv_at hl 1 rfl) ?_
  obtain ⟨q1, eq1, hf⟩ := si_ob hf
  refine si_cVi [.int x1] cal_X9_hasSet gm_RX9_265 X hw hA hl.1 (c_X9_hasSet l E F x1 S q1 eq1) si_cl9 rfl ⟨⟨rfl, rfl⟩, Nat.le_of_ble_eq_true rfl, Nat.le_of_ble_eq_true rfl⟩ rfl rfl (Nat.le_of_ble_eq_true rfl) ⟨Nat.zero_le _, Nat.zero_le _⟩ dX9_hypothesisCount_2 (fun H locs hw => ?_)
  refine lv_if_eq (tgt := 19) X.1 X.2.1 dX9_hypothesisCount_5 (by decide) (fun c5 => ?_) (fun c5 => ?_)
  · have hf := si_ip c5 hf
    refine lv_iconst (v := (-1)) X.1 X.2.1 dX9_hypothesisCount_19 (by decide) ?_
    exact B20 _ _ _ _ _ hf hw (lv_sub hl [] rfl)
  · have hf := si_in c5 hf
    refine lv_aload_n X.1 X.2.1 dX9_hypothesisCount_8 rfl (lv_at hl 0 rfl) ?_
    refine si_getR (k' := 16) (d := 16) X hw si_cl9 3 (by decide) gf_RX9_33 rfl rfl rfl (by decide) rfl dX9_hypothesisCount_9 ?_
    refine lv_iload_n X.1 X.2.1 dX9_hypothesisCount_12 rfl (lv_at hl 1 rfl) ?_
    obtain ⟨q2, eq2, hf⟩ := si_ob hf
    refine si_cVi [.int x1] cal_X8_hypothesesOf gm_RX9_303 X hw hA hl.1 (c_X8_hypothesesOf l E F x1 q1.2 q2 eq2) si_cl8 rfl ⟨⟨rfl, rfl⟩, Nat.le_of_ble_eq_true rfl, Nat.le_of_ble_eq_true rfl⟩ rfl rfl (Nat.le_of_ble_eq_true rfl) ⟨Nat.zero_le _, Nat.zero_le _⟩ dX9_hypothesisCount_13 (fun H locs hw => ?_)
    refine lv_goto (tgt := 20) X.1 X.2.1 dX9_hypothesisCount_16 (by decide) ?_
    exact B20 _ _ _ _ _ hf hw (lv_sub hl [] rfl)
abbrev rm_X9_heavySuspects : Room := { frames := 1, cells := 0, slots := 0, locals := 21 }
set_option maxHeartbeats 4000000 in
set_option maxRecDepth 100000 in
theorem c_X9_heavySuspects (l : Launch) (E : si_Ev) (F : Nat) (x1 : Int32) (S : si_St) (o : Int32 × si_St) (hf : f_X9_heavySuspects F x1 S = some o) : si_Mi l E yX9_heavySuspects cX9_heavySuspects 2 (some .int) rm_X9_heavySuspects [.ref (E.2.1 0), .int x1] S o := by
  refine si_ofWi (plainFor_of_name (by decide +kernel)) (Nat.le_of_ble_eq_true rfl) ?_
  intro p e s m args below meth c ls Q A X hw hA hl hret
  have hl : lv_has ls 2 [(0, .ref (E.2.1 0)), (1, .int x1)] := hl
  have B21 : ∀ (t0 : Int32) (S : si_St) (H : Heap) (locs : List Loc) (ls : Array Slot), f_X9_heavySuspects_h21 F t0 S = some o → si_Ws E A s.heap S H locs → lv_has ls 2 [] → W p l e rm_X9_heavySuspects s m args below meth c H locs 0 0 Q (F0 m 21 ls [.int t0]) := by
    intro t0  S H locs ls hf hw hl
    unfold f_X9_heavySuspects_h21 at hf
    exact hret _ _ _ _ _ _ hf hw dX9_heavySuspects_21
  unfold f_X9_heavySuspects at hf
  refine lv_aload_n X.1 X.2.1 dX9_heavySuspects_0 rfl (lv_at hl 0 rfl) ?_
  refine lv_iload_n X.1 X.2.1 dX9_heavySuspects_1 rfl (lv_at hl 1 rfl) ?_
  obtain ⟨q1, eq1, hf⟩ := si_ob hf
  refine si_cVi [.int x1] cal_X9_hasSet gm_RX9_265 X hw hA hl.1 (c_X9_hasSet l E F x1 S q1 eq1) si_cl9 rfl ⟨⟨rfl, rfl⟩, Nat.le_of_ble_eq_true rfl, Nat.le_of_ble_eq_true rfl⟩ rfl rfl (Nat.le_of_ble_eq_true rfl) ⟨Nat.zero_le _, Nat.zero_le _⟩ dX9_heavySuspects_2 (fun H locs hw => ?_)
  refine lv_if_eq (tgt := 20) X.1 X.2.1 dX9_heavySuspects_5 (by decide) (fun c5 => ?_) (fun c5 => ?_)
  · have hf := si_ip c5 hf
    refine lv_iconst (v := (-1)) X.1 X.2.1 dX9_heavySuspects_20 (by decide) ?_
    exact B21 _ _ _ _ _ hf hw (lv_sub hl [] rfl)
  · have hf := si_in c5 hf
    refine lv_aload_n X.1 X.2.1 dX9_heavySuspects_8 rfl (lv_at hl 0 rfl) ?_
    refine si_getR (k' := 16) (d := 16) X hw si_cl9 3 (by decide) gf_RX9_33 rfl rfl rfl (by decide) rfl dX9_heavySuspects_9 ?_
    refine si_getR (k' := 17) (d := 1) X hw si_cl8 0 (by decide) gf_RX9_275 rfl rfl rfl (by decide) rfl dX9_heavySuspects_12 ?_
    refine lv_iload_n X.1 X.2.1 dX9_heavySuspects_15 rfl (lv_at hl 1 rfl) ?_
    obtain ⟨v2, ev2, hf⟩ := si_ob hf
    refine si_iald X hw rfl ev2 dX9_heavySuspects_16 ?_
    refine lv_goto (tgt := 21) X.1 X.2.1 dX9_heavySuspects_17 (by decide) ?_
    exact B21 _ _ _ _ _ hf hw (lv_sub hl [] rfl)
abbrev rm_X9_lightSuspects : Room := { frames := 1, cells := 0, slots := 0, locals := 21 }
set_option maxHeartbeats 4000000 in
set_option maxRecDepth 100000 in
theorem c_X9_lightSuspects (l : Launch) (E : si_Ev) (F : Nat) (x1 : Int32) (S : si_St) (o : Int32 × si_St) (hf : f_X9_lightSuspects F x1 S = some o) : si_Mi l E yX9_lightSuspects cX9_lightSuspects 2 (some .int) rm_X9_lightSuspects [.ref (E.2.1 0), .int x1] S o := by
  refine si_ofWi (plainFor_of_name (by decide +kernel)) (Nat.le_of_ble_eq_true rfl) ?_
  intro p e s m args below meth c ls Q A X hw hA hl hret
  have hl : lv_has ls 2 [(0, .ref (E.2.1 0)), (1, .int x1)] := hl
  have B21 : ∀ (t0 : Int32) (S : si_St) (H : Heap) (locs : List Loc) (ls : Array Slot), f_X9_lightSuspects_h21 F t0 S = some o → si_Ws E A s.heap S H locs → lv_has ls 2 [] → W p l e rm_X9_lightSuspects s m args below meth c H locs 0 0 Q (F0 m 21 ls [.int t0]) := by
    intro t0  S H locs ls hf hw hl
    unfold f_X9_lightSuspects_h21 at hf
    exact hret _ _ _ _ _ _ hf hw dX9_lightSuspects_21
  unfold f_X9_lightSuspects at hf
  refine lv_aload_n X.1 X.2.1 dX9_lightSuspects_0 rfl (lv_at hl 0 rfl) ?_
  refine lv_iload_n X.1 X.2.1 dX9_lightSuspects_1 rfl (lv_at hl 1 rfl) ?_
  obtain ⟨q1, eq1, hf⟩ := si_ob hf
  refine si_cVi [.int x1] cal_X9_hasSet gm_RX9_265 X hw hA hl.1 (c_X9_hasSet l E F x1 S q1 eq1) si_cl9 rfl ⟨⟨rfl, rfl⟩, Nat.le_of_ble_eq_true rfl, Nat.le_of_ble_eq_true rfl⟩ rfl rfl (Nat.le_of_ble_eq_true rfl) ⟨Nat.zero_le _, Nat.zero_le _⟩ dX9_lightSuspects_2 (fun H locs hw => ?_)
  refine lv_if_eq (tgt := 20) X.1 X.2.1 dX9_lightSuspects_5 (by decide) (fun c5 => ?_) (fun c5 => ?_)
  · have hf := si_ip c5 hf
    refine lv_iconst (v := (-1)) X.1 X.2.1 dX9_lightSuspects_20 (by decide) ?_
    exact B21 _ _ _ _ _ hf hw (lv_sub hl [] rfl)
  · have hf := si_in c5 hf
    refine lv_aload_n X.1 X.2.1 dX9_lightSuspects_8 rfl (lv_at hl 0 rfl) ?_
    refine si_getR (k' := 16) (d := 16) X hw si_cl9 3 (by decide) gf_RX9_33 rfl rfl rfl (by decide) rfl dX9_lightSuspects_9 ?_
    refine si_getR (k' := 18) (d := 2) X hw si_cl8 1 (by decide) gf_RX9_281 rfl rfl rfl (by decide) rfl dX9_lightSuspects_12 ?_
    refine lv_iload_n X.1 X.2.1 dX9_lightSuspects_15 rfl (lv_at hl 1 rfl) ?_
    obtain ⟨v2, ev2, hf⟩ := si_ob hf
    refine si_iald X hw rfl ev2 dX9_lightSuspects_16 ?_
    refine lv_goto (tgt := 21) X.1 X.2.1 dX9_lightSuspects_17 (by decide) ?_
    exact B21 _ _ _ _ _ hf hw (lv_sub hl [] rfl)
abbrev rm_X9_canBeGenuine : Room := { frames := 1, cells := 0, slots := 0, locals := 21 }
set_option maxHeartbeats 4000000 in
set_option maxRecDepth 100000 in
theorem c_X9_canBeGenuine (l : Launch) (E : si_Ev) (F : Nat) (x1 : Int32) (S : si_St) (o : Int32 × si_St) (hf : f_X9_canBeGenuine F x1 S = some o) : si_Mi l E yX9_canBeGenuine cX9_canBeGenuine 2 (some .int) rm_X9_canBeGenuine [.ref (E.2.1 0), .int x1] S o := by
  refine si_ofWi (plainFor_of_name (by decide +kernel)) (Nat.le_of_ble_eq_true rfl) ?_
  intro p e s m args below meth c ls Q A X hw hA hl hret
  have hl : lv_has ls 2 [(0, .ref (E.2.1 0)), (1, .int x1)] := hl
  have B21 : ∀ (t0 : Int32) (S : si_St) (H : Heap) (locs : List Loc) (ls : Array Slot), f_X9_canBeGenuine_h21 F t0 S = some o → si_Ws E A s.heap S H locs → lv_has ls 2 [] → W p l e rm_X9_canBeGenuine s m args below meth c H locs 0 0 Q (F0 m 21 ls [.int t0]) := by
    intro t0  S H locs ls hf hw hl
    unfold f_X9_canBeGenuine_h21 at hf
    exact hret _ _ _ _ _ _ hf hw dX9_canBeGenuine_21
  unfold f_X9_canBeGenuine at hf
  refine lv_aload_n X.1 X.2.1 dX9_canBeGenuine_0 rfl (lv_at hl 0 rfl) ?_
  refine lv_iload_n X.1 X.2.1 dX9_canBeGenuine_1 rfl (lv_at hl 1 rfl) ?_
  obtain ⟨q1, eq1, hf⟩ := si_ob hf
  refine si_cVi [.int x1] cal_X9_hasSet gm_RX9_265 X hw hA hl.1 (c_X9_hasSet l E F x1 S q1 eq1) si_cl9 rfl ⟨⟨rfl, rfl⟩, Nat.le_of_ble_eq_true rfl, Nat.le_of_ble_eq_true rfl⟩ rfl rfl (Nat.le_of_ble_eq_true rfl) ⟨Nat.zero_le _, Nat.zero_le _⟩ dX9_canBeGenuine_2 (fun H locs hw => ?_)
  refine lv_if_eq (tgt := 20) X.1 X.2.1 dX9_canBeGenuine_5 (by decide) (fun c5 => ?_) (fun c5 => ?_)
  · have hf := si_ip c5 hf
    refine lv_iconst (v := (-1)) X.1 X.2.1 dX9_canBeGenuine_20 (by decide) ?_
    exact B21 _ _ _ _ _ hf hw (lv_sub hl [] rfl)
  · have hf := si_in c5 hf
    refine lv_aload_n X.1 X.2.1 dX9_canBeGenuine_8 rfl (lv_at hl 0 rfl) ?_
    refine si_getR (k' := 16) (d := 16) X hw si_cl9 3 (by decide) gf_RX9_33 rfl rfl rfl (by decide) rfl dX9_canBeGenuine_9 ?_
    refine si_getR (k' := 19) (d := 3) X hw si_cl8 2 (by decide) gf_RX9_284 rfl rfl rfl (by decide) rfl dX9_canBeGenuine_12 ?_
    refine lv_iload_n X.1 X.2.1 dX9_canBeGenuine_15 rfl (lv_at hl 1 rfl) ?_
    obtain ⟨v2, ev2, hf⟩ := si_ob hf
    refine si_iald X hw rfl ev2 dX9_canBeGenuine_16 ?_
    refine lv_goto (tgt := 21) X.1 X.2.1 dX9_canBeGenuine_17 (by decide) ?_
    exact B21 _ _ _ _ _ hf hw (lv_sub hl [] rfl)
abbrev rm_X9_finding : Room := { frames := 3, cells := 0, slots := 0, locals := 62 }
set_option maxHeartbeats 4000000 in
set_option maxRecDepth 100000 in
theorem c_X9_finding (l : Launch) (E : si_Ev) (F : Nat) (x1 : Int32) (S : si_St) (o : Int32 × si_St) (hf : f_X9_finding F x1 S = some o) : si_Mi l E yX9_finding cX9_finding 2 (some .int) rm_X9_finding [.ref (E.2.1 0), .int x1] S o := by
  refine si_ofWi (plainFor_of_name (by decide +kernel)) (Nat.le_of_ble_eq_true rfl) ?_
  intro p e s m args below meth c ls Q A X hw hA hl hret
  have hl : lv_has ls 2 [(0, .ref (E.2.1 0)), (1, .int x1)] := hl
  have B20 : ∀ (t0 : Int32) (S : si_St) (H : Heap) (locs : List Loc) (ls : Array Slot), f_X9_finding_h20 F t0 S = some o → si_Ws E A s.heap S H locs → lv_has ls 2 [] → W p l e rm_X9_finding s m args below meth c H locs 0 0 Q (F0 m 20 ls [.int t0]) := by
    intro t0  S H locs ls hf hw hl
    unfold f_X9_finding_h20 at hf
    exact hret _ _ _ _ _ _ hf hw dX9_finding_20
  unfold f_X9_finding at hf
  refine lv_aload_n X.1 X.2.1 dX9_finding_0 rfl (lv_at hl 0 rfl) ?_
  refine lv_iload_n X.1 X.2.1 dX9_finding_1 rfl (lv_at hl 1 rfl) ?_
  obtain ⟨q1, eq1, hf⟩ := si_ob hf
  refine si_cVi [.int x1] cal_X9_hasSet gm_RX9_265 X hw hA hl.1 (c_X9_hasSet l E F x1 S q1 eq1) si_cl9 rfl ⟨⟨rfl, rfl⟩, Nat.le_of_ble_eq_true rfl, Nat.le_of_ble_eq_true rfl⟩ rfl rfl (Nat.le_of_ble_eq_true rfl) ⟨Nat.zero_le _, Nat.zero_le _⟩ dX9_finding_2 (fun H locs hw => ?_)
  refine lv_if_eq (tgt := 19) X.1 X.2.1 dX9_finding_5 (by decide) (fun c5 => ?_) (fun c5 => ?_)
  · have hf := si_ip c5 hf
    refine lv_iconst (v := (-1)) X.1 X.2.1 dX9_finding_19 (by decide) ?_
    exact B20 _ _ _ _ _ hf hw (lv_sub hl [] rfl)
  · have hf := si_in c5 hf
    refine lv_aload_n X.1 X.2.1 dX9_finding_8 rfl (lv_at hl 0 rfl) ?_
    refine si_getR (k' := 16) (d := 16) X hw si_cl9 3 (by decide) gf_RX9_33 rfl rfl rfl (by decide) rfl dX9_finding_9 ?_
    refine lv_iload_n X.1 X.2.1 dX9_finding_12 rfl (lv_at hl 1 rfl) ?_
    obtain ⟨q2, eq2, hf⟩ := si_ob hf
    refine si_cVi [.int x1] cal_X8_onlyHypothesis gm_RX9_306 X hw hA hl.1 (c_X8_onlyHypothesis l E F x1 q1.2 q2 eq2) si_cl8 rfl ⟨⟨rfl, rfl⟩, Nat.le_of_ble_eq_true rfl, Nat.le_of_ble_eq_true rfl⟩ rfl rfl (Nat.le_of_ble_eq_true rfl) ⟨Nat.zero_le _, Nat.zero_le _⟩ dX9_finding_13 (fun H locs hw => ?_)
    refine lv_goto (tgt := 20) X.1 X.2.1 dX9_finding_16 (by decide) ?_
    exact B20 _ _ _ _ _ hf hw (lv_sub hl [] rfl)
abbrev rm_X9_weighingsNeeded : Room := { frames := 6, cells := 0, slots := 0, locals := 144 }
set_option maxHeartbeats 4000000 in
set_option maxRecDepth 100000 in
theorem c_X9_weighingsNeeded (l : Launch) (E : si_Ev) (F : Nat) (x1 : Int32) (S : si_St) (o : Int32 × si_St) (hf : f_X9_weighingsNeeded F x1 S = some o) : si_Mi l E yX9_weighingsNeeded cX9_weighingsNeeded 2 (some .int) rm_X9_weighingsNeeded [.ref (E.2.1 0), .int x1] S o := by
  refine si_ofWi (plainFor_of_name (by decide +kernel)) (Nat.le_of_ble_eq_true rfl) ?_
  intro p e s m args below meth c ls Q A X hw hA hl hret
  have hl : lv_has ls 2 [(0, .ref (E.2.1 0)), (1, .int x1)] := hl
  unfold f_X9_weighingsNeeded at hf
  refine lv_aload_n X.1 X.2.1 dX9_weighingsNeeded_0 rfl (lv_at hl 0 rfl) ?_
  refine lv_iload_n X.1 X.2.1 dX9_weighingsNeeded_1 rfl (lv_at hl 1 rfl) ?_
  obtain ⟨q1, eq1, hf⟩ := si_ob hf
  refine si_cVi [.int x1] cal_X9_hasSet gm_RX9_265 X hw hA hl.1 (c_X9_hasSet l E F x1 S q1 eq1) si_cl9 rfl ⟨⟨rfl, rfl⟩, Nat.le_of_ble_eq_true rfl, Nat.le_of_ble_eq_true rfl⟩ rfl rfl (Nat.le_of_ble_eq_true rfl) ⟨Nat.zero_le _, Nat.zero_le _⟩ dX9_weighingsNeeded_2 (fun H locs hw => ?_)
  refine lv_if_ne (tgt := 10) X.1 X.2.1 dX9_weighingsNeeded_5 (by decide) (fun c5 => ?_) (fun c5 => ?_)
  · have hf := si_in c5 hf
    refine lv_aload_n X.1 X.2.1 dX9_weighingsNeeded_10 rfl (lv_at hl 0 rfl) ?_
    refine lv_iload_n X.1 X.2.1 dX9_weighingsNeeded_11 rfl (lv_at hl 1 rfl) ?_
    obtain ⟨S2, eS2, hf⟩ := si_ob hf
    refine si_cVv [.int x1] cal_X9_chooseSet gm_RX9_309 X hw hA hl.1 (c_X9_chooseSet l E F x1 q1.2 S2 eS2) si_cl9 rfl ⟨⟨rfl, rfl⟩, Nat.le_of_ble_eq_true rfl, Nat.le_of_ble_eq_true rfl⟩ rfl rfl (Nat.le_of_ble_eq_true rfl) ⟨Nat.zero_le _, Nat.zero_le _⟩ dX9_weighingsNeeded_12 (fun H locs hw => ?_)
    refine lv_aload_n X.1 X.2.1 dX9_weighingsNeeded_15 rfl (lv_at hl 0 rfl) ?_
    refine si_getR (k' := 65) (d := 65) X hw si_cl9 8 (by decide) gf_RX9_64 rfl rfl rfl (by decide) rfl dX9_weighingsNeeded_16 ?_
    obtain ⟨q3, eq3, hf⟩ := si_ob hf
    refine si_cVi [] cal_X5_needed gm_RX9_312 X hw hA hl.1 (c_X5_needed l E F S2 q3 eq3) si_cl5 rfl ⟨⟨rfl, rfl⟩, Nat.le_of_ble_eq_true rfl, Nat.le_of_ble_eq_true rfl⟩ rfl rfl (Nat.le_of_ble_eq_true rfl) ⟨Nat.zero_le _, Nat.zero_le _⟩ dX9_weighingsNeeded_19 (fun H locs hw => ?_)
    obtain ⟨q4, eq4, hf⟩ := si_ob hf
    refine si_cSi [.int q3.1] cal_X9_orNone gm_RX9_316 X hw hA hl.1 (c_X9_orNone l E F q3.1 q3.2 q4 eq4) ⟨⟨rfl, rfl⟩, Nat.le_of_ble_eq_true rfl, Nat.le_of_ble_eq_true rfl⟩ rfl rfl (Nat.le_of_ble_eq_true rfl) ⟨Nat.zero_le _, Nat.zero_le _⟩ dX9_weighingsNeeded_22 (fun H locs hw => ?_)
    exact hret _ _ _ _ _ _ hf hw dX9_weighingsNeeded_25
  · have hf := si_ip c5 hf
    refine lv_iconst (v := (-1)) X.1 X.2.1 dX9_weighingsNeeded_8 (by decide) ?_
    exact hret _ _ _ _ _ _ hf hw dX9_weighingsNeeded_9
abbrev rm_X9_bestLeft : Room := { frames := 6, cells := 0, slots := 0, locals := 144 }
set_option maxHeartbeats 4000000 in
set_option maxRecDepth 100000 in
theorem c_X9_bestLeft (l : Launch) (E : si_Ev) (F : Nat) (x1 : Int32) (S : si_St) (o : Int32 × si_St) (hf : f_X9_bestLeft F x1 S = some o) : si_Mi l E yX9_bestLeft cX9_bestLeft 3 (some .int) rm_X9_bestLeft [.ref (E.2.1 0), .int x1] S o := by
  refine si_ofWi (plainFor_of_name (by decide +kernel)) (Nat.le_of_ble_eq_true rfl) ?_
  intro p e s m args below meth c ls Q A X hw hA hl hret
  have hl : lv_has ls 3 [(0, .ref (E.2.1 0)), (1, .int x1)] := hl
  have B39 : ∀ (t0 : Int32) (S : si_St) (H : Heap) (locs : List Loc) (ls : Array Slot), f_X9_bestLeft_h39 F t0 S = some o → si_Ws E A s.heap S H locs → lv_has ls 3 [] → W p l e rm_X9_bestLeft s m args below meth c H locs 0 0 Q (F0 m 39 ls [.int t0]) := by
    intro t0  S H locs ls hf hw hl
    unfold f_X9_bestLeft_h39 at hf
    exact hret _ _ _ _ _ _ hf hw dX9_bestLeft_39
  unfold f_X9_bestLeft at hf
  refine lv_aload_n X.1 X.2.1 dX9_bestLeft_0 rfl (lv_at hl 0 rfl) ?_
  refine lv_iload_n X.1 X.2.1 dX9_bestLeft_1 rfl (lv_at hl 1 rfl) ?_
  obtain ⟨q1, eq1, hf⟩ := si_ob hf
  refine si_cVi [.int x1] cal_X9_hasSet gm_RX9_265 X hw hA hl.1 (c_X9_hasSet l E F x1 S q1 eq1) si_cl9 rfl ⟨⟨rfl, rfl⟩, Nat.le_of_ble_eq_true rfl, Nat.le_of_ble_eq_true rfl⟩ rfl rfl (Nat.le_of_ble_eq_true rfl) ⟨Nat.zero_le _, Nat.zero_le _⟩ dX9_bestLeft_2 (fun H locs hw => ?_)
  refine lv_if_ne (tgt := 10) X.1 X.2.1 dX9_bestLeft_5 (by decide) (fun c5 => ?_) (fun c5 => ?_)
  · have hf := si_in c5 hf
    refine lv_aload_n X.1 X.2.1 dX9_bestLeft_10 rfl (lv_at hl 0 rfl) ?_
    refine lv_iload_n X.1 X.2.1 dX9_bestLeft_11 rfl (lv_at hl 1 rfl) ?_
    obtain ⟨S2, eS2, hf⟩ := si_ob hf
    refine si_cVv [.int x1] cal_X9_chooseSet gm_RX9_309 X hw hA hl.1 (c_X9_chooseSet l E F x1 q1.2 S2 eS2) si_cl9 rfl ⟨⟨rfl, rfl⟩, Nat.le_of_ble_eq_true rfl, Nat.le_of_ble_eq_true rfl⟩ rfl rfl (Nat.le_of_ble_eq_true rfl) ⟨Nat.zero_le _, Nat.zero_le _⟩ dX9_bestLeft_12 (fun H locs hw => ?_)
    refine lv_aload_n X.1 X.2.1 dX9_bestLeft_15 rfl (lv_at hl 0 rfl) ?_
    refine si_getR (k' := 65) (d := 65) X hw si_cl9 8 (by decide) gf_RX9_64 rfl rfl rfl (by decide) rfl dX9_bestLeft_16 ?_
    obtain ⟨q3, eq3, hf⟩ := si_ob hf
    refine si_cVi [] cal_X5_bestWeighing gm_RX9_319 X hw hA hl.1 (c_X5_bestWeighing l E F S2 q3 eq3) si_cl5 rfl ⟨⟨rfl, rfl⟩, Nat.le_of_ble_eq_true rfl, Nat.le_of_ble_eq_true rfl⟩ rfl rfl (Nat.le_of_ble_eq_true rfl) ⟨Nat.zero_le _, Nat.zero_le _⟩ dX9_bestLeft_19 (fun H locs hw => ?_)
    refine lv_istore_n (lv' := [(2, .int q3.1), (0, .ref (E.2.1 0)), (1, .int x1)]) X.1 X.2.1 dX9_bestLeft_22 rfl hl (by decide) rfl (fun ls hl => ?_)
    refine lv_iload_n X.1 X.2.1 dX9_bestLeft_23 rfl (lv_at hl 0 rfl) ?_
    refine lv_ldcw (v := 268435456) X.1 X.2.1 X.2.2.2.1 (si_wd X gk_RX9_322) dX9_bestLeft_24 ?_
    refine lv_icmp_ne (tgt := 35) X.1 X.2.1 dX9_bestLeft_27 (by decide) (fun c27 => ?_) (fun c27 => ?_)
    · have hf := si_in c27 hf
      refine lv_iload_n X.1 X.2.1 dX9_bestLeft_35 rfl (lv_at hl 0 rfl) ?_
      obtain ⟨q4, eq4, hf⟩ := si_ob hf
      refine si_cSi [.int q3.1] cal_X5_leftPan gm_RX9_323 X hw hA hl.1 (c_X5_leftPan l E F q3.1 q3.2 q4 eq4) ⟨⟨rfl, rfl⟩, Nat.le_of_ble_eq_true rfl, Nat.le_of_ble_eq_true rfl⟩ rfl rfl (Nat.le_of_ble_eq_true rfl) ⟨Nat.zero_le _, Nat.zero_le _⟩ dX9_bestLeft_36 (fun H locs hw => ?_)
      exact B39 _ _ _ _ _ hf hw (lv_sub hl [] rfl)
    · have hf := si_ip c27 hf
      refine lv_bipush (v := (-2)) X.1 X.2.1 dX9_bestLeft_30 (by decide) ?_
      refine lv_goto (tgt := 39) X.1 X.2.1 dX9_bestLeft_32 (by decide) ?_
      exact B39 _ _ _ _ _ hf hw (lv_sub hl [] rfl)
  · have hf := si_ip c5 hf
    refine lv_iconst (v := (-1)) X.1 X.2.1 dX9_bestLeft_8 (by decide) ?_
    exact hret _ _ _ _ _ _ hf hw dX9_bestLeft_9
abbrev rm_X9_bestRight : Room := { frames := 6, cells := 0, slots := 0, locals := 144 }
set_option maxHeartbeats 4000000 in
set_option maxRecDepth 100000 in
theorem c_X9_bestRight (l : Launch) (E : si_Ev) (F : Nat) (x1 : Int32) (S : si_St) (o : Int32 × si_St) (hf : f_X9_bestRight F x1 S = some o) : si_Mi l E yX9_bestRight cX9_bestRight 3 (some .int) rm_X9_bestRight [.ref (E.2.1 0), .int x1] S o := by
  refine si_ofWi (plainFor_of_name (by decide +kernel)) (Nat.le_of_ble_eq_true rfl) ?_
  intro p e s m args below meth c ls Q A X hw hA hl hret
  have hl : lv_has ls 3 [(0, .ref (E.2.1 0)), (1, .int x1)] := hl
  have B39 : ∀ (t0 : Int32) (S : si_St) (H : Heap) (locs : List Loc) (ls : Array Slot), f_X9_bestRight_h39 F t0 S = some o → si_Ws E A s.heap S H locs → lv_has ls 3 [] → W p l e rm_X9_bestRight s m args below meth c H locs 0 0 Q (F0 m 39 ls [.int t0]) := by
    intro t0  S H locs ls hf hw hl
    unfold f_X9_bestRight_h39 at hf
    exact hret _ _ _ _ _ _ hf hw dX9_bestRight_39
  unfold f_X9_bestRight at hf
  refine lv_aload_n X.1 X.2.1 dX9_bestRight_0 rfl (lv_at hl 0 rfl) ?_
  refine lv_iload_n X.1 X.2.1 dX9_bestRight_1 rfl (lv_at hl 1 rfl) ?_
  obtain ⟨q1, eq1, hf⟩ := si_ob hf
  refine si_cVi [.int x1] cal_X9_hasSet gm_RX9_265 X hw hA hl.1 (c_X9_hasSet l E F x1 S q1 eq1) si_cl9 rfl ⟨⟨rfl, rfl⟩, Nat.le_of_ble_eq_true rfl, Nat.le_of_ble_eq_true rfl⟩ rfl rfl (Nat.le_of_ble_eq_true rfl) ⟨Nat.zero_le _, Nat.zero_le _⟩ dX9_bestRight_2 (fun H locs hw => ?_)
  refine lv_if_ne (tgt := 10) X.1 X.2.1 dX9_bestRight_5 (by decide) (fun c5 => ?_) (fun c5 => ?_)
  · have hf := si_in c5 hf
    refine lv_aload_n X.1 X.2.1 dX9_bestRight_10 rfl (lv_at hl 0 rfl) ?_
    refine lv_iload_n X.1 X.2.1 dX9_bestRight_11 rfl (lv_at hl 1 rfl) ?_
    obtain ⟨S2, eS2, hf⟩ := si_ob hf
    refine si_cVv [.int x1] cal_X9_chooseSet gm_RX9_309 X hw hA hl.1 (c_X9_chooseSet l E F x1 q1.2 S2 eS2) si_cl9 rfl ⟨⟨rfl, rfl⟩, Nat.le_of_ble_eq_true rfl, Nat.le_of_ble_eq_true rfl⟩ rfl rfl (Nat.le_of_ble_eq_true rfl) ⟨Nat.zero_le _, Nat.zero_le _⟩ dX9_bestRight_12 (fun H locs hw => ?_)
    refine lv_aload_n X.1 X.2.1 dX9_bestRight_15 rfl (lv_at hl 0 rfl) ?_
    refine si_getR (k' := 65) (d := 65) X hw si_cl9 8 (by decide) gf_RX9_64 rfl rfl rfl (by decide) rfl dX9_bestRight_16 ?_
    obtain ⟨q3, eq3, hf⟩ := si_ob hf
    refine si_cVi [] cal_X5_bestWeighing gm_RX9_319 X hw hA hl.1 (c_X5_bestWeighing l E F S2 q3 eq3) si_cl5 rfl ⟨⟨rfl, rfl⟩, Nat.le_of_ble_eq_true rfl, Nat.le_of_ble_eq_true rfl⟩ rfl rfl (Nat.le_of_ble_eq_true rfl) ⟨Nat.zero_le _, Nat.zero_le _⟩ dX9_bestRight_19 (fun H locs hw => ?_)
    refine lv_istore_n (lv' := [(2, .int q3.1), (0, .ref (E.2.1 0)), (1, .int x1)]) X.1 X.2.1 dX9_bestRight_22 rfl hl (by decide) rfl (fun ls hl => ?_)
    refine lv_iload_n X.1 X.2.1 dX9_bestRight_23 rfl (lv_at hl 0 rfl) ?_
    refine lv_ldcw (v := 268435456) X.1 X.2.1 X.2.2.2.1 (si_wd X gk_RX9_322) dX9_bestRight_24 ?_
    refine lv_icmp_ne (tgt := 35) X.1 X.2.1 dX9_bestRight_27 (by decide) (fun c27 => ?_) (fun c27 => ?_)
    · have hf := si_in c27 hf
      refine lv_iload_n X.1 X.2.1 dX9_bestRight_35 rfl (lv_at hl 0 rfl) ?_
      obtain ⟨q4, eq4, hf⟩ := si_ob hf
      refine si_cSi [.int q3.1] cal_X5_rightPan gm_RX9_326 X hw hA hl.1 (c_X5_rightPan l E F q3.1 q3.2 q4 eq4) ⟨⟨rfl, rfl⟩, Nat.le_of_ble_eq_true rfl, Nat.le_of_ble_eq_true rfl⟩ rfl rfl (Nat.le_of_ble_eq_true rfl) ⟨Nat.zero_le _, Nat.zero_le _⟩ dX9_bestRight_36 (fun H locs hw => ?_)
      exact B39 _ _ _ _ _ hf hw (lv_sub hl [] rfl)
    · have hf := si_ip c27 hf
      refine lv_bipush (v := (-2)) X.1 X.2.1 dX9_bestRight_30 (by decide) ?_
      refine lv_goto (tgt := 39) X.1 X.2.1 dX9_bestRight_32 (by decide) ?_
      exact B39 _ _ _ _ _ hf hw (lv_sub hl [] rfl)
  · have hf := si_ip c5 hf
    refine lv_iconst (v := (-1)) X.1 X.2.1 dX9_bestRight_8 (by decide) ?_
    exact hret _ _ _ _ _ _ hf hw dX9_bestRight_9
abbrev rm_X9_fewestWeighings : Room := { frames := 5, cells := 0, slots := 0, locals := 123 }
set_option maxHeartbeats 4000000 in
set_option maxRecDepth 100000 in
theorem c_X9_fewestWeighings (l : Launch) (E : si_Ev) (F : Nat) (x1 : Int32) (x2 : Int32) (S : si_St) (o : Int32 × si_St) (hf : f_X9_fewestWeighings F x1 x2 S = some o) : si_Mi l E yX9_fewestWeighings cX9_fewestWeighings 4 (some .int) rm_X9_fewestWeighings [.ref (E.2.1 0), .int x1, .int x2] S o := by
  refine si_ofWi (plainFor_of_name (by decide +kernel)) (Nat.le_of_ble_eq_true rfl) ?_
  intro p e s m args below meth c ls Q A X hw hA hl hret
  have hl : lv_has ls 4 [(0, .ref (E.2.1 0)), (1, .int x1), (2, .int x2)] := hl
  have B11 : ∀ (S : si_St) (H : Heap) (locs : List Loc) (ls : Array Slot), f_X9_fewestWeighings_h11 F S = some o → si_Ws E A s.heap S H locs → lv_has ls 4 [] → W p l e rm_X9_fewestWeighings s m args below meth c H locs 0 0 Q (F0 m 11 ls []) := by
    intro   S H locs ls hf hw hl
    unfold f_X9_fewestWeighings_h11 at hf
    refine lv_iconst (v := (-1)) X.1 X.2.1 dX9_fewestWeighings_11 (by decide) ?_
    exact hret _ _ _ _ _ _ hf hw dX9_fewestWeighings_12
  have B35 : ∀ (t0 : Int32) (t1 : Int32) (t2 : Int32) (t3 : Int32) (S : si_St) (H : Heap) (locs : List Loc) (ls : Array Slot), f_X9_fewestWeighings_h35 F t0 t1 t2 t3 S = some o → si_Ws E A s.heap S H locs → lv_has ls 4 [(0, .ref (E.2.1 0))] → W p l e rm_X9_fewestWeighings s m args below meth c H locs 0 0 Q (F0 m 35 ls [.int t0, .int t1, .int t2, .int t3, .ref (E.2.1 65)]) := by
    intro t0 t1 t2 t3  S H locs ls hf hw hl
    unfold f_X9_fewestWeighings_h35 at hf
    obtain ⟨S1, eS1, hf⟩ := si_ob hf
    refine si_cVv [.int t3, .int t2, .int t1, .int t0] cal_X5_choose gm_RX9_329 X hw hA hl.1 (c_X5_choose l E F t3 t2 t1 t0 S S1 eS1) si_cl5 rfl ⟨⟨rfl, rfl⟩, Nat.le_of_ble_eq_true rfl, Nat.le_of_ble_eq_true rfl⟩ rfl rfl (Nat.le_of_ble_eq_true rfl) ⟨Nat.zero_le _, Nat.zero_le _⟩ dX9_fewestWeighings_35 (fun H locs hw => ?_)
    refine lv_aload_n X.1 X.2.1 dX9_fewestWeighings_38 rfl (lv_at hl 0 rfl) ?_
    refine si_getR (k' := 65) (d := 65) X hw si_cl9 8 (by decide) gf_RX9_64 rfl rfl rfl (by decide) rfl dX9_fewestWeighings_39 ?_
    obtain ⟨q2, eq2, hf⟩ := si_ob hf
    refine si_cVi [] cal_X5_needed gm_RX9_312 X hw hA hl.1 (c_X5_needed l E F S1 q2 eq2) si_cl5 rfl ⟨⟨rfl, rfl⟩, Nat.le_of_ble_eq_true rfl, Nat.le_of_ble_eq_true rfl⟩ rfl rfl (Nat.le_of_ble_eq_true rfl) ⟨Nat.zero_le _, Nat.zero_le _⟩ dX9_fewestWeighings_42 (fun H locs hw => ?_)
    obtain ⟨q3, eq3, hf⟩ := si_ob hf
    refine si_cSi [.int q2.1] cal_X9_orNone gm_RX9_316 X hw hA hl.1 (c_X9_orNone l E F q2.1 q2.2 q3 eq3) ⟨⟨rfl, rfl⟩, Nat.le_of_ble_eq_true rfl, Nat.le_of_ble_eq_true rfl⟩ rfl rfl (Nat.le_of_ble_eq_true rfl) ⟨Nat.zero_le _, Nat.zero_le _⟩ dX9_fewestWeighings_45 (fun H locs hw => ?_)
    exact hret _ _ _ _ _ _ hf hw dX9_fewestWeighings_48
  unfold f_X9_fewestWeighings at hf
  refine lv_iload_n X.1 X.2.1 dX9_fewestWeighings_0 rfl (lv_at hl 1 rfl) ?_
  refine lv_iconst (v := 2) X.1 X.2.1 dX9_fewestWeighings_1 (by decide) ?_
  refine lv_icmp_lt (tgt := 11) X.1 X.2.1 dX9_fewestWeighings_2 (by decide) (fun c2 => ?_) (fun c2 => ?_)
  · have hf := si_ip c2 hf
    exact B11 _ _ _ _ hf hw (lv_sub hl [] rfl)
  · have hf := si_in c2 hf
    refine lv_iload_n X.1 X.2.1 dX9_fewestWeighings_5 rfl (lv_at hl 1 rfl) ?_
    refine lv_bipush (v := 12) X.1 X.2.1 dX9_fewestWeighings_6 (by decide) ?_
    refine lv_icmp_le (tgt := 13) X.1 X.2.1 dX9_fewestWeighings_8 (by decide) (fun c8 => ?_) (fun c8 => ?_)
    · have hf := si_ip c8 hf
      refine lv_iconst (v := 1) X.1 X.2.1 dX9_fewestWeighings_13 (by decide) ?_
      refine lv_iload_n X.1 X.2.1 dX9_fewestWeighings_14 rfl (lv_at hl 1 rfl) ?_
      refine lv_ishl X.1 X.2.1 dX9_fewestWeighings_15 ?_
      refine lv_iconst (v := 1) X.1 X.2.1 dX9_fewestWeighings_16 (by decide) ?_
      refine lv_isub X.1 X.2.1 dX9_fewestWeighings_17 ?_
      obtain ⟨v4, ev4, hf⟩ := si_ob hf
      refine si_nmI ev4 ?_
      refine lv_istore_n (lv' := [(3, .int v4), (0, .ref (E.2.1 0)), (1, .int x1), (2, .int x2)]) X.1 X.2.1 dX9_fewestWeighings_18 rfl hl (by decide) rfl (fun ls hl => ?_)
      refine lv_aload_n X.1 X.2.1 dX9_fewestWeighings_19 rfl (lv_at hl 1 rfl) ?_
      refine si_getR (k' := 65) (d := 65) X hw si_cl9 8 (by decide) gf_RX9_64 rfl rfl rfl (by decide) rfl dX9_fewestWeighings_20 ?_
      refine lv_iload_n X.1 X.2.1 dX9_fewestWeighings_23 rfl (lv_at hl 2 rfl) ?_
      refine lv_iload_n X.1 X.2.1 dX9_fewestWeighings_24 rfl (lv_at hl 0 rfl) ?_
      refine lv_iload_n X.1 X.2.1 dX9_fewestWeighings_25 rfl (lv_at hl 0 rfl) ?_
      refine lv_iload_n X.1 X.2.1 dX9_fewestWeighings_26 rfl (lv_at hl 3 rfl) ?_
      refine lv_if_eq (tgt := 34) X.1 X.2.1 dX9_fewestWeighings_27 (by decide) (fun c27 => ?_) (fun c27 => ?_)
      · have hf := si_ip c27 hf
        refine lv_iconst (v := 0) X.1 X.2.1 dX9_fewestWeighings_34 (by decide) ?_
        exact B35 _ _ _ _ _ _ _ _ hf hw (lv_sub hl [1] rfl)
      · have hf := si_in c27 hf
        refine lv_iconst (v := 1) X.1 X.2.1 dX9_fewestWeighings_30 (by decide) ?_
        refine lv_goto (tgt := 35) X.1 X.2.1 dX9_fewestWeighings_31 (by decide) ?_
        exact B35 _ _ _ _ _ _ _ _ hf hw (lv_sub hl [1] rfl)
    · have hf := si_in c8 hf
      exact B11 _ _ _ _ hf hw (lv_sub hl [] rfl)

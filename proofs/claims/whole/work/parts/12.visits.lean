theorem dX7_copyFrom_0 : decode cX7_copyFrom 0 = .ok (.aload_n 0, 1) := by decide +kernel
theorem dX7_copyFrom_1 : decode cX7_copyFrom 1 = .ok (.aload_n 1, 1) := by decide +kernel
theorem dX7_copyFrom_2 : decode cX7_copyFrom 2 = .ok (.getfield 36, 3) := by decide +kernel
theorem dX7_copyFrom_5 : decode cX7_copyFrom 5 = .ok (.putfield 36, 3) := by decide +kernel
theorem dX7_copyFrom_8 : decode cX7_copyFrom 8 = .ok (.aload_n 1, 1) := by decide +kernel
theorem dX7_copyFrom_9 : decode cX7_copyFrom 9 = .ok (.getfield 9, 3) := by decide +kernel
theorem dX7_copyFrom_12 : decode cX7_copyFrom 12 = .ok (.iconst 0, 1) := by decide +kernel
theorem dX7_copyFrom_13 : decode cX7_copyFrom 13 = .ok (.aload_n 0, 1) := by decide +kernel
theorem dX7_copyFrom_14 : decode cX7_copyFrom 14 = .ok (.getfield 9, 3) := by decide +kernel
theorem dX7_copyFrom_17 : decode cX7_copyFrom 17 = .ok (.iconst 0, 1) := by decide +kernel
theorem dX7_copyFrom_18 : decode cX7_copyFrom 18 = .ok (.bipush 30, 2) := by decide +kernel
theorem dX7_copyFrom_20 : decode cX7_copyFrom 20 = .ok (.invokestatic 40, 3) := by decide +kernel
theorem dX7_copyFrom_23 : decode cX7_copyFrom 23 = .ok (.aload_n 1, 1) := by decide +kernel
theorem dX7_copyFrom_24 : decode cX7_copyFrom 24 = .ok (.getfield 15, 3) := by decide +kernel
theorem dX7_copyFrom_27 : decode cX7_copyFrom 27 = .ok (.iconst 0, 1) := by decide +kernel
theorem dX7_copyFrom_28 : decode cX7_copyFrom 28 = .ok (.aload_n 0, 1) := by decide +kernel
theorem dX7_copyFrom_29 : decode cX7_copyFrom 29 = .ok (.getfield 15, 3) := by decide +kernel
theorem dX7_copyFrom_32 : decode cX7_copyFrom 32 = .ok (.iconst 0, 1) := by decide +kernel
theorem dX7_copyFrom_33 : decode cX7_copyFrom 33 = .ok (.bipush 30, 2) := by decide +kernel
theorem dX7_copyFrom_35 : decode cX7_copyFrom 35 = .ok (.invokestatic 40, 3) := by decide +kernel
theorem dX7_copyFrom_38 : decode cX7_copyFrom 38 = .ok (.aload_n 1, 1) := by decide +kernel
theorem dX7_copyFrom_39 : decode cX7_copyFrom 39 = .ok (.getfield 18, 3) := by decide +kernel
theorem dX7_copyFrom_42 : decode cX7_copyFrom 42 = .ok (.iconst 0, 1) := by decide +kernel
theorem dX7_copyFrom_43 : decode cX7_copyFrom 43 = .ok (.aload_n 0, 1) := by decide +kernel
theorem dX7_copyFrom_44 : decode cX7_copyFrom 44 = .ok (.getfield 18, 3) := by decide +kernel
theorem dX7_copyFrom_47 : decode cX7_copyFrom 47 = .ok (.iconst 0, 1) := by decide +kernel
theorem dX7_copyFrom_48 : decode cX7_copyFrom 48 = .ok (.bipush 30, 2) := by decide +kernel
theorem dX7_copyFrom_50 : decode cX7_copyFrom 50 = .ok (.invokestatic 40, 3) := by decide +kernel
theorem dX7_copyFrom_53 : decode cX7_copyFrom 53 = .ok (.aload_n 1, 1) := by decide +kernel
theorem dX7_copyFrom_54 : decode cX7_copyFrom 54 = .ok (.getfield 21, 3) := by decide +kernel
theorem dX7_copyFrom_57 : decode cX7_copyFrom 57 = .ok (.iconst 0, 1) := by decide +kernel
theorem dX7_copyFrom_58 : decode cX7_copyFrom 58 = .ok (.aload_n 0, 1) := by decide +kernel
theorem dX7_copyFrom_59 : decode cX7_copyFrom 59 = .ok (.getfield 21, 3) := by decide +kernel
theorem dX7_copyFrom_62 : decode cX7_copyFrom 62 = .ok (.iconst 0, 1) := by decide +kernel
theorem dX7_copyFrom_63 : decode cX7_copyFrom 63 = .ok (.bipush 30, 2) := by decide +kernel
theorem dX7_copyFrom_65 : decode cX7_copyFrom 65 = .ok (.invokestatic 40, 3) := by decide +kernel
theorem dX7_copyFrom_68 : decode cX7_copyFrom 68 = .ok (.aload_n 1, 1) := by decide +kernel
theorem dX7_copyFrom_69 : decode cX7_copyFrom 69 = .ok (.getfield 24, 3) := by decide +kernel
theorem dX7_copyFrom_72 : decode cX7_copyFrom 72 = .ok (.iconst 0, 1) := by decide +kernel
theorem dX7_copyFrom_73 : decode cX7_copyFrom 73 = .ok (.aload_n 0, 1) := by decide +kernel
theorem dX7_copyFrom_74 : decode cX7_copyFrom 74 = .ok (.getfield 24, 3) := by decide +kernel
theorem dX7_copyFrom_77 : decode cX7_copyFrom 77 = .ok (.iconst 0, 1) := by decide +kernel
theorem dX7_copyFrom_78 : decode cX7_copyFrom 78 = .ok (.bipush 30, 2) := by decide +kernel
theorem dX7_copyFrom_80 : decode cX7_copyFrom 80 = .ok (.invokestatic 40, 3) := by decide +kernel
theorem dX7_copyFrom_83 : decode cX7_copyFrom 83 = .ok (.aload_n 1, 1) := by decide +kernel
theorem dX7_copyFrom_84 : decode cX7_copyFrom 84 = .ok (.getfield 27, 3) := by decide +kernel
theorem dX7_copyFrom_87 : decode cX7_copyFrom 87 = .ok (.iconst 0, 1) := by decide +kernel
theorem dX7_copyFrom_88 : decode cX7_copyFrom 88 = .ok (.aload_n 0, 1) := by decide +kernel
theorem dX7_copyFrom_89 : decode cX7_copyFrom 89 = .ok (.getfield 27, 3) := by decide +kernel
theorem dX7_copyFrom_92 : decode cX7_copyFrom 92 = .ok (.iconst 0, 1) := by decide +kernel
theorem dX7_copyFrom_93 : decode cX7_copyFrom 93 = .ok (.sipush 240, 3) := by decide +kernel
theorem dX7_copyFrom_96 : decode cX7_copyFrom 96 = .ok (.invokestatic 40, 3) := by decide +kernel
theorem dX7_copyFrom_99 : decode cX7_copyFrom 99 = .ok (.aload_n 1, 1) := by decide +kernel
theorem dX7_copyFrom_100 : decode cX7_copyFrom 100 = .ok (.getfield 30, 3) := by decide +kernel
theorem dX7_copyFrom_103 : decode cX7_copyFrom 103 = .ok (.iconst 0, 1) := by decide +kernel
theorem dX7_copyFrom_104 : decode cX7_copyFrom 104 = .ok (.aload_n 0, 1) := by decide +kernel
theorem dX7_copyFrom_105 : decode cX7_copyFrom 105 = .ok (.getfield 30, 3) := by decide +kernel
theorem dX7_copyFrom_108 : decode cX7_copyFrom 108 = .ok (.iconst 0, 1) := by decide +kernel
theorem dX7_copyFrom_109 : decode cX7_copyFrom 109 = .ok (.sipush 240, 3) := by decide +kernel
theorem dX7_copyFrom_112 : decode cX7_copyFrom 112 = .ok (.invokestatic 40, 3) := by decide +kernel
theorem dX7_copyFrom_115 : decode cX7_copyFrom 115 = .ok (.aload_n 1, 1) := by decide +kernel
theorem dX7_copyFrom_116 : decode cX7_copyFrom 116 = .ok (.getfield 33, 3) := by decide +kernel
theorem dX7_copyFrom_119 : decode cX7_copyFrom 119 = .ok (.iconst 0, 1) := by decide +kernel
theorem dX7_copyFrom_120 : decode cX7_copyFrom 120 = .ok (.aload_n 0, 1) := by decide +kernel
theorem dX7_copyFrom_121 : decode cX7_copyFrom 121 = .ok (.getfield 33, 3) := by decide +kernel
theorem dX7_copyFrom_124 : decode cX7_copyFrom 124 = .ok (.iconst 0, 1) := by decide +kernel
theorem dX7_copyFrom_125 : decode cX7_copyFrom 125 = .ok (.sipush 240, 3) := by decide +kernel
theorem dX7_copyFrom_128 : decode cX7_copyFrom 128 = .ok (.invokestatic 40, 3) := by decide +kernel
theorem dX7_copyFrom_131 : decode cX7_copyFrom 131 = .ok (.return_, 1) := by decide +kernel
theorem dX7_isOpen_0 : decode cX7_isOpen 0 = .ok (.aload_n 0, 1) := by decide +kernel
theorem dX7_isOpen_1 : decode cX7_isOpen 1 = .ok (.getfield 21, 3) := by decide +kernel
theorem dX7_isOpen_4 : decode cX7_isOpen 4 = .ok (.iload_n 1, 1) := by decide +kernel
theorem dX7_isOpen_5 : decode cX7_isOpen 5 = .ok (.iaload, 1) := by decide +kernel
theorem dX7_isOpen_6 : decode cX7_isOpen 6 = .ok (.iconst (-1), 1) := by decide +kernel
theorem dX7_isOpen_7 : decode cX7_isOpen 7 = .ok (.if_icmp .ne 7, 3) := by decide +kernel
theorem dX7_isOpen_10 : decode cX7_isOpen 10 = .ok (.iconst 1, 1) := by decide +kernel
theorem dX7_isOpen_11 : decode cX7_isOpen 11 = .ok (.goto 4, 3) := by decide +kernel
theorem dX7_isOpen_14 : decode cX7_isOpen 14 = .ok (.iconst 0, 1) := by decide +kernel
theorem dX7_isOpen_15 : decode cX7_isOpen 15 = .ok (.ireturn, 1) := by decide +kernel
theorem dX7_hasOpenVisit_0 : decode cX7_hasOpenVisit 0 = .ok (.iconst 0, 1) := by decide +kernel
theorem dX7_hasOpenVisit_1 : decode cX7_hasOpenVisit 1 = .ok (.istore_n 2, 1) := by decide +kernel
theorem dX7_hasOpenVisit_2 : decode cX7_hasOpenVisit 2 = .ok (.iload_n 2, 1) := by decide +kernel
theorem dX7_hasOpenVisit_3 : decode cX7_hasOpenVisit 3 = .ok (.aload_n 0, 1) := by decide +kernel
theorem dX7_hasOpenVisit_4 : decode cX7_hasOpenVisit 4 = .ok (.getfield 36, 3) := by decide +kernel
theorem dX7_hasOpenVisit_7 : decode cX7_hasOpenVisit 7 = .ok (.if_icmp .ge 29, 3) := by decide +kernel
theorem dX7_hasOpenVisit_10 : decode cX7_hasOpenVisit 10 = .ok (.aload_n 0, 1) := by decide +kernel
theorem dX7_hasOpenVisit_11 : decode cX7_hasOpenVisit 11 = .ok (.getfield 9, 3) := by decide +kernel
theorem dX7_hasOpenVisit_14 : decode cX7_hasOpenVisit 14 = .ok (.iload_n 2, 1) := by decide +kernel
theorem dX7_hasOpenVisit_15 : decode cX7_hasOpenVisit 15 = .ok (.iaload, 1) := by decide +kernel
theorem dX7_hasOpenVisit_16 : decode cX7_hasOpenVisit 16 = .ok (.iload_n 1, 1) := by decide +kernel
theorem dX7_hasOpenVisit_17 : decode cX7_hasOpenVisit 17 = .ok (.if_icmp .ne 13, 3) := by decide +kernel
theorem dX7_hasOpenVisit_20 : decode cX7_hasOpenVisit 20 = .ok (.aload_n 0, 1) := by decide +kernel
theorem dX7_hasOpenVisit_21 : decode cX7_hasOpenVisit 21 = .ok (.iload_n 2, 1) := by decide +kernel
theorem dX7_hasOpenVisit_22 : decode cX7_hasOpenVisit 22 = .ok (.invokevirtual 46, 3) := by decide +kernel
theorem dX7_hasOpenVisit_25 : decode cX7_hasOpenVisit 25 = .ok (.ifCond .eq 5, 3) := by decide +kernel
theorem dX7_hasOpenVisit_28 : decode cX7_hasOpenVisit 28 = .ok (.iconst 1, 1) := by decide +kernel
theorem dX7_hasOpenVisit_29 : decode cX7_hasOpenVisit 29 = .ok (.ireturn, 1) := by decide +kernel
theorem dX7_hasOpenVisit_30 : decode cX7_hasOpenVisit 30 = .ok (.iinc 2 1, 3) := by decide +kernel
theorem dX7_hasOpenVisit_33 : decode cX7_hasOpenVisit 33 = .ok (.goto (-31), 3) := by decide +kernel
theorem dX7_hasOpenVisit_36 : decode cX7_hasOpenVisit 36 = .ok (.iconst 0, 1) := by decide +kernel
theorem dX7_hasOpenVisit_37 : decode cX7_hasOpenVisit 37 = .ok (.ireturn, 1) := by decide +kernel
theorem dX7_lastDayOf_0 : decode cX7_lastDayOf 0 = .ok (.iconst 0, 1) := by decide +kernel
theorem dX7_lastDayOf_1 : decode cX7_lastDayOf 1 = .ok (.istore_n 2, 1) := by decide +kernel
theorem dX7_lastDayOf_2 : decode cX7_lastDayOf 2 = .ok (.iconst 0, 1) := by decide +kernel
theorem dX7_lastDayOf_3 : decode cX7_lastDayOf 3 = .ok (.istore_n 3, 1) := by decide +kernel
theorem dX7_lastDayOf_4 : decode cX7_lastDayOf 4 = .ok (.iload_n 3, 1) := by decide +kernel
theorem dX7_lastDayOf_5 : decode cX7_lastDayOf 5 = .ok (.aload_n 0, 1) := by decide +kernel
theorem dX7_lastDayOf_6 : decode cX7_lastDayOf 6 = .ok (.getfield 36, 3) := by decide +kernel
theorem dX7_lastDayOf_9 : decode cX7_lastDayOf 9 = .ok (.if_icmp .ge 30, 3) := by decide +kernel
theorem dX7_lastDayOf_12 : decode cX7_lastDayOf 12 = .ok (.aload_n 0, 1) := by decide +kernel
theorem dX7_lastDayOf_13 : decode cX7_lastDayOf 13 = .ok (.getfield 9, 3) := by decide +kernel
theorem dX7_lastDayOf_16 : decode cX7_lastDayOf 16 = .ok (.iload_n 3, 1) := by decide +kernel
theorem dX7_lastDayOf_17 : decode cX7_lastDayOf 17 = .ok (.iaload, 1) := by decide +kernel
theorem dX7_lastDayOf_18 : decode cX7_lastDayOf 18 = .ok (.iload_n 1, 1) := by decide +kernel
theorem dX7_lastDayOf_19 : decode cX7_lastDayOf 19 = .ok (.if_icmp .ne 14, 3) := by decide +kernel
theorem dX7_lastDayOf_22 : decode cX7_lastDayOf 22 = .ok (.iload_n 2, 1) := by decide +kernel
theorem dX7_lastDayOf_23 : decode cX7_lastDayOf 23 = .ok (.aload_n 0, 1) := by decide +kernel
theorem dX7_lastDayOf_24 : decode cX7_lastDayOf 24 = .ok (.getfield 15, 3) := by decide +kernel
theorem dX7_lastDayOf_27 : decode cX7_lastDayOf 27 = .ok (.iload_n 3, 1) := by decide +kernel
theorem dX7_lastDayOf_28 : decode cX7_lastDayOf 28 = .ok (.iaload, 1) := by decide +kernel
theorem dX7_lastDayOf_29 : decode cX7_lastDayOf 29 = .ok (.invokestatic 50, 3) := by decide +kernel
theorem dX7_lastDayOf_32 : decode cX7_lastDayOf 32 = .ok (.istore_n 2, 1) := by decide +kernel
theorem dX7_lastDayOf_33 : decode cX7_lastDayOf 33 = .ok (.iinc 3 1, 3) := by decide +kernel
theorem dX7_lastDayOf_36 : decode cX7_lastDayOf 36 = .ok (.goto (-32), 3) := by decide +kernel
theorem dX7_lastDayOf_39 : decode cX7_lastDayOf 39 = .ok (.iload_n 2, 1) := by decide +kernel
theorem dX7_lastDayOf_40 : decode cX7_lastDayOf 40 = .ok (.ireturn, 1) := by decide +kernel
theorem dX7_hasPassed_0 : decode cX7_hasPassed 0 = .ok (.iconst 0, 1) := by decide +kernel
theorem dX7_hasPassed_1 : decode cX7_hasPassed 1 = .ok (.istore_n 2, 1) := by decide +kernel
theorem dX7_hasPassed_2 : decode cX7_hasPassed 2 = .ok (.iload_n 2, 1) := by decide +kernel
theorem dX7_hasPassed_3 : decode cX7_hasPassed 3 = .ok (.aload_n 0, 1) := by decide +kernel
theorem dX7_hasPassed_4 : decode cX7_hasPassed 4 = .ok (.getfield 36, 3) := by decide +kernel
theorem dX7_hasPassed_7 : decode cX7_hasPassed 7 = .ok (.if_icmp .ge 30, 3) := by decide +kernel
theorem dX7_hasPassed_10 : decode cX7_hasPassed 10 = .ok (.aload_n 0, 1) := by decide +kernel
theorem dX7_hasPassed_11 : decode cX7_hasPassed 11 = .ok (.getfield 9, 3) := by decide +kernel
theorem dX7_hasPassed_14 : decode cX7_hasPassed 14 = .ok (.iload_n 2, 1) := by decide +kernel
theorem dX7_hasPassed_15 : decode cX7_hasPassed 15 = .ok (.iaload, 1) := by decide +kernel
theorem dX7_hasPassed_16 : decode cX7_hasPassed 16 = .ok (.iload_n 1, 1) := by decide +kernel
theorem dX7_hasPassed_17 : decode cX7_hasPassed 17 = .ok (.if_icmp .ne 14, 3) := by decide +kernel
theorem dX7_hasPassed_20 : decode cX7_hasPassed 20 = .ok (.aload_n 0, 1) := by decide +kernel
theorem dX7_hasPassed_21 : decode cX7_hasPassed 21 = .ok (.getfield 21, 3) := by decide +kernel
theorem dX7_hasPassed_24 : decode cX7_hasPassed 24 = .ok (.iload_n 2, 1) := by decide +kernel
theorem dX7_hasPassed_25 : decode cX7_hasPassed 25 = .ok (.iaload, 1) := by decide +kernel
theorem dX7_hasPassed_26 : decode cX7_hasPassed 26 = .ok (.ifCond .ne 5, 3) := by decide +kernel
theorem dX7_hasPassed_29 : decode cX7_hasPassed 29 = .ok (.iconst 1, 1) := by decide +kernel
theorem dX7_hasPassed_30 : decode cX7_hasPassed 30 = .ok (.ireturn, 1) := by decide +kernel
theorem dX7_hasPassed_31 : decode cX7_hasPassed 31 = .ok (.iinc 2 1, 3) := by decide +kernel
theorem dX7_hasPassed_34 : decode cX7_hasPassed 34 = .ok (.goto (-32), 3) := by decide +kernel
theorem dX7_hasPassed_37 : decode cX7_hasPassed 37 = .ok (.iconst 0, 1) := by decide +kernel
theorem dX7_hasPassed_38 : decode cX7_hasPassed 38 = .ok (.ireturn, 1) := by decide +kernel
theorem dX7_addVisit_0 : decode cX7_addVisit 0 = .ok (.aload_n 0, 1) := by decide +kernel
theorem dX7_addVisit_1 : decode cX7_addVisit 1 = .ok (.getfield 36, 3) := by decide +kernel
theorem dX7_addVisit_4 : decode cX7_addVisit 4 = .ok (.istore_n 3, 1) := by decide +kernel
theorem dX7_addVisit_5 : decode cX7_addVisit 5 = .ok (.aload_n 0, 1) := by decide +kernel
theorem dX7_addVisit_6 : decode cX7_addVisit 6 = .ok (.getfield 9, 3) := by decide +kernel
theorem dX7_addVisit_9 : decode cX7_addVisit 9 = .ok (.iload_n 3, 1) := by decide +kernel
theorem dX7_addVisit_10 : decode cX7_addVisit 10 = .ok (.iload_n 1, 1) := by decide +kernel
theorem dX7_addVisit_11 : decode cX7_addVisit 11 = .ok (.iastore, 1) := by decide +kernel
theorem dX7_addVisit_12 : decode cX7_addVisit 12 = .ok (.aload_n 0, 1) := by decide +kernel
theorem dX7_addVisit_13 : decode cX7_addVisit 13 = .ok (.getfield 15, 3) := by decide +kernel
theorem dX7_addVisit_16 : decode cX7_addVisit 16 = .ok (.iload_n 3, 1) := by decide +kernel
theorem dX7_addVisit_17 : decode cX7_addVisit 17 = .ok (.iload_n 2, 1) := by decide +kernel
theorem dX7_addVisit_18 : decode cX7_addVisit 18 = .ok (.iastore, 1) := by decide +kernel
theorem dX7_addVisit_19 : decode cX7_addVisit 19 = .ok (.aload_n 0, 1) := by decide +kernel
theorem dX7_addVisit_20 : decode cX7_addVisit 20 = .ok (.getfield 18, 3) := by decide +kernel
theorem dX7_addVisit_23 : decode cX7_addVisit 23 = .ok (.iload_n 3, 1) := by decide +kernel
theorem dX7_addVisit_24 : decode cX7_addVisit 24 = .ok (.aload_n 0, 1) := by decide +kernel
theorem dX7_addVisit_25 : decode cX7_addVisit 25 = .ok (.iload_n 1, 1) := by decide +kernel
theorem dX7_addVisit_26 : decode cX7_addVisit 26 = .ok (.invokevirtual 56, 3) := by decide +kernel
theorem dX7_addVisit_29 : decode cX7_addVisit 29 = .ok (.ifCond .eq 7, 3) := by decide +kernel
theorem dX7_addVisit_32 : decode cX7_addVisit 32 = .ok (.iconst 1, 1) := by decide +kernel
theorem dX7_addVisit_33 : decode cX7_addVisit 33 = .ok (.goto 4, 3) := by decide +kernel
theorem dX7_addVisit_36 : decode cX7_addVisit 36 = .ok (.iconst 0, 1) := by decide +kernel
theorem dX7_addVisit_37 : decode cX7_addVisit 37 = .ok (.iastore, 1) := by decide +kernel
theorem dX7_addVisit_38 : decode cX7_addVisit 38 = .ok (.aload_n 0, 1) := by decide +kernel
theorem dX7_addVisit_39 : decode cX7_addVisit 39 = .ok (.getfield 21, 3) := by decide +kernel
theorem dX7_addVisit_42 : decode cX7_addVisit 42 = .ok (.iload_n 3, 1) := by decide +kernel
theorem dX7_addVisit_43 : decode cX7_addVisit 43 = .ok (.iconst (-1), 1) := by decide +kernel
theorem dX7_addVisit_44 : decode cX7_addVisit 44 = .ok (.iastore, 1) := by decide +kernel
theorem dX7_addVisit_45 : decode cX7_addVisit 45 = .ok (.aload_n 0, 1) := by decide +kernel
theorem dX7_addVisit_46 : decode cX7_addVisit 46 = .ok (.getfield 24, 3) := by decide +kernel
theorem dX7_addVisit_49 : decode cX7_addVisit 49 = .ok (.iload_n 3, 1) := by decide +kernel
theorem dX7_addVisit_50 : decode cX7_addVisit 50 = .ok (.iconst 0, 1) := by decide +kernel
theorem dX7_addVisit_51 : decode cX7_addVisit 51 = .ok (.iastore, 1) := by decide +kernel
theorem dX7_addVisit_52 : decode cX7_addVisit 52 = .ok (.aload_n 0, 1) := by decide +kernel
theorem dX7_addVisit_53 : decode cX7_addVisit 53 = .ok (.dup, 1) := by decide +kernel
theorem dX7_addVisit_54 : decode cX7_addVisit 54 = .ok (.getfield 36, 3) := by decide +kernel
theorem dX7_addVisit_57 : decode cX7_addVisit 57 = .ok (.iconst 1, 1) := by decide +kernel
theorem dX7_addVisit_58 : decode cX7_addVisit 58 = .ok (.iadd, 1) := by decide +kernel
theorem dX7_addVisit_59 : decode cX7_addVisit 59 = .ok (.putfield 36, 3) := by decide +kernel
theorem dX7_addVisit_62 : decode cX7_addVisit 62 = .ok (.iload_n 3, 1) := by decide +kernel
theorem dX7_addVisit_63 : decode cX7_addVisit 63 = .ok (.ireturn, 1) := by decide +kernel
theorem dX7_addTest_0 : decode cX7_addTest 0 = .ok (.aload_n 0, 1) := by decide +kernel
theorem dX7_addTest_1 : decode cX7_addTest 1 = .ok (.getfield 24, 3) := by decide +kernel
theorem dX7_addTest_4 : decode cX7_addTest 4 = .ok (.iload_n 1, 1) := by decide +kernel
theorem dX7_addTest_5 : decode cX7_addTest 5 = .ok (.iaload, 1) := by decide +kernel
theorem dX7_addTest_6 : decode cX7_addTest 6 = .ok (.istore 5, 2) := by decide +kernel
theorem dX7_addTest_8 : decode cX7_addTest 8 = .ok (.iload_n 1, 1) := by decide +kernel
theorem dX7_addTest_9 : decode cX7_addTest 9 = .ok (.bipush 8, 2) := by decide +kernel
theorem dX7_addTest_11 : decode cX7_addTest 11 = .ok (.imul, 1) := by decide +kernel
theorem dX7_addTest_12 : decode cX7_addTest 12 = .ok (.iload 5, 2) := by decide +kernel
theorem dX7_addTest_14 : decode cX7_addTest 14 = .ok (.iadd, 1) := by decide +kernel
theorem dX7_addTest_15 : decode cX7_addTest 15 = .ok (.istore 6, 2) := by decide +kernel
theorem dX7_addTest_17 : decode cX7_addTest 17 = .ok (.aload_n 0, 1) := by decide +kernel
theorem dX7_addTest_18 : decode cX7_addTest 18 = .ok (.getfield 27, 3) := by decide +kernel
theorem dX7_addTest_21 : decode cX7_addTest 21 = .ok (.iload 6, 2) := by decide +kernel
theorem dX7_addTest_23 : decode cX7_addTest 23 = .ok (.iload_n 2, 1) := by decide +kernel
theorem dX7_addTest_24 : decode cX7_addTest 24 = .ok (.iastore, 1) := by decide +kernel
theorem dX7_addTest_25 : decode cX7_addTest 25 = .ok (.aload_n 0, 1) := by decide +kernel
theorem dX7_addTest_26 : decode cX7_addTest 26 = .ok (.getfield 30, 3) := by decide +kernel
theorem dX7_addTest_29 : decode cX7_addTest 29 = .ok (.iload 6, 2) := by decide +kernel
theorem dX7_addTest_31 : decode cX7_addTest 31 = .ok (.iload_n 3, 1) := by decide +kernel
theorem dX7_addTest_32 : decode cX7_addTest 32 = .ok (.iastore, 1) := by decide +kernel
theorem dX7_addTest_33 : decode cX7_addTest 33 = .ok (.aload_n 0, 1) := by decide +kernel
theorem dX7_addTest_34 : decode cX7_addTest 34 = .ok (.getfield 33, 3) := by decide +kernel
theorem dX7_addTest_37 : decode cX7_addTest 37 = .ok (.iload 6, 2) := by decide +kernel
theorem dX7_addTest_39 : decode cX7_addTest 39 = .ok (.iload 4, 2) := by decide +kernel
theorem dX7_addTest_41 : decode cX7_addTest 41 = .ok (.iastore, 1) := by decide +kernel
theorem dX7_addTest_42 : decode cX7_addTest 42 = .ok (.aload_n 0, 1) := by decide +kernel
theorem dX7_addTest_43 : decode cX7_addTest 43 = .ok (.getfield 24, 3) := by decide +kernel
theorem dX7_addTest_46 : decode cX7_addTest 46 = .ok (.iload_n 1, 1) := by decide +kernel
theorem dX7_addTest_47 : decode cX7_addTest 47 = .ok (.dup2, 1) := by decide +kernel
theorem dX7_addTest_48 : decode cX7_addTest 48 = .ok (.iaload, 1) := by decide +kernel
theorem dX7_addTest_49 : decode cX7_addTest 49 = .ok (.iconst 1, 1) := by decide +kernel
theorem dX7_addTest_50 : decode cX7_addTest 50 = .ok (.iadd, 1) := by decide +kernel
theorem dX7_addTest_51 : decode cX7_addTest 51 = .ok (.iastore, 1) := by decide +kernel
theorem dX7_addTest_52 : decode cX7_addTest 52 = .ok (.iload 5, 2) := by decide +kernel
theorem dX7_addTest_54 : decode cX7_addTest 54 = .ok (.ireturn, 1) := by decide +kernel
theorem dX7_toleranceOf_0 : decode cX7_toleranceOf 0 = .ok (.aload_n 1, 1) := by decide +kernel
theorem dX7_toleranceOf_1 : decode cX7_toleranceOf 1 = .ok (.aload_n 0, 1) := by decide +kernel
theorem dX7_toleranceOf_2 : decode cX7_toleranceOf 2 = .ok (.getfield 9, 3) := by decide +kernel
theorem dX7_toleranceOf_5 : decode cX7_toleranceOf 5 = .ok (.iload_n 2, 1) := by decide +kernel
theorem dX7_toleranceOf_6 : decode cX7_toleranceOf 6 = .ok (.iaload, 1) := by decide +kernel
theorem dX7_toleranceOf_7 : decode cX7_toleranceOf 7 = .ok (.aload_n 0, 1) := by decide +kernel
theorem dX7_toleranceOf_8 : decode cX7_toleranceOf 8 = .ok (.getfield 30, 3) := by decide +kernel
theorem dX7_toleranceOf_11 : decode cX7_toleranceOf 11 = .ok (.iload_n 2, 1) := by decide +kernel
theorem dX7_toleranceOf_12 : decode cX7_toleranceOf 12 = .ok (.bipush 8, 2) := by decide +kernel
theorem dX7_toleranceOf_14 : decode cX7_toleranceOf 14 = .ok (.imul, 1) := by decide +kernel
theorem dX7_toleranceOf_15 : decode cX7_toleranceOf 15 = .ok (.iload_n 3, 1) := by decide +kernel
theorem dX7_toleranceOf_16 : decode cX7_toleranceOf 16 = .ok (.iadd, 1) := by decide +kernel
theorem dX7_toleranceOf_17 : decode cX7_toleranceOf 17 = .ok (.iaload, 1) := by decide +kernel
theorem dX7_toleranceOf_18 : decode cX7_toleranceOf 18 = .ok (.invokevirtual 59, 3) := by decide +kernel
theorem dX7_toleranceOf_21 : decode cX7_toleranceOf 21 = .ok (.istore 4, 2) := by decide +kernel
theorem dX7_toleranceOf_23 : decode cX7_toleranceOf 23 = .ok (.aload_n 0, 1) := by decide +kernel
theorem dX7_toleranceOf_24 : decode cX7_toleranceOf 24 = .ok (.getfield 18, 3) := by decide +kernel
theorem dX7_toleranceOf_27 : decode cX7_toleranceOf 27 = .ok (.iload_n 2, 1) := by decide +kernel
theorem dX7_toleranceOf_28 : decode cX7_toleranceOf 28 = .ok (.iaload, 1) := by decide +kernel
theorem dX7_toleranceOf_29 : decode cX7_toleranceOf 29 = .ok (.iconst 1, 1) := by decide +kernel
theorem dX7_toleranceOf_30 : decode cX7_toleranceOf 30 = .ok (.if_icmp .ne 10, 3) := by decide +kernel
theorem dX7_toleranceOf_33 : decode cX7_toleranceOf 33 = .ok (.iconst 2, 1) := by decide +kernel
theorem dX7_toleranceOf_34 : decode cX7_toleranceOf 34 = .ok (.iload 4, 2) := by decide +kernel
theorem dX7_toleranceOf_36 : decode cX7_toleranceOf 36 = .ok (.imul, 1) := by decide +kernel
theorem dX7_toleranceOf_37 : decode cX7_toleranceOf 37 = .ok (.goto 5, 3) := by decide +kernel
theorem dX7_toleranceOf_40 : decode cX7_toleranceOf 40 = .ok (.iload 4, 2) := by decide +kernel
theorem dX7_toleranceOf_42 : decode cX7_toleranceOf 42 = .ok (.ireturn, 1) := by decide +kernel
theorem dX7_isWithinTolerance_0 : decode cX7_isWithinTolerance 0 = .ok (.aload_n 0, 1) := by decide +kernel
theorem dX7_isWithinTolerance_1 : decode cX7_isWithinTolerance 1 = .ok (.getfield 33, 3) := by decide +kernel
theorem dX7_isWithinTolerance_4 : decode cX7_isWithinTolerance 4 = .ok (.iload_n 2, 1) := by decide +kernel
theorem dX7_isWithinTolerance_5 : decode cX7_isWithinTolerance 5 = .ok (.bipush 8, 2) := by decide +kernel
theorem dX7_isWithinTolerance_7 : decode cX7_isWithinTolerance 7 = .ok (.imul, 1) := by decide +kernel
theorem dX7_isWithinTolerance_8 : decode cX7_isWithinTolerance 8 = .ok (.iload_n 3, 1) := by decide +kernel
theorem dX7_isWithinTolerance_9 : decode cX7_isWithinTolerance 9 = .ok (.iadd, 1) := by decide +kernel
theorem dX7_isWithinTolerance_10 : decode cX7_isWithinTolerance 10 = .ok (.iaload, 1) := by decide +kernel
theorem dX7_isWithinTolerance_11 : decode cX7_isWithinTolerance 11 = .ok (.iload 4, 2) := by decide +kernel
theorem dX7_isWithinTolerance_13 : decode cX7_isWithinTolerance 13 = .ok (.isub, 1) := by decide +kernel
theorem dX7_isWithinTolerance_14 : decode cX7_isWithinTolerance 14 = .ok (.istore 5, 2) := by decide +kernel
theorem dX7_isWithinTolerance_16 : decode cX7_isWithinTolerance 16 = .ok (.iload 5, 2) := by decide +kernel
theorem dX7_isWithinTolerance_18 : decode cX7_isWithinTolerance 18 = .ok (.invokestatic 64, 3) := by decide +kernel
theorem dX7_isWithinTolerance_21 : decode cX7_isWithinTolerance 21 = .ok (.aload_n 0, 1) := by decide +kernel
theorem dX7_isWithinTolerance_22 : decode cX7_isWithinTolerance 22 = .ok (.aload_n 1, 1) := by decide +kernel
theorem dX7_isWithinTolerance_23 : decode cX7_isWithinTolerance 23 = .ok (.iload_n 2, 1) := by decide +kernel
theorem dX7_isWithinTolerance_24 : decode cX7_isWithinTolerance 24 = .ok (.iload_n 3, 1) := by decide +kernel
theorem dX7_isWithinTolerance_25 : decode cX7_isWithinTolerance 25 = .ok (.invokevirtual 68, 3) := by decide +kernel
theorem dX7_isWithinTolerance_28 : decode cX7_isWithinTolerance 28 = .ok (.if_icmp .gt 7, 3) := by decide +kernel
theorem dX7_isWithinTolerance_31 : decode cX7_isWithinTolerance 31 = .ok (.iconst 1, 1) := by decide +kernel
theorem dX7_isWithinTolerance_32 : decode cX7_isWithinTolerance 32 = .ok (.goto 4, 3) := by decide +kernel
theorem dX7_isWithinTolerance_35 : decode cX7_isWithinTolerance 35 = .ok (.iconst 0, 1) := by decide +kernel
theorem dX7_isWithinTolerance_36 : decode cX7_isWithinTolerance 36 = .ok (.ireturn, 1) := by decide +kernel
theorem dX7_middleError_0 : decode cX7_middleError 0 = .ok (.aload_n 0, 1) := by decide +kernel
theorem dX7_middleError_1 : decode cX7_middleError 1 = .ok (.getfield 24, 3) := by decide +kernel
theorem dX7_middleError_4 : decode cX7_middleError 4 = .ok (.iload_n 1, 1) := by decide +kernel
theorem dX7_middleError_5 : decode cX7_middleError 5 = .ok (.iaload, 1) := by decide +kernel
theorem dX7_middleError_6 : decode cX7_middleError 6 = .ok (.ifCond .ne 5, 3) := by decide +kernel
theorem dX7_middleError_9 : decode cX7_middleError 9 = .ok (.iconst 0, 1) := by decide +kernel
theorem dX7_middleError_10 : decode cX7_middleError 10 = .ok (.ireturn, 1) := by decide +kernel
theorem dX7_middleError_11 : decode cX7_middleError 11 = .ok (.iload_n 1, 1) := by decide +kernel
theorem dX7_middleError_12 : decode cX7_middleError 12 = .ok (.bipush 8, 2) := by decide +kernel
theorem dX7_middleError_14 : decode cX7_middleError 14 = .ok (.imul, 1) := by decide +kernel
theorem dX7_middleError_15 : decode cX7_middleError 15 = .ok (.istore_n 2, 1) := by decide +kernel
theorem dX7_middleError_16 : decode cX7_middleError 16 = .ok (.aload_n 0, 1) := by decide +kernel
theorem dX7_middleError_17 : decode cX7_middleError 17 = .ok (.getfield 33, 3) := by decide +kernel
theorem dX7_middleError_20 : decode cX7_middleError 20 = .ok (.iload_n 2, 1) := by decide +kernel
theorem dX7_middleError_21 : decode cX7_middleError 21 = .ok (.iaload, 1) := by decide +kernel
theorem dX7_middleError_22 : decode cX7_middleError 22 = .ok (.istore_n 3, 1) := by decide +kernel
theorem dX7_middleError_23 : decode cX7_middleError 23 = .ok (.aload_n 0, 1) := by decide +kernel
theorem dX7_middleError_24 : decode cX7_middleError 24 = .ok (.getfield 33, 3) := by decide +kernel
theorem dX7_middleError_27 : decode cX7_middleError 27 = .ok (.iload_n 2, 1) := by decide +kernel
theorem dX7_middleError_28 : decode cX7_middleError 28 = .ok (.iaload, 1) := by decide +kernel
theorem dX7_middleError_29 : decode cX7_middleError 29 = .ok (.istore 4, 2) := by decide +kernel
theorem dX7_middleError_31 : decode cX7_middleError 31 = .ok (.iconst 1, 1) := by decide +kernel
theorem dX7_middleError_32 : decode cX7_middleError 32 = .ok (.istore 5, 2) := by decide +kernel
theorem dX7_middleError_34 : decode cX7_middleError 34 = .ok (.iload 5, 2) := by decide +kernel
theorem dX7_middleError_36 : decode cX7_middleError 36 = .ok (.aload_n 0, 1) := by decide +kernel
theorem dX7_middleError_37 : decode cX7_middleError 37 = .ok (.getfield 24, 3) := by decide +kernel
theorem dX7_middleError_40 : decode cX7_middleError 40 = .ok (.iload_n 1, 1) := by decide +kernel
theorem dX7_middleError_41 : decode cX7_middleError 41 = .ok (.iaload, 1) := by decide +kernel
theorem dX7_middleError_42 : decode cX7_middleError 42 = .ok (.if_icmp .ge 39, 3) := by decide +kernel
theorem dX7_middleError_45 : decode cX7_middleError 45 = .ok (.iload_n 3, 1) := by decide +kernel
theorem dX7_middleError_46 : decode cX7_middleError 46 = .ok (.aload_n 0, 1) := by decide +kernel
theorem dX7_middleError_47 : decode cX7_middleError 47 = .ok (.getfield 33, 3) := by decide +kernel
theorem dX7_middleError_50 : decode cX7_middleError 50 = .ok (.iload_n 2, 1) := by decide +kernel
theorem dX7_middleError_51 : decode cX7_middleError 51 = .ok (.iload 5, 2) := by decide +kernel
theorem dX7_middleError_53 : decode cX7_middleError 53 = .ok (.iadd, 1) := by decide +kernel
theorem dX7_middleError_54 : decode cX7_middleError 54 = .ok (.iaload, 1) := by decide +kernel
theorem dX7_middleError_55 : decode cX7_middleError 55 = .ok (.invokestatic 50, 3) := by decide +kernel
theorem dX7_middleError_58 : decode cX7_middleError 58 = .ok (.istore_n 3, 1) := by decide +kernel
theorem dX7_middleError_59 : decode cX7_middleError 59 = .ok (.iload 4, 2) := by decide +kernel
theorem dX7_middleError_61 : decode cX7_middleError 61 = .ok (.aload_n 0, 1) := by decide +kernel
theorem dX7_middleError_62 : decode cX7_middleError 62 = .ok (.getfield 33, 3) := by decide +kernel
theorem dX7_middleError_65 : decode cX7_middleError 65 = .ok (.iload_n 2, 1) := by decide +kernel
theorem dX7_middleError_66 : decode cX7_middleError 66 = .ok (.iload 5, 2) := by decide +kernel
theorem dX7_middleError_68 : decode cX7_middleError 68 = .ok (.iadd, 1) := by decide +kernel
theorem dX7_middleError_69 : decode cX7_middleError 69 = .ok (.iaload, 1) := by decide +kernel
theorem dX7_middleError_70 : decode cX7_middleError 70 = .ok (.invokestatic 72, 3) := by decide +kernel
theorem dX7_middleError_73 : decode cX7_middleError 73 = .ok (.istore 4, 2) := by decide +kernel
theorem dX7_middleError_75 : decode cX7_middleError 75 = .ok (.iinc 5 1, 3) := by decide +kernel
theorem dX7_middleError_78 : decode cX7_middleError 78 = .ok (.goto (-44), 3) := by decide +kernel
theorem dX7_middleError_81 : decode cX7_middleError 81 = .ok (.iload_n 3, 1) := by decide +kernel
theorem dX7_middleError_82 : decode cX7_middleError 82 = .ok (.iload 4, 2) := by decide +kernel
theorem dX7_middleError_84 : decode cX7_middleError 84 = .ok (.iadd, 1) := by decide +kernel
theorem dX7_middleError_85 : decode cX7_middleError 85 = .ok (.iconst 2, 1) := by decide +kernel
theorem dX7_middleError_86 : decode cX7_middleError 86 = .ok (.invokestatic 75, 3) := by decide +kernel
theorem dX7_middleError_89 : decode cX7_middleError 89 = .ok (.ireturn, 1) := by decide +kernel
theorem dX7_hasEmptyTest_0 : decode cX7_hasEmptyTest 0 = .ok (.iconst 0, 1) := by decide +kernel
theorem dX7_hasEmptyTest_1 : decode cX7_hasEmptyTest 1 = .ok (.istore_n 2, 1) := by decide +kernel
theorem dX7_hasEmptyTest_2 : decode cX7_hasEmptyTest 2 = .ok (.iload_n 2, 1) := by decide +kernel
theorem dX7_hasEmptyTest_3 : decode cX7_hasEmptyTest 3 = .ok (.aload_n 0, 1) := by decide +kernel
theorem dX7_hasEmptyTest_4 : decode cX7_hasEmptyTest 4 = .ok (.getfield 24, 3) := by decide +kernel
theorem dX7_hasEmptyTest_7 : decode cX7_hasEmptyTest 7 = .ok (.iload_n 1, 1) := by decide +kernel
theorem dX7_hasEmptyTest_8 : decode cX7_hasEmptyTest 8 = .ok (.iaload, 1) := by decide +kernel
theorem dX7_hasEmptyTest_9 : decode cX7_hasEmptyTest 9 = .ok (.if_icmp .ge 25, 3) := by decide +kernel
theorem dX7_hasEmptyTest_12 : decode cX7_hasEmptyTest 12 = .ok (.aload_n 0, 1) := by decide +kernel
theorem dX7_hasEmptyTest_13 : decode cX7_hasEmptyTest 13 = .ok (.getfield 27, 3) := by decide +kernel
theorem dX7_hasEmptyTest_16 : decode cX7_hasEmptyTest 16 = .ok (.iload_n 1, 1) := by decide +kernel
theorem dX7_hasEmptyTest_17 : decode cX7_hasEmptyTest 17 = .ok (.bipush 8, 2) := by decide +kernel
theorem dX7_hasEmptyTest_19 : decode cX7_hasEmptyTest 19 = .ok (.imul, 1) := by decide +kernel
theorem dX7_hasEmptyTest_20 : decode cX7_hasEmptyTest 20 = .ok (.iload_n 2, 1) := by decide +kernel
theorem dX7_hasEmptyTest_21 : decode cX7_hasEmptyTest 21 = .ok (.iadd, 1) := by decide +kernel
theorem dX7_hasEmptyTest_22 : decode cX7_hasEmptyTest 22 = .ok (.iaload, 1) := by decide +kernel
theorem dX7_hasEmptyTest_23 : decode cX7_hasEmptyTest 23 = .ok (.ifCond .ne 5, 3) := by decide +kernel
theorem dX7_hasEmptyTest_26 : decode cX7_hasEmptyTest 26 = .ok (.iconst 1, 1) := by decide +kernel
theorem dX7_hasEmptyTest_27 : decode cX7_hasEmptyTest 27 = .ok (.ireturn, 1) := by decide +kernel
theorem dX7_hasEmptyTest_28 : decode cX7_hasEmptyTest 28 = .ok (.iinc 2 1, 3) := by decide +kernel
theorem dX7_hasEmptyTest_31 : decode cX7_hasEmptyTest 31 = .ok (.goto (-29), 3) := by decide +kernel
theorem dX7_hasEmptyTest_34 : decode cX7_hasEmptyTest 34 = .ok (.iconst 0, 1) := by decide +kernel
theorem dX7_hasEmptyTest_35 : decode cX7_hasEmptyTest 35 = .ok (.ireturn, 1) := by decide +kernel
theorem dX7_reachesHalf_0 : decode cX7_reachesHalf 0 = .ok (.iconst 0, 1) := by decide +kernel
theorem dX7_reachesHalf_1 : decode cX7_reachesHalf 1 = .ok (.istore_n 3, 1) := by decide +kernel
theorem dX7_reachesHalf_2 : decode cX7_reachesHalf 2 = .ok (.iload_n 3, 1) := by decide +kernel
theorem dX7_reachesHalf_3 : decode cX7_reachesHalf 3 = .ok (.aload_n 0, 1) := by decide +kernel
theorem dX7_reachesHalf_4 : decode cX7_reachesHalf 4 = .ok (.getfield 24, 3) := by decide +kernel
theorem dX7_reachesHalf_7 : decode cX7_reachesHalf 7 = .ok (.iload_n 1, 1) := by decide +kernel
theorem dX7_reachesHalf_8 : decode cX7_reachesHalf 8 = .ok (.iaload, 1) := by decide +kernel
theorem dX7_reachesHalf_9 : decode cX7_reachesHalf 9 = .ok (.if_icmp .ge 28, 3) := by decide +kernel
theorem dX7_reachesHalf_12 : decode cX7_reachesHalf 12 = .ok (.iconst 2, 1) := by decide +kernel
theorem dX7_reachesHalf_13 : decode cX7_reachesHalf 13 = .ok (.aload_n 0, 1) := by decide +kernel
theorem dX7_reachesHalf_14 : decode cX7_reachesHalf 14 = .ok (.getfield 30, 3) := by decide +kernel
theorem dX7_reachesHalf_17 : decode cX7_reachesHalf 17 = .ok (.iload_n 1, 1) := by decide +kernel
theorem dX7_reachesHalf_18 : decode cX7_reachesHalf 18 = .ok (.bipush 8, 2) := by decide +kernel
theorem dX7_reachesHalf_20 : decode cX7_reachesHalf 20 = .ok (.imul, 1) := by decide +kernel
theorem dX7_reachesHalf_21 : decode cX7_reachesHalf 21 = .ok (.iload_n 3, 1) := by decide +kernel
theorem dX7_reachesHalf_22 : decode cX7_reachesHalf 22 = .ok (.iadd, 1) := by decide +kernel
theorem dX7_reachesHalf_23 : decode cX7_reachesHalf 23 = .ok (.iaload, 1) := by decide +kernel
theorem dX7_reachesHalf_24 : decode cX7_reachesHalf 24 = .ok (.imul, 1) := by decide +kernel
theorem dX7_reachesHalf_25 : decode cX7_reachesHalf 25 = .ok (.iload_n 2, 1) := by decide +kernel
theorem dX7_reachesHalf_26 : decode cX7_reachesHalf 26 = .ok (.if_icmp .lt 5, 3) := by decide +kernel
theorem dX7_reachesHalf_29 : decode cX7_reachesHalf 29 = .ok (.iconst 1, 1) := by decide +kernel
theorem dX7_reachesHalf_30 : decode cX7_reachesHalf 30 = .ok (.ireturn, 1) := by decide +kernel
theorem dX7_reachesHalf_31 : decode cX7_reachesHalf 31 = .ok (.iinc 3 1, 3) := by decide +kernel
theorem dX7_reachesHalf_34 : decode cX7_reachesHalf 34 = .ok (.goto (-32), 3) := by decide +kernel
theorem dX7_reachesHalf_37 : decode cX7_reachesHalf 37 = .ok (.iconst 0, 1) := by decide +kernel
theorem dX7_reachesHalf_38 : decode cX7_reachesHalf 38 = .ok (.ireturn, 1) := by decide +kernel
theorem dX7_hasRepeat_0 : decode cX7_hasRepeat 0 = .ok (.iload_n 1, 1) := by decide +kernel
theorem dX7_hasRepeat_1 : decode cX7_hasRepeat 1 = .ok (.bipush 8, 2) := by decide +kernel
theorem dX7_hasRepeat_3 : decode cX7_hasRepeat 3 = .ok (.imul, 1) := by decide +kernel
theorem dX7_hasRepeat_4 : decode cX7_hasRepeat 4 = .ok (.istore_n 2, 1) := by decide +kernel
theorem dX7_hasRepeat_5 : decode cX7_hasRepeat 5 = .ok (.iconst 0, 1) := by decide +kernel
theorem dX7_hasRepeat_6 : decode cX7_hasRepeat 6 = .ok (.istore_n 3, 1) := by decide +kernel
theorem dX7_hasRepeat_7 : decode cX7_hasRepeat 7 = .ok (.iload_n 3, 1) := by decide +kernel
theorem dX7_hasRepeat_8 : decode cX7_hasRepeat 8 = .ok (.aload_n 0, 1) := by decide +kernel
theorem dX7_hasRepeat_9 : decode cX7_hasRepeat 9 = .ok (.getfield 24, 3) := by decide +kernel
theorem dX7_hasRepeat_12 : decode cX7_hasRepeat 12 = .ok (.iload_n 1, 1) := by decide +kernel
theorem dX7_hasRepeat_13 : decode cX7_hasRepeat 13 = .ok (.iaload, 1) := by decide +kernel
theorem dX7_hasRepeat_14 : decode cX7_hasRepeat 14 = .ok (.if_icmp .ge 57, 3) := by decide +kernel
theorem dX7_hasRepeat_17 : decode cX7_hasRepeat 17 = .ok (.iconst 0, 1) := by decide +kernel
theorem dX7_hasRepeat_18 : decode cX7_hasRepeat 18 = .ok (.istore 4, 2) := by decide +kernel
theorem dX7_hasRepeat_20 : decode cX7_hasRepeat 20 = .ok (.iload 4, 2) := by decide +kernel
theorem dX7_hasRepeat_22 : decode cX7_hasRepeat 22 = .ok (.iload_n 3, 1) := by decide +kernel
theorem dX7_hasRepeat_23 : decode cX7_hasRepeat 23 = .ok (.if_icmp .ge 42, 3) := by decide +kernel
theorem dX7_hasRepeat_26 : decode cX7_hasRepeat 26 = .ok (.aload_n 0, 1) := by decide +kernel
theorem dX7_hasRepeat_27 : decode cX7_hasRepeat 27 = .ok (.getfield 27, 3) := by decide +kernel
theorem dX7_hasRepeat_30 : decode cX7_hasRepeat 30 = .ok (.iload_n 2, 1) := by decide +kernel
theorem dX7_hasRepeat_31 : decode cX7_hasRepeat 31 = .ok (.iload_n 3, 1) := by decide +kernel
theorem dX7_hasRepeat_32 : decode cX7_hasRepeat 32 = .ok (.iadd, 1) := by decide +kernel
theorem dX7_hasRepeat_33 : decode cX7_hasRepeat 33 = .ok (.iaload, 1) := by decide +kernel
theorem dX7_hasRepeat_34 : decode cX7_hasRepeat 34 = .ok (.ifCond .eq 25, 3) := by decide +kernel
theorem dX7_hasRepeat_37 : decode cX7_hasRepeat 37 = .ok (.aload_n 0, 1) := by decide +kernel
theorem dX7_hasRepeat_38 : decode cX7_hasRepeat 38 = .ok (.getfield 27, 3) := by decide +kernel
theorem dX7_hasRepeat_41 : decode cX7_hasRepeat 41 = .ok (.iload_n 2, 1) := by decide +kernel
theorem dX7_hasRepeat_42 : decode cX7_hasRepeat 42 = .ok (.iload_n 3, 1) := by decide +kernel
theorem dX7_hasRepeat_43 : decode cX7_hasRepeat 43 = .ok (.iadd, 1) := by decide +kernel
theorem dX7_hasRepeat_44 : decode cX7_hasRepeat 44 = .ok (.iaload, 1) := by decide +kernel
theorem dX7_hasRepeat_45 : decode cX7_hasRepeat 45 = .ok (.aload_n 0, 1) := by decide +kernel
theorem dX7_hasRepeat_46 : decode cX7_hasRepeat 46 = .ok (.getfield 27, 3) := by decide +kernel
theorem dX7_hasRepeat_49 : decode cX7_hasRepeat 49 = .ok (.iload_n 2, 1) := by decide +kernel
theorem dX7_hasRepeat_50 : decode cX7_hasRepeat 50 = .ok (.iload 4, 2) := by decide +kernel
theorem dX7_hasRepeat_52 : decode cX7_hasRepeat 52 = .ok (.iadd, 1) := by decide +kernel
theorem dX7_hasRepeat_53 : decode cX7_hasRepeat 53 = .ok (.iaload, 1) := by decide +kernel
theorem dX7_hasRepeat_54 : decode cX7_hasRepeat 54 = .ok (.if_icmp .ne 5, 3) := by decide +kernel
theorem dX7_hasRepeat_57 : decode cX7_hasRepeat 57 = .ok (.iconst 1, 1) := by decide +kernel
theorem dX7_hasRepeat_58 : decode cX7_hasRepeat 58 = .ok (.ireturn, 1) := by decide +kernel
theorem dX7_hasRepeat_59 : decode cX7_hasRepeat 59 = .ok (.iinc 4 1, 3) := by decide +kernel
theorem dX7_hasRepeat_62 : decode cX7_hasRepeat 62 = .ok (.goto (-42), 3) := by decide +kernel
theorem dX7_hasRepeat_65 : decode cX7_hasRepeat 65 = .ok (.iinc 3 1, 3) := by decide +kernel
theorem dX7_hasRepeat_68 : decode cX7_hasRepeat 68 = .ok (.goto (-61), 3) := by decide +kernel
theorem dX7_hasRepeat_71 : decode cX7_hasRepeat 71 = .ok (.iconst 0, 1) := by decide +kernel
theorem dX7_hasRepeat_72 : decode cX7_hasRepeat 72 = .ok (.ireturn, 1) := by decide +kernel
theorem dX7_allWithinTolerance_0 : decode cX7_allWithinTolerance 0 = .ok (.iconst 0, 1) := by decide +kernel
theorem dX7_allWithinTolerance_1 : decode cX7_allWithinTolerance 1 = .ok (.istore 4, 2) := by decide +kernel
theorem dX7_allWithinTolerance_3 : decode cX7_allWithinTolerance 3 = .ok (.iload 4, 2) := by decide +kernel
theorem dX7_allWithinTolerance_5 : decode cX7_allWithinTolerance 5 = .ok (.aload_n 0, 1) := by decide +kernel
theorem dX7_allWithinTolerance_6 : decode cX7_allWithinTolerance 6 = .ok (.getfield 24, 3) := by decide +kernel
theorem dX7_allWithinTolerance_9 : decode cX7_allWithinTolerance 9 = .ok (.iload_n 2, 1) := by decide +kernel
theorem dX7_allWithinTolerance_10 : decode cX7_allWithinTolerance 10 = .ok (.iaload, 1) := by decide +kernel
theorem dX7_allWithinTolerance_11 : decode cX7_allWithinTolerance 11 = .ok (.if_icmp .ge 23, 3) := by decide +kernel
theorem dX7_allWithinTolerance_14 : decode cX7_allWithinTolerance 14 = .ok (.aload_n 0, 1) := by decide +kernel
theorem dX7_allWithinTolerance_15 : decode cX7_allWithinTolerance 15 = .ok (.aload_n 1, 1) := by decide +kernel
theorem dX7_allWithinTolerance_16 : decode cX7_allWithinTolerance 16 = .ok (.iload_n 2, 1) := by decide +kernel
theorem dX7_allWithinTolerance_17 : decode cX7_allWithinTolerance 17 = .ok (.iload 4, 2) := by decide +kernel
theorem dX7_allWithinTolerance_19 : decode cX7_allWithinTolerance 19 = .ok (.iload_n 3, 1) := by decide +kernel
theorem dX7_allWithinTolerance_20 : decode cX7_allWithinTolerance 20 = .ok (.invokevirtual 99, 3) := by decide +kernel
theorem dX7_allWithinTolerance_23 : decode cX7_allWithinTolerance 23 = .ok (.ifCond .ne 5, 3) := by decide +kernel
theorem dX7_allWithinTolerance_26 : decode cX7_allWithinTolerance 26 = .ok (.iconst 0, 1) := by decide +kernel
theorem dX7_allWithinTolerance_27 : decode cX7_allWithinTolerance 27 = .ok (.ireturn, 1) := by decide +kernel
theorem dX7_allWithinTolerance_28 : decode cX7_allWithinTolerance 28 = .ok (.iinc 4 1, 3) := by decide +kernel
theorem dX7_allWithinTolerance_31 : decode cX7_allWithinTolerance 31 = .ok (.goto (-28), 3) := by decide +kernel
theorem dX7_allWithinTolerance_34 : decode cX7_allWithinTolerance 34 = .ok (.iconst 1, 1) := by decide +kernel
theorem dX7_allWithinTolerance_35 : decode cX7_allWithinTolerance 35 = .ok (.ireturn, 1) := by decide +kernel
theorem dX7_repeatsAgree_0 : decode cX7_repeatsAgree 0 = .ok (.iload_n 2, 1) := by decide +kernel
theorem dX7_repeatsAgree_1 : decode cX7_repeatsAgree 1 = .ok (.bipush 8, 2) := by decide +kernel
theorem dX7_repeatsAgree_3 : decode cX7_repeatsAgree 3 = .ok (.imul, 1) := by decide +kernel
theorem dX7_repeatsAgree_4 : decode cX7_repeatsAgree 4 = .ok (.istore_n 3, 1) := by decide +kernel
theorem dX7_repeatsAgree_5 : decode cX7_repeatsAgree 5 = .ok (.iconst 0, 1) := by decide +kernel
theorem dX7_repeatsAgree_6 : decode cX7_repeatsAgree 6 = .ok (.istore 4, 2) := by decide +kernel
theorem dX7_repeatsAgree_8 : decode cX7_repeatsAgree 8 = .ok (.iload 4, 2) := by decide +kernel
theorem dX7_repeatsAgree_10 : decode cX7_repeatsAgree 10 = .ok (.aload_n 0, 1) := by decide +kernel
theorem dX7_repeatsAgree_11 : decode cX7_repeatsAgree 11 = .ok (.getfield 24, 3) := by decide +kernel
theorem dX7_repeatsAgree_14 : decode cX7_repeatsAgree 14 = .ok (.iload_n 2, 1) := by decide +kernel
theorem dX7_repeatsAgree_15 : decode cX7_repeatsAgree 15 = .ok (.iaload, 1) := by decide +kernel
theorem dX7_repeatsAgree_16 : decode cX7_repeatsAgree 16 = .ok (.if_icmp .ge 97, 3) := by decide +kernel
theorem dX7_repeatsAgree_19 : decode cX7_repeatsAgree 19 = .ok (.aload_n 0, 1) := by decide +kernel
theorem dX7_repeatsAgree_20 : decode cX7_repeatsAgree 20 = .ok (.aload_n 1, 1) := by decide +kernel
theorem dX7_repeatsAgree_21 : decode cX7_repeatsAgree 21 = .ok (.iload_n 2, 1) := by decide +kernel
theorem dX7_repeatsAgree_22 : decode cX7_repeatsAgree 22 = .ok (.iload 4, 2) := by decide +kernel
theorem dX7_repeatsAgree_24 : decode cX7_repeatsAgree 24 = .ok (.invokevirtual 68, 3) := by decide +kernel
theorem dX7_repeatsAgree_27 : decode cX7_repeatsAgree 27 = .ok (.istore 5, 2) := by decide +kernel
theorem dX7_repeatsAgree_29 : decode cX7_repeatsAgree 29 = .ok (.iconst 0, 1) := by decide +kernel
theorem dX7_repeatsAgree_30 : decode cX7_repeatsAgree 30 = .ok (.istore 6, 2) := by decide +kernel
theorem dX7_repeatsAgree_32 : decode cX7_repeatsAgree 32 = .ok (.iload 6, 2) := by decide +kernel
theorem dX7_repeatsAgree_34 : decode cX7_repeatsAgree 34 = .ok (.iload 4, 2) := by decide +kernel
theorem dX7_repeatsAgree_36 : decode cX7_repeatsAgree 36 = .ok (.if_icmp .ge 71, 3) := by decide +kernel
theorem dX7_repeatsAgree_39 : decode cX7_repeatsAgree 39 = .ok (.aload_n 0, 1) := by decide +kernel
theorem dX7_repeatsAgree_40 : decode cX7_repeatsAgree 40 = .ok (.getfield 27, 3) := by decide +kernel
theorem dX7_repeatsAgree_43 : decode cX7_repeatsAgree 43 = .ok (.iload_n 3, 1) := by decide +kernel
theorem dX7_repeatsAgree_44 : decode cX7_repeatsAgree 44 = .ok (.iload 4, 2) := by decide +kernel
theorem dX7_repeatsAgree_46 : decode cX7_repeatsAgree 46 = .ok (.iadd, 1) := by decide +kernel
theorem dX7_repeatsAgree_47 : decode cX7_repeatsAgree 47 = .ok (.iaload, 1) := by decide +kernel
theorem dX7_repeatsAgree_48 : decode cX7_repeatsAgree 48 = .ok (.aload_n 0, 1) := by decide +kernel
theorem dX7_repeatsAgree_49 : decode cX7_repeatsAgree 49 = .ok (.getfield 27, 3) := by decide +kernel
theorem dX7_repeatsAgree_52 : decode cX7_repeatsAgree 52 = .ok (.iload_n 3, 1) := by decide +kernel
theorem dX7_repeatsAgree_53 : decode cX7_repeatsAgree 53 = .ok (.iload 6, 2) := by decide +kernel
theorem dX7_repeatsAgree_55 : decode cX7_repeatsAgree 55 = .ok (.iadd, 1) := by decide +kernel
theorem dX7_repeatsAgree_56 : decode cX7_repeatsAgree 56 = .ok (.iaload, 1) := by decide +kernel
theorem dX7_repeatsAgree_57 : decode cX7_repeatsAgree 57 = .ok (.if_icmp .ne 7, 3) := by decide +kernel
theorem dX7_repeatsAgree_60 : decode cX7_repeatsAgree 60 = .ok (.iconst 1, 1) := by decide +kernel
theorem dX7_repeatsAgree_61 : decode cX7_repeatsAgree 61 = .ok (.goto 4, 3) := by decide +kernel
theorem dX7_repeatsAgree_64 : decode cX7_repeatsAgree 64 = .ok (.iconst 0, 1) := by decide +kernel
theorem dX7_repeatsAgree_65 : decode cX7_repeatsAgree 65 = .ok (.istore 7, 2) := by decide +kernel
theorem dX7_repeatsAgree_67 : decode cX7_repeatsAgree 67 = .ok (.iload 7, 2) := by decide +kernel
theorem dX7_repeatsAgree_69 : decode cX7_repeatsAgree 69 = .ok (.ifCond .eq 32, 3) := by decide +kernel
theorem dX7_repeatsAgree_72 : decode cX7_repeatsAgree 72 = .ok (.aload_n 0, 1) := by decide +kernel
theorem dX7_repeatsAgree_73 : decode cX7_repeatsAgree 73 = .ok (.getfield 33, 3) := by decide +kernel
theorem dX7_repeatsAgree_76 : decode cX7_repeatsAgree 76 = .ok (.iload_n 3, 1) := by decide +kernel
theorem dX7_repeatsAgree_77 : decode cX7_repeatsAgree 77 = .ok (.iload 4, 2) := by decide +kernel
theorem dX7_repeatsAgree_79 : decode cX7_repeatsAgree 79 = .ok (.iadd, 1) := by decide +kernel
theorem dX7_repeatsAgree_80 : decode cX7_repeatsAgree 80 = .ok (.iaload, 1) := by decide +kernel
theorem dX7_repeatsAgree_81 : decode cX7_repeatsAgree 81 = .ok (.aload_n 0, 1) := by decide +kernel
theorem dX7_repeatsAgree_82 : decode cX7_repeatsAgree 82 = .ok (.getfield 33, 3) := by decide +kernel
theorem dX7_repeatsAgree_85 : decode cX7_repeatsAgree 85 = .ok (.iload_n 3, 1) := by decide +kernel
theorem dX7_repeatsAgree_86 : decode cX7_repeatsAgree 86 = .ok (.iload 6, 2) := by decide +kernel
theorem dX7_repeatsAgree_88 : decode cX7_repeatsAgree 88 = .ok (.iadd, 1) := by decide +kernel
theorem dX7_repeatsAgree_89 : decode cX7_repeatsAgree 89 = .ok (.iaload, 1) := by decide +kernel
theorem dX7_repeatsAgree_90 : decode cX7_repeatsAgree 90 = .ok (.isub, 1) := by decide +kernel
theorem dX7_repeatsAgree_91 : decode cX7_repeatsAgree 91 = .ok (.invokestatic 64, 3) := by decide +kernel
theorem dX7_repeatsAgree_94 : decode cX7_repeatsAgree 94 = .ok (.iload 5, 2) := by decide +kernel
theorem dX7_repeatsAgree_96 : decode cX7_repeatsAgree 96 = .ok (.if_icmp .le 5, 3) := by decide +kernel
theorem dX7_repeatsAgree_99 : decode cX7_repeatsAgree 99 = .ok (.iconst 0, 1) := by decide +kernel
theorem dX7_repeatsAgree_100 : decode cX7_repeatsAgree 100 = .ok (.ireturn, 1) := by decide +kernel
theorem dX7_repeatsAgree_101 : decode cX7_repeatsAgree 101 = .ok (.iinc 6 1, 3) := by decide +kernel
theorem dX7_repeatsAgree_104 : decode cX7_repeatsAgree 104 = .ok (.goto (-72), 3) := by decide +kernel
theorem dX7_repeatsAgree_107 : decode cX7_repeatsAgree 107 = .ok (.iinc 4 1, 3) := by decide +kernel
theorem dX7_repeatsAgree_110 : decode cX7_repeatsAgree 110 = .ok (.goto (-102), 3) := by decide +kernel
theorem dX7_repeatsAgree_113 : decode cX7_repeatsAgree 113 = .ok (.iconst 1, 1) := by decide +kernel
theorem dX7_repeatsAgree_114 : decode cX7_repeatsAgree 114 = .ok (.ireturn, 1) := by decide +kernel
theorem dX7_judge_0 : decode cX7_judge 0 = .ok (.aload_n 0, 1) := by decide +kernel
theorem dX7_judge_1 : decode cX7_judge 1 = .ok (.iload_n 2, 1) := by decide +kernel
theorem dX7_judge_2 : decode cX7_judge 2 = .ok (.invokevirtual 78, 3) := by decide +kernel
theorem dX7_judge_5 : decode cX7_judge 5 = .ok (.ifCond .ne 5, 3) := by decide +kernel
theorem dX7_judge_8 : decode cX7_judge 8 = .ok (.iconst 1, 1) := by decide +kernel
theorem dX7_judge_9 : decode cX7_judge 9 = .ok (.ireturn, 1) := by decide +kernel
theorem dX7_judge_10 : decode cX7_judge 10 = .ok (.aload_n 0, 1) := by decide +kernel
theorem dX7_judge_11 : decode cX7_judge 11 = .ok (.iload_n 2, 1) := by decide +kernel
theorem dX7_judge_12 : decode cX7_judge 12 = .ok (.aload_n 1, 1) := by decide +kernel
theorem dX7_judge_13 : decode cX7_judge 13 = .ok (.getfield 81, 3) := by decide +kernel
theorem dX7_judge_16 : decode cX7_judge 16 = .ok (.aload_n 0, 1) := by decide +kernel
theorem dX7_judge_17 : decode cX7_judge 17 = .ok (.getfield 9, 3) := by decide +kernel
theorem dX7_judge_20 : decode cX7_judge 20 = .ok (.iload_n 2, 1) := by decide +kernel
theorem dX7_judge_21 : decode cX7_judge 21 = .ok (.iaload, 1) := by decide +kernel
theorem dX7_judge_22 : decode cX7_judge 22 = .ok (.iaload, 1) := by decide +kernel
theorem dX7_judge_23 : decode cX7_judge 23 = .ok (.invokevirtual 84, 3) := by decide +kernel
theorem dX7_judge_26 : decode cX7_judge 26 = .ok (.ifCond .ne 5, 3) := by decide +kernel
theorem dX7_judge_29 : decode cX7_judge 29 = .ok (.iconst 2, 1) := by decide +kernel
theorem dX7_judge_30 : decode cX7_judge 30 = .ok (.ireturn, 1) := by decide +kernel
theorem dX7_judge_31 : decode cX7_judge 31 = .ok (.aload_n 0, 1) := by decide +kernel
theorem dX7_judge_32 : decode cX7_judge 32 = .ok (.iload_n 2, 1) := by decide +kernel
theorem dX7_judge_33 : decode cX7_judge 33 = .ok (.invokevirtual 88, 3) := by decide +kernel
theorem dX7_judge_36 : decode cX7_judge 36 = .ok (.ifCond .ne 5, 3) := by decide +kernel
theorem dX7_judge_39 : decode cX7_judge 39 = .ok (.iconst 3, 1) := by decide +kernel
theorem dX7_judge_40 : decode cX7_judge 40 = .ok (.ireturn, 1) := by decide +kernel
theorem dX7_judge_41 : decode cX7_judge 41 = .ok (.aload_n 0, 1) := by decide +kernel
theorem dX7_judge_42 : decode cX7_judge 42 = .ok (.aload_n 1, 1) := by decide +kernel
theorem dX7_judge_43 : decode cX7_judge 43 = .ok (.iload_n 2, 1) := by decide +kernel
theorem dX7_judge_44 : decode cX7_judge 44 = .ok (.iload_n 3, 1) := by decide +kernel
theorem dX7_judge_45 : decode cX7_judge 45 = .ok (.invokevirtual 91, 3) := by decide +kernel
theorem dX7_judge_48 : decode cX7_judge 48 = .ok (.ifCond .ne 5, 3) := by decide +kernel
theorem dX7_judge_51 : decode cX7_judge 51 = .ok (.iconst 4, 1) := by decide +kernel
theorem dX7_judge_52 : decode cX7_judge 52 = .ok (.ireturn, 1) := by decide +kernel
theorem dX7_judge_53 : decode cX7_judge 53 = .ok (.aload_n 0, 1) := by decide +kernel
theorem dX7_judge_54 : decode cX7_judge 54 = .ok (.aload_n 1, 1) := by decide +kernel
theorem dX7_judge_55 : decode cX7_judge 55 = .ok (.iload_n 2, 1) := by decide +kernel
theorem dX7_judge_56 : decode cX7_judge 56 = .ok (.invokevirtual 95, 3) := by decide +kernel
theorem dX7_judge_59 : decode cX7_judge 59 = .ok (.ifCond .eq 7, 3) := by decide +kernel
theorem dX7_judge_62 : decode cX7_judge 62 = .ok (.iconst 0, 1) := by decide +kernel
theorem dX7_judge_63 : decode cX7_judge 63 = .ok (.goto 4, 3) := by decide +kernel
theorem dX7_judge_66 : decode cX7_judge 66 = .ok (.iconst 5, 1) := by decide +kernel
theorem dX7_judge_67 : decode cX7_judge 67 = .ok (.ireturn, 1) := by decide +kernel
def f_X7_copyFrom (F : Nat) (k0 : Nat) (k1 : Nat) (S : si_St) : Option (si_St) :=
  Option.bind (si_pt S k0 0 (S.1 k1 0)) fun S1 => Option.bind (si_cpi S1 (k1 + 1) 0 (k0 + 1) 0 30) fun S2 => Option.bind (si_cpi S2 (k1 + 2) 0 (k0 + 2) 0 30) fun S3 => Option.bind (si_cpi S3 (k1 + 3) 0 (k0 + 3) 0 30) fun S4 => Option.bind (si_cpi S4 (k1 + 4) 0 (k0 + 4) 0 30) fun S5 => Option.bind (si_cpi S5 (k1 + 5) 0 (k0 + 5) 0 30) fun S6 => Option.bind (si_cpi S6 (k1 + 6) 0 (k0 + 6) 0 240) fun S7 => Option.bind (si_cpi S7 (k1 + 7) 0 (k0 + 7) 0 240) fun S8 => Option.bind (si_cpi S8 (k1 + 8) 0 (k0 + 8) 0 240) fun S9 => some S9
def f_X7_isOpen_h15 (F : Nat) (t0 : Int32) (S : si_St) : Option (Int32 × si_St) :=
  Option.bind (si_bz t0) fun v1 => some (v1, S)
def f_X7_isOpen (F : Nat) (x1 : Int32) (S : si_St) : Option (Int32 × si_St) :=
  Option.bind (si_rd S 11 x1) fun v2 => if v2 = (-1) then (f_X7_isOpen_h15 F 1 S) else (f_X7_isOpen_h15 F 0 S)
def f_X7_hasOpenVisit_h30 (F : Nat) (r2 : Int32 → Int32 → si_St → Option (Int32 × si_St)) (x1 : Int32) (x2 : Int32) (S : si_St) : Option (Int32 × si_St) :=
  Option.bind (some (x2 + 1)) fun v1 => r2 x1 v1 S
def f_X7_hasOpenVisit_h2 (F : Nat) (r2 : Int32 → Int32 → si_St → Option (Int32 × si_St)) (x1 : Int32) (x2 : Int32) (S : si_St) : Option (Int32 × si_St) :=
  if (S.1 7 0) ≤ x2 then (Option.bind (si_bz 0) fun v2 => some (v2, S)) else (Option.bind (si_rd S 8 x2) fun v3 => if v3 = x1 then (Option.bind (f_X7_isOpen F x2 S) fun q4 => if q4.1 = 0 then (f_X7_hasOpenVisit_h30 F r2 x1 x2 q4.2) else (Option.bind (si_bz 1) fun v5 => some (v5, q4.2))) else (f_X7_hasOpenVisit_h30 F r2 x1 x2 S))
def f_X7_hasOpenVisit_l2 (F : Nat) : Nat → Int32 → Int32 → si_St → Option (Int32 × si_St)
 | 0 => fun _ _ _ => none
 | n + 1 => fun x1 x2 S => f_X7_hasOpenVisit_h2 F (f_X7_hasOpenVisit_l2 F n) x1 x2 S
def f_X7_hasOpenVisit (F : Nat) (x1 : Int32) (S : si_St) : Option (Int32 × si_St) :=
  f_X7_hasOpenVisit_l2 F F x1 0 S
def f_X7_lastDayOf_h33 (F : Nat) (r4 : Int32 → Int32 → Int32 → si_St → Option (Int32 × si_St)) (x1 : Int32) (x2 : Int32) (x3 : Int32) (S : si_St) : Option (Int32 × si_St) :=
  Option.bind (some (x3 + 1)) fun v1 => r4 x1 x2 v1 S
def f_X7_lastDayOf_h4 (F : Nat) (r4 : Int32 → Int32 → Int32 → si_St → Option (Int32 × si_St)) (x1 : Int32) (x2 : Int32) (x3 : Int32) (S : si_St) : Option (Int32 × si_St) :=
  if (S.1 7 0) ≤ x3 then (some (x2, S)) else (Option.bind (si_rd S 8 x3) fun v2 => if v2 = x1 then (Option.bind (si_rd S 9 x3) fun v3 => Option.bind (some (si_max x2 v3)) fun v4 => f_X7_lastDayOf_h33 F r4 x1 v4 x3 S) else (f_X7_lastDayOf_h33 F r4 x1 x2 x3 S))
def f_X7_lastDayOf_l4 (F : Nat) : Nat → Int32 → Int32 → Int32 → si_St → Option (Int32 × si_St)
 | 0 => fun _ _ _ _ => none
 | n + 1 => fun x1 x2 x3 S => f_X7_lastDayOf_h4 F (f_X7_lastDayOf_l4 F n) x1 x2 x3 S
def f_X7_lastDayOf (F : Nat) (x1 : Int32) (S : si_St) : Option (Int32 × si_St) :=
  f_X7_lastDayOf_l4 F F x1 0 0 S
def f_X7_hasPassed_h31 (F : Nat) (r2 : Int32 → Int32 → si_St → Option (Int32 × si_St)) (x1 : Int32) (x2 : Int32) (S : si_St) : Option (Int32 × si_St) :=
  Option.bind (some (x2 + 1)) fun v1 => r2 x1 v1 S
def f_X7_hasPassed_h2 (F : Nat) (r2 : Int32 → Int32 → si_St → Option (Int32 × si_St)) (x1 : Int32) (x2 : Int32) (S : si_St) : Option (Int32 × si_St) :=
  if (S.1 7 0) ≤ x2 then (Option.bind (si_bz 0) fun v2 => some (v2, S)) else (Option.bind (si_rd S 8 x2) fun v3 => if v3 = x1 then (Option.bind (si_rd S 11 x2) fun v4 => if v4 = 0 then (Option.bind (si_bz 1) fun v5 => some (v5, S)) else (f_X7_hasPassed_h31 F r2 x1 x2 S)) else (f_X7_hasPassed_h31 F r2 x1 x2 S))
def f_X7_hasPassed_l2 (F : Nat) : Nat → Int32 → Int32 → si_St → Option (Int32 × si_St)
 | 0 => fun _ _ _ => none
 | n + 1 => fun x1 x2 S => f_X7_hasPassed_h2 F (f_X7_hasPassed_l2 F n) x1 x2 S
def f_X7_hasPassed (F : Nat) (x1 : Int32) (S : si_St) : Option (Int32 × si_St) :=
  f_X7_hasPassed_l2 F F x1 0 S
def f_X7_addVisit_h37 (F : Nat) (x3 : Int32) (t0 : Int32) (t1 : Int32) (S : si_St) : Option (Int32 × si_St) :=
  Option.bind (si_wr S 10 t1 t0) fun S1 => Option.bind (si_wr S1 11 x3 (-1)) fun S2 => Option.bind (si_wr S2 12 x3 0) fun S3 => Option.bind (si_pt S3 7 0 ((S3.1 7 0) + 1)) fun S4 => some (x3, S4)
def f_X7_addVisit (F : Nat) (x1 : Int32) (x2 : Int32) (S : si_St) : Option (Int32 × si_St) :=
  Option.bind (some (S.1 7 0)) fun v5 => Option.bind (si_wr S 8 v5 x1) fun S6 => Option.bind (si_wr S6 9 v5 x2) fun S7 => Option.bind (f_X7_hasPassed F x1 S7) fun q8 => if q8.1 = 0 then (f_X7_addVisit_h37 F v5 0 v5 q8.2) else (f_X7_addVisit_h37 F v5 1 v5 q8.2)
def f_X7_addTest (F : Nat) (x1 : Int32) (x2 : Int32) (x3 : Int32) (x4 : Int32) (S : si_St) : Option (Int32 × si_St) :=
  Option.bind (si_rd S 12 x1) fun v1 => Option.bind (some ((x1 * 8) + v1)) fun v2 => Option.bind (si_wr S 13 v2 x2) fun S3 => Option.bind (si_wr S3 14 v2 x3) fun S4 => Option.bind (si_wr S4 15 v2 x4) fun S5 => Option.bind (si_rd S5 12 x1) fun v6 => Option.bind (si_wr S5 12 x1 (v6 + 1)) fun S7 => some (v1, S7)
def f_X7_toleranceOf_h42 (F : Nat) (k1 : Nat) (t0 : Int32) (S : si_St) : Option (Int32 × si_St) :=
  some (t0, S)
def f_X7_toleranceOf (F : Nat) (k1 : Nat) (x2 : Int32) (x3 : Int32) (S : si_St) : Option (Int32 × si_St) :=
  Option.bind (si_rd S 8 x2) fun v1 => Option.bind (si_rd S 14 ((x2 * 8) + x3)) fun v2 => Option.bind (f_X2_toleranceAt F k1 v1 v2 S) fun q3 => Option.bind (si_rd q3.2 10 x2) fun v4 => if v4 = 1 then (f_X7_toleranceOf_h42 F k1 (2 * q3.1) q3.2) else (f_X7_toleranceOf_h42 F k1 q3.1 q3.2)
def f_X7_isWithinTolerance_h36 (F : Nat) (k1 : Nat) (t0 : Int32) (S : si_St) : Option (Int32 × si_St) :=
  Option.bind (si_bz t0) fun v1 => some (v1, S)
def f_X7_isWithinTolerance (F : Nat) (k1 : Nat) (x2 : Int32) (x3 : Int32) (x4 : Int32) (S : si_St) : Option (Int32 × si_St) :=
  Option.bind (si_rd S 15 ((x2 * 8) + x3)) fun v2 => Option.bind (some (v2 - x4)) fun v3 => Option.bind (f_X7_toleranceOf F k1 x2 x3 S) fun q4 => if q4.1 < (si_abs v3) then (f_X7_isWithinTolerance_h36 F k1 0 q4.2) else (f_X7_isWithinTolerance_h36 F k1 1 q4.2)
def f_X7_middleError_h34 (F : Nat) (r34 : Int32 → Int32 → Int32 → Int32 → Int32 → si_St → Option (Int32 × si_St)) (x1 : Int32) (x2 : Int32) (x3 : Int32) (x4 : Int32) (x5 : Int32) (S : si_St) : Option (Int32 × si_St) :=
  Option.bind (si_rd S 12 x1) fun v1 => if v1 ≤ x5 then (Option.bind (f_J9_floorDiv_7cf53 F (x3 + x4) 2 S) fun q2 => some (q2.1, q2.2)) else (Option.bind (si_rd S 15 (x2 + x5)) fun v3 => Option.bind (some (si_max x3 v3)) fun v4 => Option.bind (si_rd S 15 (x2 + x5)) fun v5 => Option.bind (some (si_min x4 v5)) fun v6 => Option.bind (some (x5 + 1)) fun v7 => r34 x1 x2 v4 v6 v7 S)
def f_X7_middleError_l34 (F : Nat) : Nat → Int32 → Int32 → Int32 → Int32 → Int32 → si_St → Option (Int32 × si_St)
 | 0 => fun _ _ _ _ _ _ => none
 | n + 1 => fun x1 x2 x3 x4 x5 S => f_X7_middleError_h34 F (f_X7_middleError_l34 F n) x1 x2 x3 x4 x5 S
def f_X7_middleError (F : Nat) (x1 : Int32) (S : si_St) : Option (Int32 × si_St) :=
  Option.bind (si_rd S 12 x1) fun v8 => if v8 = 0 then (some (0, S)) else (Option.bind (some (x1 * 8)) fun v9 => Option.bind (si_rd S 15 v9) fun v10 => Option.bind (si_rd S 15 v9) fun v11 => f_X7_middleError_l34 F F x1 v9 v10 v11 1 S)
def f_X7_hasEmptyTest_h2 (F : Nat) (r2 : Int32 → Int32 → si_St → Option (Int32 × si_St)) (x1 : Int32) (x2 : Int32) (S : si_St) : Option (Int32 × si_St) :=
  Option.bind (si_rd S 12 x1) fun v1 => if v1 ≤ x2 then (Option.bind (si_bz 0) fun v2 => some (v2, S)) else (Option.bind (si_rd S 13 ((x1 * 8) + x2)) fun v3 => if v3 = 0 then (Option.bind (si_bz 1) fun v5 => some (v5, S)) else (Option.bind (some (x2 + 1)) fun v4 => r2 x1 v4 S))
def f_X7_hasEmptyTest_l2 (F : Nat) : Nat → Int32 → Int32 → si_St → Option (Int32 × si_St)
 | 0 => fun _ _ _ => none
 | n + 1 => fun x1 x2 S => f_X7_hasEmptyTest_h2 F (f_X7_hasEmptyTest_l2 F n) x1 x2 S
def f_X7_hasEmptyTest (F : Nat) (x1 : Int32) (S : si_St) : Option (Int32 × si_St) :=
  f_X7_hasEmptyTest_l2 F F x1 0 S
def f_X7_reachesHalf_h2 (F : Nat) (r2 : Int32 → Int32 → Int32 → si_St → Option (Int32 × si_St)) (x1 : Int32) (x2 : Int32) (x3 : Int32) (S : si_St) : Option (Int32 × si_St) :=
  Option.bind (si_rd S 12 x1) fun v1 => if v1 ≤ x3 then (Option.bind (si_bz 0) fun v2 => some (v2, S)) else (Option.bind (si_rd S 14 ((x1 * 8) + x3)) fun v3 => if (2 * v3) < x2 then (Option.bind (some (x3 + 1)) fun v4 => r2 x1 x2 v4 S) else (Option.bind (si_bz 1) fun v5 => some (v5, S)))
def f_X7_reachesHalf_l2 (F : Nat) : Nat → Int32 → Int32 → Int32 → si_St → Option (Int32 × si_St)
 | 0 => fun _ _ _ _ => none
 | n + 1 => fun x1 x2 x3 S => f_X7_reachesHalf_h2 F (f_X7_reachesHalf_l2 F n) x1 x2 x3 S
def f_X7_reachesHalf (F : Nat) (x1 : Int32) (x2 : Int32) (S : si_St) : Option (Int32 × si_St) :=
  f_X7_reachesHalf_l2 F F x1 x2 0 S
def f_X7_hasRepeat_h59 (F : Nat) (r7 : Int32 → Int32 → Int32 → si_St → Option (Int32 × si_St)) (r20 : Int32 → Int32 → Int32 → Int32 → si_St → Option (Int32 × si_St)) (x1 : Int32) (x2 : Int32) (x3 : Int32) (x4 : Int32) (S : si_St) : Option (Int32 × si_St) :=
  Option.bind (some (x4 + 1)) fun v1 => r20 x1 x2 x3 v1 S
def f_X7_hasRepeat_h20 (F : Nat) (r7 : Int32 → Int32 → Int32 → si_St → Option (Int32 × si_St)) (r20 : Int32 → Int32 → Int32 → Int32 → si_St → Option (Int32 × si_St)) (x1 : Int32) (x2 : Int32) (x3 : Int32) (x4 : Int32) (S : si_St) : Option (Int32 × si_St) :=
  if x3 ≤ x4 then (Option.bind (some (x3 + 1)) fun v2 => r7 x1 x2 v2 S) else (Option.bind (si_rd S 13 (x2 + x3)) fun v3 => if v3 = 0 then (f_X7_hasRepeat_h59 F r7 r20 x1 x2 x3 x4 S) else (Option.bind (si_rd S 13 (x2 + x3)) fun v4 => Option.bind (si_rd S 13 (x2 + x4)) fun v5 => if v4 = v5 then (Option.bind (si_bz 1) fun v6 => some (v6, S)) else (f_X7_hasRepeat_h59 F r7 r20 x1 x2 x3 x4 S)))
def f_X7_hasRepeat_l20 (F : Nat) (r7 : Int32 → Int32 → Int32 → si_St → Option (Int32 × si_St)) : Nat → Int32 → Int32 → Int32 → Int32 → si_St → Option (Int32 × si_St)
 | 0 => fun _ _ _ _ _ => none
 | n + 1 => fun x1 x2 x3 x4 S => f_X7_hasRepeat_h20 F r7 (f_X7_hasRepeat_l20 F r7 n) x1 x2 x3 x4 S
def f_X7_hasRepeat_h7 (F : Nat) (r7 : Int32 → Int32 → Int32 → si_St → Option (Int32 × si_St)) (x1 : Int32) (x2 : Int32) (x3 : Int32) (S : si_St) : Option (Int32 × si_St) :=
  Option.bind (si_rd S 12 x1) fun v7 => if v7 ≤ x3 then (Option.bind (si_bz 0) fun v8 => some (v8, S)) else (f_X7_hasRepeat_l20 F r7 F x1 x2 x3 0 S)
def f_X7_hasRepeat_l7 (F : Nat) : Nat → Int32 → Int32 → Int32 → si_St → Option (Int32 × si_St)
 | 0 => fun _ _ _ _ => none
 | n + 1 => fun x1 x2 x3 S => f_X7_hasRepeat_h7 F (f_X7_hasRepeat_l7 F n) x1 x2 x3 S
def f_X7_hasRepeat (F : Nat) (x1 : Int32) (S : si_St) : Option (Int32 × si_St) :=
  Option.bind (some (x1 * 8)) fun v9 => f_X7_hasRepeat_l7 F F x1 v9 0 S
def f_X7_allWithinTolerance_h3 (F : Nat) (k1 : Nat) (r3 : Int32 → Int32 → Int32 → si_St → Option (Int32 × si_St)) (x2 : Int32) (x3 : Int32) (x4 : Int32) (S : si_St) : Option (Int32 × si_St) :=
  Option.bind (si_rd S 12 x2) fun v1 => if v1 ≤ x4 then (Option.bind (si_bz 1) fun v2 => some (v2, S)) else (Option.bind (f_X7_isWithinTolerance F k1 x2 x4 x3 S) fun q3 => if q3.1 = 0 then (Option.bind (si_bz 0) fun v5 => some (v5, q3.2)) else (Option.bind (some (x4 + 1)) fun v4 => r3 x2 x3 v4 q3.2))
def f_X7_allWithinTolerance_l3 (F : Nat) (k1 : Nat) : Nat → Int32 → Int32 → Int32 → si_St → Option (Int32 × si_St)
 | 0 => fun _ _ _ _ => none
 | n + 1 => fun x2 x3 x4 S => f_X7_allWithinTolerance_h3 F k1 (f_X7_allWithinTolerance_l3 F k1 n) x2 x3 x4 S
def f_X7_allWithinTolerance (F : Nat) (k1 : Nat) (x2 : Int32) (x3 : Int32) (S : si_St) : Option (Int32 × si_St) :=
  f_X7_allWithinTolerance_l3 F k1 F x2 x3 0 S
def f_X7_repeatsAgree_h101 (F : Nat) (k1 : Nat) (r8 : Int32 → Int32 → Int32 → si_St → Option (Int32 × si_St)) (r32 : Int32 → Int32 → Int32 → Int32 → Int32 → si_St → Option (Int32 × si_St)) (x2 : Int32) (x3 : Int32) (x4 : Int32) (x5 : Int32) (x6 : Int32) (S : si_St) : Option (Int32 × si_St) :=
  Option.bind (some (x6 + 1)) fun v1 => r32 x2 x3 x4 x5 v1 S
def f_X7_repeatsAgree_h65 (F : Nat) (k1 : Nat) (r8 : Int32 → Int32 → Int32 → si_St → Option (Int32 × si_St)) (r32 : Int32 → Int32 → Int32 → Int32 → Int32 → si_St → Option (Int32 × si_St)) (x2 : Int32) (x3 : Int32) (x4 : Int32) (x5 : Int32) (x6 : Int32) (t0 : Int32) (S : si_St) : Option (Int32 × si_St) :=
  if t0 = 0 then (f_X7_repeatsAgree_h101 F k1 r8 r32 x2 x3 x4 x5 x6 S) else (Option.bind (si_rd S 15 (x3 + x4)) fun v2 => Option.bind (si_rd S 15 (x3 + x6)) fun v3 => if (si_abs (v2 - v3)) ≤ x5 then (f_X7_repeatsAgree_h101 F k1 r8 r32 x2 x3 x4 x5 x6 S) else (Option.bind (si_bz 0) fun v4 => some (v4, S)))
def f_X7_repeatsAgree_h32 (F : Nat) (k1 : Nat) (r8 : Int32 → Int32 → Int32 → si_St → Option (Int32 × si_St)) (r32 : Int32 → Int32 → Int32 → Int32 → Int32 → si_St → Option (Int32 × si_St)) (x2 : Int32) (x3 : Int32) (x4 : Int32) (x5 : Int32) (x6 : Int32) (S : si_St) : Option (Int32 × si_St) :=
  if x4 ≤ x6 then (Option.bind (some (x4 + 1)) fun v5 => r8 x2 x3 v5 S) else (Option.bind (si_rd S 13 (x3 + x4)) fun v6 => Option.bind (si_rd S 13 (x3 + x6)) fun v7 => if v6 = v7 then (f_X7_repeatsAgree_h65 F k1 r8 r32 x2 x3 x4 x5 x6 1 S) else (f_X7_repeatsAgree_h65 F k1 r8 r32 x2 x3 x4 x5 x6 0 S))
def f_X7_repeatsAgree_l32 (F : Nat) (k1 : Nat) (r8 : Int32 → Int32 → Int32 → si_St → Option (Int32 × si_St)) : Nat → Int32 → Int32 → Int32 → Int32 → Int32 → si_St → Option (Int32 × si_St)
 | 0 => fun _ _ _ _ _ _ => none
 | n + 1 => fun x2 x3 x4 x5 x6 S => f_X7_repeatsAgree_h32 F k1 r8 (f_X7_repeatsAgree_l32 F k1 r8 n) x2 x3 x4 x5 x6 S
def f_X7_repeatsAgree_h8 (F : Nat) (k1 : Nat) (r8 : Int32 → Int32 → Int32 → si_St → Option (Int32 × si_St)) (x2 : Int32) (x3 : Int32) (x4 : Int32) (S : si_St) : Option (Int32 × si_St) :=
  Option.bind (si_rd S 12 x2) fun v8 => if v8 ≤ x4 then (Option.bind (si_bz 1) fun v9 => some (v9, S)) else (Option.bind (f_X7_toleranceOf F k1 x2 x4 S) fun q10 => f_X7_repeatsAgree_l32 F k1 r8 F x2 x3 x4 q10.1 0 q10.2)
def f_X7_repeatsAgree_l8 (F : Nat) (k1 : Nat) : Nat → Int32 → Int32 → Int32 → si_St → Option (Int32 × si_St)
 | 0 => fun _ _ _ _ => none
 | n + 1 => fun x2 x3 x4 S => f_X7_repeatsAgree_h8 F k1 (f_X7_repeatsAgree_l8 F k1 n) x2 x3 x4 S
def f_X7_repeatsAgree (F : Nat) (k1 : Nat) (x2 : Int32) (S : si_St) : Option (Int32 × si_St) :=
  Option.bind (some (x2 * 8)) fun v11 => f_X7_repeatsAgree_l8 F k1 F x2 v11 0 S
def f_X7_judge_h67 (F : Nat) (k1 : Nat) (t0 : Int32) (S : si_St) : Option (Int32 × si_St) :=
  some (t0, S)
def f_X7_judge (F : Nat) (k1 : Nat) (x2 : Int32) (x3 : Int32) (S : si_St) : Option (Int32 × si_St) :=
  Option.bind (f_X7_hasEmptyTest F x2 S) fun q1 => if q1.1 = 0 then (some (1, q1.2)) else (Option.bind (si_rd q1.2 8 x2) fun v2 => Option.bind (si_rd q1.2 (k1 + 4) v2) fun v3 => Option.bind (f_X7_reachesHalf F x2 v3 q1.2) fun q4 => if q4.1 = 0 then (some (2, q4.2)) else (Option.bind (f_X7_hasRepeat F x2 q4.2) fun q5 => if q5.1 = 0 then (some (3, q5.2)) else (Option.bind (f_X7_allWithinTolerance F k1 x2 x3 q5.2) fun q6 => if q6.1 = 0 then (some (4, q6.2)) else (Option.bind (f_X7_repeatsAgree F k1 x2 q6.2) fun q7 => if q7.1 = 0 then (f_X7_judge_h67 F k1 5 q7.2) else (f_X7_judge_h67 F k1 0 q7.2)))))
abbrev rm_X7_copyFrom : Room := { frames := 1, cells := 0, slots := 0, locals := 40 }
set_option maxHeartbeats 4000000 in
set_option maxRecDepth 100000 in
theorem c_X7_copyFrom (l : Launch) (E : si_Ev) (F : Nat) (k0 : Nat) (k1 : Nat) (hk0 : si_kd k0 = 7) (hk1 : si_kd k1 = 7) (S : si_St) (o : si_St) (hf : f_X7_copyFrom F k0 k1 S = some o) : si_Mv l E yX7_copyFrom cX7_copyFrom 2 rm_X7_copyFrom [.ref (E.2.1 k0), .ref (E.2.1 k1)] S o := by
  refine si_ofWv (plainFor_of_name (by decide +kernel)) (Nat.le_of_ble_eq_true rfl) ?_
  intro p e s m args below meth c ls Q A X hw hA hl hret
  have hl : lv_has ls 2 [(0, .ref (E.2.1 k0)), (1, .ref (E.2.1 k1))] := hl
  unfold f_X7_copyFrom at hf
  refine lv_aload_n X.1 X.2.1 dX7_copyFrom_0 rfl (lv_at hl 0 rfl) ?_
  refine lv_aload_n X.1 X.2.1 dX7_copyFrom_1 rfl (lv_at hl 1 rfl) ?_
  refine si_getI X hw si_cl7 0 (by decide) gf_RX7_36 rfl hk1 rfl dX7_copyFrom_2 ?_
  obtain ⟨S1, eS1, hf⟩ := si_ob hf
  refine si_ptI X hw si_cl7 0 (by decide) gf_RX7_36 rfl rfl hk0 rfl rfl eS1 dX7_copyFrom_5 (fun H locs hw => ?_)
  refine lv_aload_n X.1 X.2.1 dX7_copyFrom_8 rfl (lv_at hl 1 rfl) ?_
  refine si_getR (k' := (k1 + 1)) (d := 1) X hw si_cl7 1 (by decide) gf_RX7_9 rfl hk1 rfl (by decide) rfl dX7_copyFrom_9 ?_
  refine lv_iconst (v := 0) X.1 X.2.1 dX7_copyFrom_12 (by decide) ?_
  refine lv_aload_n X.1 X.2.1 dX7_copyFrom_13 rfl (lv_at hl 0 rfl) ?_
  refine si_getR (k' := (k0 + 1)) (d := 1) X hw si_cl7 1 (by decide) gf_RX7_9 rfl hk0 rfl (by decide) rfl dX7_copyFrom_14 ?_
  refine lv_iconst (v := 0) X.1 X.2.1 dX7_copyFrom_17 (by decide) ?_
  refine lv_bipush (v := 30) X.1 X.2.1 dX7_copyFrom_18 (by decide) ?_
  obtain ⟨S2, eS2, hf⟩ := si_ob hf
  refine si_acopyi hl.1 X hw (sk_7_1 hk1) (sk_7_1 hk0) (by decide) (Nat.le_of_ble_eq_true rfl) eS2 gm_RX7_40 dX7_copyFrom_20 (fun H locs hw => ?_)
  refine lv_aload_n X.1 X.2.1 dX7_copyFrom_23 rfl (lv_at hl 1 rfl) ?_
  refine si_getR (k' := (k1 + 2)) (d := 2) X hw si_cl7 2 (by decide) gf_RX7_15 rfl hk1 rfl (by decide) rfl dX7_copyFrom_24 ?_
  refine lv_iconst (v := 0) X.1 X.2.1 dX7_copyFrom_27 (by decide) ?_
  refine lv_aload_n X.1 X.2.1 dX7_copyFrom_28 rfl (lv_at hl 0 rfl) ?_
  refine si_getR (k' := (k0 + 2)) (d := 2) X hw si_cl7 2 (by decide) gf_RX7_15 rfl hk0 rfl (by decide) rfl dX7_copyFrom_29 ?_
  refine lv_iconst (v := 0) X.1 X.2.1 dX7_copyFrom_32 (by decide) ?_
  refine lv_bipush (v := 30) X.1 X.2.1 dX7_copyFrom_33 (by decide) ?_
  obtain ⟨S3, eS3, hf⟩ := si_ob hf
  refine si_acopyi hl.1 X hw (sk_7_2 hk1) (sk_7_2 hk0) (by decide) (Nat.le_of_ble_eq_true rfl) eS3 gm_RX7_40 dX7_copyFrom_35 (fun H locs hw => ?_)
  refine lv_aload_n X.1 X.2.1 dX7_copyFrom_38 rfl (lv_at hl 1 rfl) ?_
  refine si_getR (k' := (k1 + 3)) (d := 3) X hw si_cl7 3 (by decide) gf_RX7_18 rfl hk1 rfl (by decide) rfl dX7_copyFrom_39 ?_
  refine lv_iconst (v := 0) X.1 X.2.1 dX7_copyFrom_42 (by decide) ?_
  refine lv_aload_n X.1 X.2.1 dX7_copyFrom_43 rfl (lv_at hl 0 rfl) ?_
  refine si_getR (k' := (k0 + 3)) (d := 3) X hw si_cl7 3 (by decide) gf_RX7_18 rfl hk0 rfl (by decide) rfl dX7_copyFrom_44 ?_
  refine lv_iconst (v := 0) X.1 X.2.1 dX7_copyFrom_47 (by decide) ?_
  refine lv_bipush (v := 30) X.1 X.2.1 dX7_copyFrom_48 (by decide) ?_
  obtain ⟨S4, eS4, hf⟩ := si_ob hf
  refine si_acopyi hl.1 X hw (sk_7_3 hk1) (sk_7_3 hk0) (by decide) (Nat.le_of_ble_eq_true rfl) eS4 gm_RX7_40 dX7_copyFrom_50 (fun H locs hw => ?_)
  refine lv_aload_n X.1 X.2.1 dX7_copyFrom_53 rfl (lv_at hl 1 rfl) ?_
  refine si_getR (k' := (k1 + 4)) (d := 4) X hw si_cl7 4 (by decide) gf_RX7_21 rfl hk1 rfl (by decide) rfl dX7_copyFrom_54 ?_
  refine lv_iconst (v := 0) X.1 X.2.1 dX7_copyFrom_57 (by decide) ?_
  refine lv_aload_n X.1 X.2.1 dX7_copyFrom_58 rfl (lv_at hl 0 rfl) ?_
  refine si_getR (k' := (k0 + 4)) (d := 4) X hw si_cl7 4 (by decide) gf_RX7_21 rfl hk0 rfl (by decide) rfl dX7_copyFrom_59 ?_
  refine lv_iconst (v := 0) X.1 X.2.1 dX7_copyFrom_62 (by decide) ?_
  refine lv_bipush (v := 30) X.1 X.2.1 dX7_copyFrom_63 (by decide) ?_
  obtain ⟨S5, eS5, hf⟩ := si_ob hf
  refine si_acopyi hl.1 X hw (sk_7_4 hk1) (sk_7_4 hk0) (by decide) (Nat.le_of_ble_eq_true rfl) eS5 gm_RX7_40 dX7_copyFrom_65 (fun H locs hw => ?_)
  refine lv_aload_n X.1 X.2.1 dX7_copyFrom_68 rfl (lv_at hl 1 rfl) ?_
  refine si_getR (k' := (k1 + 5)) (d := 5) X hw si_cl7 5 (by decide) gf_RX7_24 rfl hk1 rfl (by decide) rfl dX7_copyFrom_69 ?_
  refine lv_iconst (v := 0) X.1 X.2.1 dX7_copyFrom_72 (by decide) ?_
  refine lv_aload_n X.1 X.2.1 dX7_copyFrom_73 rfl (lv_at hl 0 rfl) ?_
  refine si_getR (k' := (k0 + 5)) (d := 5) X hw si_cl7 5 (by decide) gf_RX7_24 rfl hk0 rfl (by decide) rfl dX7_copyFrom_74 ?_
  refine lv_iconst (v := 0) X.1 X.2.1 dX7_copyFrom_77 (by decide) ?_
  refine lv_bipush (v := 30) X.1 X.2.1 dX7_copyFrom_78 (by decide) ?_
  obtain ⟨S6, eS6, hf⟩ := si_ob hf
  refine si_acopyi hl.1 X hw (sk_7_5 hk1) (sk_7_5 hk0) (by decide) (Nat.le_of_ble_eq_true rfl) eS6 gm_RX7_40 dX7_copyFrom_80 (fun H locs hw => ?_)
  refine lv_aload_n X.1 X.2.1 dX7_copyFrom_83 rfl (lv_at hl 1 rfl) ?_
  refine si_getR (k' := (k1 + 6)) (d := 6) X hw si_cl7 6 (by decide) gf_RX7_27 rfl hk1 rfl (by decide) rfl dX7_copyFrom_84 ?_
  refine lv_iconst (v := 0) X.1 X.2.1 dX7_copyFrom_87 (by decide) ?_
  refine lv_aload_n X.1 X.2.1 dX7_copyFrom_88 rfl (lv_at hl 0 rfl) ?_
  refine si_getR (k' := (k0 + 6)) (d := 6) X hw si_cl7 6 (by decide) gf_RX7_27 rfl hk0 rfl (by decide) rfl dX7_copyFrom_89 ?_
  refine lv_iconst (v := 0) X.1 X.2.1 dX7_copyFrom_92 (by decide) ?_
  refine lv_sipush (v := 240) X.1 X.2.1 dX7_copyFrom_93 (by decide) ?_
  obtain ⟨S7, eS7, hf⟩ := si_ob hf
  refine si_acopyi hl.1 X hw (sk_7_6 hk1) (sk_7_6 hk0) (by decide) (Nat.le_of_ble_eq_true rfl) eS7 gm_RX7_40 dX7_copyFrom_96 (fun H locs hw => ?_)
  refine lv_aload_n X.1 X.2.1 dX7_copyFrom_99 rfl (lv_at hl 1 rfl) ?_
  refine si_getR (k' := (k1 + 7)) (d := 7) X hw si_cl7 7 (by decide) gf_RX7_30 rfl hk1 rfl (by decide) rfl dX7_copyFrom_100 ?_
  refine lv_iconst (v := 0) X.1 X.2.1 dX7_copyFrom_103 (by decide) ?_
  refine lv_aload_n X.1 X.2.1 dX7_copyFrom_104 rfl (lv_at hl 0 rfl) ?_
  refine si_getR (k' := (k0 + 7)) (d := 7) X hw si_cl7 7 (by decide) gf_RX7_30 rfl hk0 rfl (by decide) rfl dX7_copyFrom_105 ?_
  refine lv_iconst (v := 0) X.1 X.2.1 dX7_copyFrom_108 (by decide) ?_
  refine lv_sipush (v := 240) X.1 X.2.1 dX7_copyFrom_109 (by decide) ?_
  obtain ⟨S8, eS8, hf⟩ := si_ob hf
  refine si_acopyi hl.1 X hw (sk_7_7 hk1) (sk_7_7 hk0) (by decide) (Nat.le_of_ble_eq_true rfl) eS8 gm_RX7_40 dX7_copyFrom_112 (fun H locs hw => ?_)
  refine lv_aload_n X.1 X.2.1 dX7_copyFrom_115 rfl (lv_at hl 1 rfl) ?_
  refine si_getR (k' := (k1 + 8)) (d := 8) X hw si_cl7 8 (by decide) gf_RX7_33 rfl hk1 rfl (by decide) rfl dX7_copyFrom_116 ?_
  refine lv_iconst (v := 0) X.1 X.2.1 dX7_copyFrom_119 (by decide) ?_
  refine lv_aload_n X.1 X.2.1 dX7_copyFrom_120 rfl (lv_at hl 0 rfl) ?_
  refine si_getR (k' := (k0 + 8)) (d := 8) X hw si_cl7 8 (by decide) gf_RX7_33 rfl hk0 rfl (by decide) rfl dX7_copyFrom_121 ?_
  refine lv_iconst (v := 0) X.1 X.2.1 dX7_copyFrom_124 (by decide) ?_
  refine lv_sipush (v := 240) X.1 X.2.1 dX7_copyFrom_125 (by decide) ?_
  obtain ⟨S9, eS9, hf⟩ := si_ob hf
  refine si_acopyi hl.1 X hw (sk_7_8 hk1) (sk_7_8 hk0) (by decide) (Nat.le_of_ble_eq_true rfl) eS9 gm_RX7_40 dX7_copyFrom_128 (fun H locs hw => ?_)
  exact hret _ _ _ _ _ hf hw dX7_copyFrom_131
abbrev rm_X7_isOpen : Room := { frames := 0, cells := 0, slots := 0, locals := 0 }
set_option maxHeartbeats 4000000 in
set_option maxRecDepth 100000 in
theorem c_X7_isOpen (l : Launch) (E : si_Ev) (F : Nat) (x1 : Int32) (S : si_St) (o : Int32 × si_St) (hf : f_X7_isOpen F x1 S = some o) : si_Mi l E yX7_isOpen cX7_isOpen 2 (some .boolean) rm_X7_isOpen [.ref (E.2.1 7), .int x1] S o := by
  refine si_ofWz (plainFor_of_name (by decide +kernel)) (Nat.le_of_ble_eq_true rfl) ?_
  intro p e s m args below meth c ls Q A X hw hA hl hret
  have hl : lv_has ls 2 [(0, .ref (E.2.1 7)), (1, .int x1)] := hl
  have B15 : ∀ (t0 : Int32) (S : si_St) (H : Heap) (locs : List Loc) (ls : Array Slot) , f_X7_isOpen_h15 F t0 S = some o → si_Ws E A s.heap S H locs → lv_has ls 2 [] → W p l e rm_X7_isOpen s m args below meth c H locs 0 0 Q (F0 m 15 ls [.int t0]) := by
    intro t0  S H locs ls  hf hw hl
    unfold f_X7_isOpen_h15 at hf
    obtain ⟨v1, ev1, hf⟩ := si_ob hf
    exact hret _ _ _ _ _ _ (si_bzf ev1 hf) (si_nz (si_bz_inv ev1).1) hw dX7_isOpen_15
  unfold f_X7_isOpen at hf
  refine lv_aload_n X.1 X.2.1 dX7_isOpen_0 rfl (lv_at hl 0 rfl) ?_
  refine si_getR (k' := 11) (d := 4) X hw si_cl7 4 (by decide) gf_RX7_21 rfl rfl rfl (by decide) rfl dX7_isOpen_1 ?_
  refine lv_iload_n X.1 X.2.1 dX7_isOpen_4 rfl (lv_at hl 1 rfl) ?_
  obtain ⟨v2, ev2, hf⟩ := si_ob hf
  refine si_iald X hw rfl ev2 dX7_isOpen_5 ?_
  refine lv_iconst (v := (-1)) X.1 X.2.1 dX7_isOpen_6 (by decide) ?_
  refine lv_icmp_ne (tgt := 14) X.1 X.2.1 dX7_isOpen_7 (by decide) (fun c7 => ?_) (fun c7 => ?_)
  · have hf := si_in c7 hf
    refine lv_iconst (v := 0) X.1 X.2.1 dX7_isOpen_14 (by decide) ?_
    exact B15 _ _ _ _ _ hf hw (lv_sub hl [] rfl)
  · have hf := si_ip c7 hf
    refine lv_iconst (v := 1) X.1 X.2.1 dX7_isOpen_10 (by decide) ?_
    refine lv_goto (tgt := 15) X.1 X.2.1 dX7_isOpen_11 (by decide) ?_
    exact B15 _ _ _ _ _ hf hw (lv_sub hl [] rfl)
abbrev rm_X7_hasOpenVisit : Room := { frames := 1, cells := 0, slots := 0, locals := 21 }
set_option maxHeartbeats 4000000 in
set_option maxRecDepth 100000 in
theorem c_X7_hasOpenVisit (l : Launch) (E : si_Ev) (F : Nat) (x1 : Int32) (S : si_St) (o : Int32 × si_St) (hf : f_X7_hasOpenVisit F x1 S = some o) : si_Mi l E yX7_hasOpenVisit cX7_hasOpenVisit 3 (some .boolean) rm_X7_hasOpenVisit [.ref (E.2.1 7), .int x1] S o := by
  refine si_ofWz (plainFor_of_name (by decide +kernel)) (Nat.le_of_ble_eq_true rfl) ?_
  intro p e s m args below meth c ls Q A X hw hA hl hret
  have hl : lv_has ls 3 [(0, .ref (E.2.1 7)), (1, .int x1)] := hl
  have B2 : ∀ (n2 : Nat) (x1 : Int32) (x2 : Int32) (S : si_St) (H : Heap) (locs : List Loc) (ls : Array Slot) , f_X7_hasOpenVisit_l2 F n2 x1 x2 S = some o → si_Ws E A s.heap S H locs → lv_has ls 3 [(0, .ref (E.2.1 7)), (1, .int x1), (2, .int x2)] → W p l e rm_X7_hasOpenVisit s m args below meth c H locs 0 0 Q (F0 m 2 ls []) := by
    intro n2
    induction n2 with
    | zero => intro x1 x2  S H locs ls  hf; cases hf
    | succ n2 ih2 =>
      have B30 : ∀ (x1 : Int32) (x2 : Int32) (S : si_St) (H : Heap) (locs : List Loc) (ls : Array Slot) , f_X7_hasOpenVisit_h30 F (f_X7_hasOpenVisit_l2 F n2) x1 x2 S = some o → si_Ws E A s.heap S H locs → lv_has ls 3 [(0, .ref (E.2.1 7)), (1, .int x1), (2, .int x2)] → W p l e rm_X7_hasOpenVisit s m args below meth c H locs 0 0 Q (F0 m 30 ls []) := by
        intro x1 x2  S H locs ls  hf hw hl
        unfold f_X7_hasOpenVisit_h30 at hf
        obtain ⟨v1, ev1, hf⟩ := si_ob hf
        refine lv_iinc (v := v1) (lv' := [(2, .int v1), (0, .ref (E.2.1 7)), (1, .int x1)]) X.1 X.2.1 dX7_hasOpenVisit_30 hl (k := 2) rfl (Option.some.inj ev1) (by decide) rfl (fun ls hl => ?_)
        refine lv_goto (tgt := 2) X.1 X.2.1 dX7_hasOpenVisit_33 (by decide) ?_
        exact ih2 _ _ _ _ _ _ hf hw (lv_sub hl [1, 2, 0] rfl)
      intro x1 x2  S H locs ls  hf hw hl
      have hf : f_X7_hasOpenVisit_h2 F (f_X7_hasOpenVisit_l2 F n2) x1 x2 S = some o := hf
      unfold f_X7_hasOpenVisit_h2 at hf
      refine lv_iload_n X.1 X.2.1 dX7_hasOpenVisit_2 rfl (lv_at hl 2 rfl) ?_
      refine lv_aload_n X.1 X.2.1 dX7_hasOpenVisit_3 rfl (lv_at hl 0 rfl) ?_
      refine si_getI X hw si_cl7 0 (by decide) gf_RX7_36 rfl rfl rfl dX7_hasOpenVisit_4 ?_
      refine lv_icmp_ge (tgt := 36) X.1 X.2.1 dX7_hasOpenVisit_7 (by decide) (fun c7 => ?_) (fun c7 => ?_)
      · have hf := si_ip c7 hf
        refine lv_iconst (v := 0) X.1 X.2.1 dX7_hasOpenVisit_36 (by decide) ?_
        obtain ⟨v2, ev2, hf⟩ := si_ob hf
        exact hret _ _ _ _ _ _ (si_bzf ev2 hf) (si_nz (si_bz_inv ev2).1) hw dX7_hasOpenVisit_37
      · have hf := si_in c7 hf
        refine lv_aload_n X.1 X.2.1 dX7_hasOpenVisit_10 rfl (lv_at hl 0 rfl) ?_
        refine si_getR (k' := 8) (d := 1) X hw si_cl7 1 (by decide) gf_RX7_9 rfl rfl rfl (by decide) rfl dX7_hasOpenVisit_11 ?_
        refine lv_iload_n X.1 X.2.1 dX7_hasOpenVisit_14 rfl (lv_at hl 2 rfl) ?_
        obtain ⟨v3, ev3, hf⟩ := si_ob hf
        refine si_iald X hw rfl ev3 dX7_hasOpenVisit_15 ?_
        refine lv_iload_n X.1 X.2.1 dX7_hasOpenVisit_16 rfl (lv_at hl 1 rfl) ?_
        refine lv_icmp_ne (tgt := 30) X.1 X.2.1 dX7_hasOpenVisit_17 (by decide) (fun c17 => ?_) (fun c17 => ?_)
        · have hf := si_in c17 hf
          exact B30 _ _ _ _ _ _ hf hw (lv_sub hl [0, 1, 2] rfl)
        · have hf := si_ip c17 hf
          refine lv_aload_n X.1 X.2.1 dX7_hasOpenVisit_20 rfl (lv_at hl 0 rfl) ?_
          refine lv_iload_n X.1 X.2.1 dX7_hasOpenVisit_21 rfl (lv_at hl 2 rfl) ?_
          obtain ⟨q4, eq4, hf⟩ := si_ob hf
          refine si_cVi [.int x2] cal_X7_isOpen gm_RX7_46 X hw hA hl.1 (c_X7_isOpen l E F x2 S q4 eq4) si_cl7 rfl ⟨⟨rfl, rfl⟩, Nat.le_of_ble_eq_true rfl, Nat.le_of_ble_eq_true rfl⟩ rfl rfl (Nat.le_of_ble_eq_true rfl) ⟨Nat.zero_le _, Nat.zero_le _⟩ dX7_hasOpenVisit_22 (fun H locs hw => ?_)
          refine lv_if_eq (tgt := 30) X.1 X.2.1 dX7_hasOpenVisit_25 (by decide) (fun c25 => ?_) (fun c25 => ?_)
          · have hf := si_ip c25 hf
            exact B30 _ _ _ _ _ _ hf hw (lv_sub hl [0, 1, 2] rfl)
          · have hf := si_in c25 hf
            refine lv_iconst (v := 1) X.1 X.2.1 dX7_hasOpenVisit_28 (by decide) ?_
            obtain ⟨v5, ev5, hf⟩ := si_ob hf
            exact hret _ _ _ _ _ _ (si_bzf ev5 hf) (si_nz (si_bz_inv ev5).1) hw dX7_hasOpenVisit_29
  unfold f_X7_hasOpenVisit at hf
  refine lv_iconst (v := 0) X.1 X.2.1 dX7_hasOpenVisit_0 (by decide) ?_
  refine lv_istore_n (lv' := [(2, .int 0), (0, .ref (E.2.1 7)), (1, .int x1)]) X.1 X.2.1 dX7_hasOpenVisit_1 rfl hl (by decide) rfl (fun ls hl => ?_)
  exact B2 F _ _ _ _ _ _ hf hw (lv_sub hl [1, 2, 0] rfl)
abbrev rm_X7_lastDayOf : Room := { frames := 1, cells := 0, slots := 0, locals := 23 }
set_option maxHeartbeats 4000000 in
set_option maxRecDepth 100000 in
theorem c_X7_lastDayOf (l : Launch) (E : si_Ev) (F : Nat) (x1 : Int32) (S : si_St) (o : Int32 × si_St) (hf : f_X7_lastDayOf F x1 S = some o) : si_Mi l E yX7_lastDayOf cX7_lastDayOf 4 (some .int) rm_X7_lastDayOf [.ref (E.2.1 7), .int x1] S o := by
  refine si_ofWi (plainFor_of_name (by decide +kernel)) (Nat.le_of_ble_eq_true rfl) ?_
  intro p e s m args below meth c ls Q A X hw hA hl hret
  have hl : lv_has ls 4 [(0, .ref (E.2.1 7)), (1, .int x1)] := hl
  have B4 : ∀ (n4 : Nat) (x1 : Int32) (x2 : Int32) (x3 : Int32) (S : si_St) (H : Heap) (locs : List Loc) (ls : Array Slot) , f_X7_lastDayOf_l4 F n4 x1 x2 x3 S = some o → si_Ws E A s.heap S H locs → lv_has ls 4 [(0, .ref (E.2.1 7)), (1, .int x1), (2, .int x2), (3, .int x3)] → W p l e rm_X7_lastDayOf s m args below meth c H locs 0 0 Q (F0 m 4 ls []) := by
    intro n4
    induction n4 with
    | zero => intro x1 x2 x3  S H locs ls  hf; cases hf
    | succ n4 ih4 =>
      have B33 : ∀ (x1 : Int32) (x2 : Int32) (x3 : Int32) (S : si_St) (H : Heap) (locs : List Loc) (ls : Array Slot) , f_X7_lastDayOf_h33 F (f_X7_lastDayOf_l4 F n4) x1 x2 x3 S = some o → si_Ws E A s.heap S H locs → lv_has ls 4 [(0, .ref (E.2.1 7)), (1, .int x1), (2, .int x2), (3, .int x3)] → W p l e rm_X7_lastDayOf s m args below meth c H locs 0 0 Q (F0 m 33 ls []) := by
        intro x1 x2 x3  S H locs ls  hf hw hl
        unfold f_X7_lastDayOf_h33 at hf
        obtain ⟨v1, ev1, hf⟩ := si_ob hf
        refine lv_iinc (v := v1) (lv' := [(3, .int v1), (0, .ref (E.2.1 7)), (1, .int x1), (2, .int x2)]) X.1 X.2.1 dX7_lastDayOf_33 hl (k := 3) rfl (Option.some.inj ev1) (by decide) rfl (fun ls hl => ?_)
        refine lv_goto (tgt := 4) X.1 X.2.1 dX7_lastDayOf_36 (by decide) ?_
        exact ih4 _ _ _ _ _ _ _ hf hw (lv_sub hl [1, 2, 3, 0] rfl)
      intro x1 x2 x3  S H locs ls  hf hw hl
      have hf : f_X7_lastDayOf_h4 F (f_X7_lastDayOf_l4 F n4) x1 x2 x3 S = some o := hf
      unfold f_X7_lastDayOf_h4 at hf
      refine lv_iload_n X.1 X.2.1 dX7_lastDayOf_4 rfl (lv_at hl 3 rfl) ?_
      refine lv_aload_n X.1 X.2.1 dX7_lastDayOf_5 rfl (lv_at hl 0 rfl) ?_
      refine si_getI X hw si_cl7 0 (by decide) gf_RX7_36 rfl rfl rfl dX7_lastDayOf_6 ?_
      refine lv_icmp_ge (tgt := 39) X.1 X.2.1 dX7_lastDayOf_9 (by decide) (fun c9 => ?_) (fun c9 => ?_)
      · have hf := si_ip c9 hf
        refine lv_iload_n X.1 X.2.1 dX7_lastDayOf_39 rfl (lv_at hl 2 rfl) ?_
        exact hret _ _ _ _ _ _ hf hw dX7_lastDayOf_40
      · have hf := si_in c9 hf
        refine lv_aload_n X.1 X.2.1 dX7_lastDayOf_12 rfl (lv_at hl 0 rfl) ?_
        refine si_getR (k' := 8) (d := 1) X hw si_cl7 1 (by decide) gf_RX7_9 rfl rfl rfl (by decide) rfl dX7_lastDayOf_13 ?_
        refine lv_iload_n X.1 X.2.1 dX7_lastDayOf_16 rfl (lv_at hl 3 rfl) ?_
        obtain ⟨v2, ev2, hf⟩ := si_ob hf
        refine si_iald X hw rfl ev2 dX7_lastDayOf_17 ?_
        refine lv_iload_n X.1 X.2.1 dX7_lastDayOf_18 rfl (lv_at hl 1 rfl) ?_
        refine lv_icmp_ne (tgt := 33) X.1 X.2.1 dX7_lastDayOf_19 (by decide) (fun c19 => ?_) (fun c19 => ?_)
        · have hf := si_in c19 hf
          exact B33 _ _ _ _ _ _ _ hf hw (lv_sub hl [0, 1, 2, 3] rfl)
        · have hf := si_ip c19 hf
          refine lv_iload_n X.1 X.2.1 dX7_lastDayOf_22 rfl (lv_at hl 2 rfl) ?_
          refine lv_aload_n X.1 X.2.1 dX7_lastDayOf_23 rfl (lv_at hl 0 rfl) ?_
          refine si_getR (k' := 9) (d := 2) X hw si_cl7 2 (by decide) gf_RX7_15 rfl rfl rfl (by decide) rfl dX7_lastDayOf_24 ?_
          refine lv_iload_n X.1 X.2.1 dX7_lastDayOf_27 rfl (lv_at hl 3 rfl) ?_
          obtain ⟨v3, ev3, hf⟩ := si_ob hf
          refine si_iald X hw rfl ev3 dX7_lastDayOf_28 ?_
          refine si_mmax hl.1 X (by decide) (Nat.le_of_ble_eq_true rfl) gm_RX7_50 dX7_lastDayOf_29 ?_
          obtain ⟨v4, ev4, hf⟩ := si_ob hf
          refine si_nmI ev4 ?_
          refine lv_istore_n (lv' := [(2, .int v4), (0, .ref (E.2.1 7)), (1, .int x1), (3, .int x3)]) X.1 X.2.1 dX7_lastDayOf_32 rfl hl (by decide) rfl (fun ls hl => ?_)
          exact B33 _ _ _ _ _ _ _ hf hw (lv_sub hl [1, 2, 0, 3] rfl)
  unfold f_X7_lastDayOf at hf
  refine lv_iconst (v := 0) X.1 X.2.1 dX7_lastDayOf_0 (by decide) ?_
  refine lv_istore_n (lv' := [(2, .int 0), (0, .ref (E.2.1 7)), (1, .int x1)]) X.1 X.2.1 dX7_lastDayOf_1 rfl hl (by decide) rfl (fun ls hl => ?_)
  refine lv_iconst (v := 0) X.1 X.2.1 dX7_lastDayOf_2 (by decide) ?_
  refine lv_istore_n (lv' := [(3, .int 0), (2, .int 0), (0, .ref (E.2.1 7)), (1, .int x1)]) X.1 X.2.1 dX7_lastDayOf_3 rfl hl (by decide) rfl (fun ls hl => ?_)
  exact B4 F _ _ _ _ _ _ _ hf hw (lv_sub hl [2, 3, 1, 0] rfl)
abbrev rm_X7_hasPassed : Room := { frames := 0, cells := 0, slots := 0, locals := 0 }
set_option maxHeartbeats 4000000 in
set_option maxRecDepth 100000 in
theorem c_X7_hasPassed (l : Launch) (E : si_Ev) (F : Nat) (x1 : Int32) (S : si_St) (o : Int32 × si_St) (hf : f_X7_hasPassed F x1 S = some o) : si_Mi l E yX7_hasPassed cX7_hasPassed 3 (some .boolean) rm_X7_hasPassed [.ref (E.2.1 7), .int x1] S o := by
  refine si_ofWz (plainFor_of_name (by decide +kernel)) (Nat.le_of_ble_eq_true rfl) ?_
  intro p e s m args below meth c ls Q A X hw hA hl hret
  have hl : lv_has ls 3 [(0, .ref (E.2.1 7)), (1, .int x1)] := hl
  have B2 : ∀ (n2 : Nat) (x1 : Int32) (x2 : Int32) (S : si_St) (H : Heap) (locs : List Loc) (ls : Array Slot) , f_X7_hasPassed_l2 F n2 x1 x2 S = some o → si_Ws E A s.heap S H locs → lv_has ls 3 [(0, .ref (E.2.1 7)), (1, .int x1), (2, .int x2)] → W p l e rm_X7_hasPassed s m args below meth c H locs 0 0 Q (F0 m 2 ls []) := by
    intro n2
    induction n2 with
    | zero => intro x1 x2  S H locs ls  hf; cases hf
    | succ n2 ih2 =>
      have B31 : ∀ (x1 : Int32) (x2 : Int32) (S : si_St) (H : Heap) (locs : List Loc) (ls : Array Slot) , f_X7_hasPassed_h31 F (f_X7_hasPassed_l2 F n2) x1 x2 S = some o → si_Ws E A s.heap S H locs → lv_has ls 3 [(0, .ref (E.2.1 7)), (1, .int x1), (2, .int x2)] → W p l e rm_X7_hasPassed s m args below meth c H locs 0 0 Q (F0 m 31 ls []) := by
        intro x1 x2  S H locs ls  hf hw hl
        unfold f_X7_hasPassed_h31 at hf
        obtain ⟨v1, ev1, hf⟩ := si_ob hf
        refine lv_iinc (v := v1) (lv' := [(2, .int v1), (0, .ref (E.2.1 7)), (1, .int x1)]) X.1 X.2.1 dX7_hasPassed_31 hl (k := 2) rfl (Option.some.inj ev1) (by decide) rfl (fun ls hl => ?_)
        refine lv_goto (tgt := 2) X.1 X.2.1 dX7_hasPassed_34 (by decide) ?_
        exact ih2 _ _ _ _ _ _ hf hw (lv_sub hl [1, 2, 0] rfl)
      intro x1 x2  S H locs ls  hf hw hl
      have hf : f_X7_hasPassed_h2 F (f_X7_hasPassed_l2 F n2) x1 x2 S = some o := hf
      unfold f_X7_hasPassed_h2 at hf
      refine lv_iload_n X.1 X.2.1 dX7_hasPassed_2 rfl (lv_at hl 2 rfl) ?_
      refine lv_aload_n X.1 X.2.1 dX7_hasPassed_3 rfl (lv_at hl 0 rfl) ?_
      refine si_getI X hw si_cl7 0 (by decide) gf_RX7_36 rfl rfl rfl dX7_hasPassed_4 ?_
      refine lv_icmp_ge (tgt := 37) X.1 X.2.1 dX7_hasPassed_7 (by decide) (fun c7 => ?_) (fun c7 => ?_)
      · have hf := si_ip c7 hf
        refine lv_iconst (v := 0) X.1 X.2.1 dX7_hasPassed_37 (by decide) ?_
        obtain ⟨v2, ev2, hf⟩ := si_ob hf
        exact hret _ _ _ _ _ _ (si_bzf ev2 hf) (si_nz (si_bz_inv ev2).1) hw dX7_hasPassed_38
      · have hf := si_in c7 hf
        refine lv_aload_n X.1 X.2.1 dX7_hasPassed_10 rfl (lv_at hl 0 rfl) ?_
        refine si_getR (k' := 8) (d := 1) X hw si_cl7 1 (by decide) gf_RX7_9 rfl rfl rfl (by decide) rfl dX7_hasPassed_11 ?_
        refine lv_iload_n X.1 X.2.1 dX7_hasPassed_14 rfl (lv_at hl 2 rfl) ?_
        obtain ⟨v3, ev3, hf⟩ := si_ob hf
        refine si_iald X hw rfl ev3 dX7_hasPassed_15 ?_
        refine lv_iload_n X.1 X.2.1 dX7_hasPassed_16 rfl (lv_at hl 1 rfl) ?_
        refine lv_icmp_ne (tgt := 31) X.1 X.2.1 dX7_hasPassed_17 (by decide) (fun c17 => ?_) (fun c17 => ?_)
        · have hf := si_in c17 hf
          exact B31 _ _ _ _ _ _ hf hw (lv_sub hl [0, 1, 2] rfl)
        · have hf := si_ip c17 hf
          refine lv_aload_n X.1 X.2.1 dX7_hasPassed_20 rfl (lv_at hl 0 rfl) ?_
          refine si_getR (k' := 11) (d := 4) X hw si_cl7 4 (by decide) gf_RX7_21 rfl rfl rfl (by decide) rfl dX7_hasPassed_21 ?_
          refine lv_iload_n X.1 X.2.1 dX7_hasPassed_24 rfl (lv_at hl 2 rfl) ?_
          obtain ⟨v4, ev4, hf⟩ := si_ob hf
          refine si_iald X hw rfl ev4 dX7_hasPassed_25 ?_
          refine lv_if_ne (tgt := 31) X.1 X.2.1 dX7_hasPassed_26 (by decide) (fun c26 => ?_) (fun c26 => ?_)
          · have hf := si_in c26 hf
            exact B31 _ _ _ _ _ _ hf hw (lv_sub hl [0, 1, 2] rfl)
          · have hf := si_ip c26 hf
            refine lv_iconst (v := 1) X.1 X.2.1 dX7_hasPassed_29 (by decide) ?_
            obtain ⟨v5, ev5, hf⟩ := si_ob hf
            exact hret _ _ _ _ _ _ (si_bzf ev5 hf) (si_nz (si_bz_inv ev5).1) hw dX7_hasPassed_30
  unfold f_X7_hasPassed at hf
  refine lv_iconst (v := 0) X.1 X.2.1 dX7_hasPassed_0 (by decide) ?_
  refine lv_istore_n (lv' := [(2, .int 0), (0, .ref (E.2.1 7)), (1, .int x1)]) X.1 X.2.1 dX7_hasPassed_1 rfl hl (by decide) rfl (fun ls hl => ?_)
  exact B2 F _ _ _ _ _ _ hf hw (lv_sub hl [1, 2, 0] rfl)
abbrev rm_X7_addVisit : Room := { frames := 1, cells := 0, slots := 0, locals := 22 }
set_option maxHeartbeats 4000000 in
set_option maxRecDepth 100000 in
theorem c_X7_addVisit (l : Launch) (E : si_Ev) (F : Nat) (x1 : Int32) (x2 : Int32) (S : si_St) (o : Int32 × si_St) (hf : f_X7_addVisit F x1 x2 S = some o) : si_Mi l E yX7_addVisit cX7_addVisit 4 (some .int) rm_X7_addVisit [.ref (E.2.1 7), .int x1, .int x2] S o := by
  refine si_ofWi (plainFor_of_name (by decide +kernel)) (Nat.le_of_ble_eq_true rfl) ?_
  intro p e s m args below meth c ls Q A X hw hA hl hret
  have hl : lv_has ls 4 [(0, .ref (E.2.1 7)), (1, .int x1), (2, .int x2)] := hl
  have B37 : ∀ (x3 : Int32) (t0 : Int32) (t1 : Int32) (S : si_St) (H : Heap) (locs : List Loc) (ls : Array Slot) , f_X7_addVisit_h37 F x3 t0 t1 S = some o → si_Ws E A s.heap S H locs → lv_has ls 4 [(0, .ref (E.2.1 7)), (3, .int x3)] → W p l e rm_X7_addVisit s m args below meth c H locs 0 0 Q (F0 m 37 ls [.int t0, .int t1, .ref (E.2.1 10)]) := by
    intro x3 t0 t1  S H locs ls  hf hw hl
    unfold f_X7_addVisit_h37 at hf
    obtain ⟨S1, eS1, hf⟩ := si_ob hf
    refine si_iast X hw rfl eS1 dX7_addVisit_37 (fun H locs hw => ?_)
    refine lv_aload_n X.1 X.2.1 dX7_addVisit_38 rfl (lv_at hl 0 rfl) ?_
    refine si_getR (k' := 11) (d := 4) X hw si_cl7 4 (by decide) gf_RX7_21 rfl rfl rfl (by decide) rfl dX7_addVisit_39 ?_
    refine lv_iload_n X.1 X.2.1 dX7_addVisit_42 rfl (lv_at hl 1 rfl) ?_
    refine lv_iconst (v := (-1)) X.1 X.2.1 dX7_addVisit_43 (by decide) ?_
    obtain ⟨S2, eS2, hf⟩ := si_ob hf
    refine si_iast X hw rfl eS2 dX7_addVisit_44 (fun H locs hw => ?_)
    refine lv_aload_n X.1 X.2.1 dX7_addVisit_45 rfl (lv_at hl 0 rfl) ?_
    refine si_getR (k' := 12) (d := 5) X hw si_cl7 5 (by decide) gf_RX7_24 rfl rfl rfl (by decide) rfl dX7_addVisit_46 ?_
    refine lv_iload_n X.1 X.2.1 dX7_addVisit_49 rfl (lv_at hl 1 rfl) ?_
    refine lv_iconst (v := 0) X.1 X.2.1 dX7_addVisit_50 (by decide) ?_
    obtain ⟨S3, eS3, hf⟩ := si_ob hf
    refine si_iast X hw rfl eS3 dX7_addVisit_51 (fun H locs hw => ?_)
    refine lv_aload_n X.1 X.2.1 dX7_addVisit_52 rfl (lv_at hl 0 rfl) ?_
    refine lv_dup X.1 X.2.1 dX7_addVisit_53 rfl ?_
    refine si_getI X hw si_cl7 0 (by decide) gf_RX7_36 rfl rfl rfl dX7_addVisit_54 ?_
    refine lv_iconst (v := 1) X.1 X.2.1 dX7_addVisit_57 (by decide) ?_
    refine lv_iadd X.1 X.2.1 dX7_addVisit_58 ?_
    obtain ⟨S4, eS4, hf⟩ := si_ob hf
    refine si_ptI X hw si_cl7 0 (by decide) gf_RX7_36 rfl rfl rfl rfl rfl eS4 dX7_addVisit_59 (fun H locs hw => ?_)
    refine lv_iload_n X.1 X.2.1 dX7_addVisit_62 rfl (lv_at hl 1 rfl) ?_
    exact hret _ _ _ _ _ _ hf hw dX7_addVisit_63
  unfold f_X7_addVisit at hf
  refine lv_aload_n X.1 X.2.1 dX7_addVisit_0 rfl (lv_at hl 0 rfl) ?_
  refine si_getI X hw si_cl7 0 (by decide) gf_RX7_36 rfl rfl rfl dX7_addVisit_1 ?_
  obtain ⟨v5, ev5, hf⟩ := si_ob hf
  refine si_nmI ev5 ?_
  refine lv_istore_n (lv' := [(3, .int v5), (0, .ref (E.2.1 7)), (1, .int x1), (2, .int x2)]) X.1 X.2.1 dX7_addVisit_4 rfl hl (by decide) rfl (fun ls hl => ?_)
  refine lv_aload_n X.1 X.2.1 dX7_addVisit_5 rfl (lv_at hl 1 rfl) ?_
  refine si_getR (k' := 8) (d := 1) X hw si_cl7 1 (by decide) gf_RX7_9 rfl rfl rfl (by decide) rfl dX7_addVisit_6 ?_
  refine lv_iload_n X.1 X.2.1 dX7_addVisit_9 rfl (lv_at hl 0 rfl) ?_
  refine lv_iload_n X.1 X.2.1 dX7_addVisit_10 rfl (lv_at hl 2 rfl) ?_
  obtain ⟨S6, eS6, hf⟩ := si_ob hf
  refine si_iast X hw rfl eS6 dX7_addVisit_11 (fun H locs hw => ?_)
  refine lv_aload_n X.1 X.2.1 dX7_addVisit_12 rfl (lv_at hl 1 rfl) ?_
  refine si_getR (k' := 9) (d := 2) X hw si_cl7 2 (by decide) gf_RX7_15 rfl rfl rfl (by decide) rfl dX7_addVisit_13 ?_
  refine lv_iload_n X.1 X.2.1 dX7_addVisit_16 rfl (lv_at hl 0 rfl) ?_
  refine lv_iload_n X.1 X.2.1 dX7_addVisit_17 rfl (lv_at hl 3 rfl) ?_
  obtain ⟨S7, eS7, hf⟩ := si_ob hf
  refine si_iast X hw rfl eS7 dX7_addVisit_18 (fun H locs hw => ?_)
  refine lv_aload_n X.1 X.2.1 dX7_addVisit_19 rfl (lv_at hl 1 rfl) ?_
  refine si_getR (k' := 10) (d := 3) X hw si_cl7 3 (by decide) gf_RX7_18 rfl rfl rfl (by decide) rfl dX7_addVisit_20 ?_
  refine lv_iload_n X.1 X.2.1 dX7_addVisit_23 rfl (lv_at hl 0 rfl) ?_
  refine lv_aload_n X.1 X.2.1 dX7_addVisit_24 rfl (lv_at hl 1 rfl) ?_
  refine lv_iload_n X.1 X.2.1 dX7_addVisit_25 rfl (lv_at hl 2 rfl) ?_
  obtain ⟨q8, eq8, hf⟩ := si_ob hf
  refine si_cVi [.int x1] cal_X7_hasPassed gm_RX7_56 X hw hA hl.1 (c_X7_hasPassed l E F x1 S7 q8 eq8) si_cl7 rfl ⟨⟨rfl, rfl⟩, Nat.le_of_ble_eq_true rfl, Nat.le_of_ble_eq_true rfl⟩ rfl rfl (Nat.le_of_ble_eq_true rfl) ⟨Nat.zero_le _, Nat.zero_le _⟩ dX7_addVisit_26 (fun H locs hw => ?_)
  refine lv_if_eq (tgt := 36) X.1 X.2.1 dX7_addVisit_29 (by decide) (fun c29 => ?_) (fun c29 => ?_)
  · have hf := si_ip c29 hf
    refine lv_iconst (v := 0) X.1 X.2.1 dX7_addVisit_36 (by decide) ?_
    exact B37 _ _ _ _ _ _ _ hf hw (lv_sub hl [1, 0] rfl)
  · have hf := si_in c29 hf
    refine lv_iconst (v := 1) X.1 X.2.1 dX7_addVisit_32 (by decide) ?_
    refine lv_goto (tgt := 37) X.1 X.2.1 dX7_addVisit_33 (by decide) ?_
    exact B37 _ _ _ _ _ _ _ hf hw (lv_sub hl [1, 0] rfl)
abbrev rm_X7_addTest : Room := { frames := 0, cells := 0, slots := 0, locals := 0 }
set_option maxHeartbeats 4000000 in
set_option maxRecDepth 100000 in
theorem c_X7_addTest (l : Launch) (E : si_Ev) (F : Nat) (x1 : Int32) (x2 : Int32) (x3 : Int32) (x4 : Int32) (S : si_St) (o : Int32 × si_St) (hf : f_X7_addTest F x1 x2 x3 x4 S = some o) : si_Mi l E yX7_addTest cX7_addTest 7 (some .int) rm_X7_addTest [.ref (E.2.1 7), .int x1, .int x2, .int x3, .int x4] S o := by
  refine si_ofWi (plainFor_of_name (by decide +kernel)) (Nat.le_of_ble_eq_true rfl) ?_
  intro p e s m args below meth c ls Q A X hw hA hl hret
  have hl : lv_has ls 7 [(0, .ref (E.2.1 7)), (1, .int x1), (2, .int x2), (3, .int x3), (4, .int x4)] := hl
  unfold f_X7_addTest at hf
  refine lv_aload_n X.1 X.2.1 dX7_addTest_0 rfl (lv_at hl 0 rfl) ?_
  refine si_getR (k' := 12) (d := 5) X hw si_cl7 5 (by decide) gf_RX7_24 rfl rfl rfl (by decide) rfl dX7_addTest_1 ?_
  refine lv_iload_n X.1 X.2.1 dX7_addTest_4 rfl (lv_at hl 1 rfl) ?_
  obtain ⟨v1, ev1, hf⟩ := si_ob hf
  refine si_iald X hw rfl ev1 dX7_addTest_5 ?_
  refine lv_istore (lv' := [(5, .int v1), (0, .ref (E.2.1 7)), (1, .int x1), (2, .int x2), (3, .int x3), (4, .int x4)]) X.1 X.2.1 dX7_addTest_6 hl (by decide) rfl (fun ls hl => ?_)
  refine lv_iload_n X.1 X.2.1 dX7_addTest_8 rfl (lv_at hl 2 rfl) ?_
  refine lv_bipush (v := 8) X.1 X.2.1 dX7_addTest_9 (by decide) ?_
  refine lv_imul X.1 X.2.1 dX7_addTest_11 ?_
  refine lv_iload X.1 X.2.1 dX7_addTest_12 (lv_at hl 0 rfl) ?_
  refine lv_iadd X.1 X.2.1 dX7_addTest_14 ?_
  obtain ⟨v2, ev2, hf⟩ := si_ob hf
  refine si_nmI ev2 ?_
  refine lv_istore (lv' := [(6, .int v2), (5, .int v1), (0, .ref (E.2.1 7)), (1, .int x1), (2, .int x2), (3, .int x3), (4, .int x4)]) X.1 X.2.1 dX7_addTest_15 hl (by decide) rfl (fun ls hl => ?_)
  refine lv_aload_n X.1 X.2.1 dX7_addTest_17 rfl (lv_at hl 2 rfl) ?_
  refine si_getR (k' := 13) (d := 6) X hw si_cl7 6 (by decide) gf_RX7_27 rfl rfl rfl (by decide) rfl dX7_addTest_18 ?_
  refine lv_iload X.1 X.2.1 dX7_addTest_21 (lv_at hl 0 rfl) ?_
  refine lv_iload_n X.1 X.2.1 dX7_addTest_23 rfl (lv_at hl 4 rfl) ?_
  obtain ⟨S3, eS3, hf⟩ := si_ob hf
  refine si_iast X hw rfl eS3 dX7_addTest_24 (fun H locs hw => ?_)
  refine lv_aload_n X.1 X.2.1 dX7_addTest_25 rfl (lv_at hl 2 rfl) ?_
  refine si_getR (k' := 14) (d := 7) X hw si_cl7 7 (by decide) gf_RX7_30 rfl rfl rfl (by decide) rfl dX7_addTest_26 ?_
  refine lv_iload X.1 X.2.1 dX7_addTest_29 (lv_at hl 0 rfl) ?_
  refine lv_iload_n X.1 X.2.1 dX7_addTest_31 rfl (lv_at hl 5 rfl) ?_
  obtain ⟨S4, eS4, hf⟩ := si_ob hf
  refine si_iast X hw rfl eS4 dX7_addTest_32 (fun H locs hw => ?_)
  refine lv_aload_n X.1 X.2.1 dX7_addTest_33 rfl (lv_at hl 2 rfl) ?_
  refine si_getR (k' := 15) (d := 8) X hw si_cl7 8 (by decide) gf_RX7_33 rfl rfl rfl (by decide) rfl dX7_addTest_34 ?_
  refine lv_iload X.1 X.2.1 dX7_addTest_37 (lv_at hl 0 rfl) ?_
  refine lv_iload X.1 X.2.1 dX7_addTest_39 (lv_at hl 6 rfl) ?_
  obtain ⟨S5, eS5, hf⟩ := si_ob hf
  refine si_iast X hw rfl eS5 dX7_addTest_41 (fun H locs hw => ?_)
  refine lv_aload_n X.1 X.2.1 dX7_addTest_42 rfl (lv_at hl 2 rfl) ?_
  refine si_getR (k' := 12) (d := 5) X hw si_cl7 5 (by decide) gf_RX7_24 rfl rfl rfl (by decide) rfl dX7_addTest_43 ?_
  refine lv_iload_n X.1 X.2.1 dX7_addTest_46 rfl (lv_at hl 3 rfl) ?_
  refine lv_dup2_11 X.1 X.2.1 dX7_addTest_47 rfl rfl ?_
  obtain ⟨v6, ev6, hf⟩ := si_ob hf
  refine si_iald X hw rfl ev6 dX7_addTest_48 ?_
  refine lv_iconst (v := 1) X.1 X.2.1 dX7_addTest_49 (by decide) ?_
  refine lv_iadd X.1 X.2.1 dX7_addTest_50 ?_
  obtain ⟨S7, eS7, hf⟩ := si_ob hf
  refine si_iast X hw rfl eS7 dX7_addTest_51 (fun H locs hw => ?_)
  refine lv_iload X.1 X.2.1 dX7_addTest_52 (lv_at hl 1 rfl) ?_
  exact hret _ _ _ _ _ _ hf hw dX7_addTest_54
abbrev rm_X7_toleranceOf : Room := { frames := 2, cells := 0, slots := 0, locals := 43 }
set_option maxHeartbeats 4000000 in
set_option maxRecDepth 100000 in
theorem c_X7_toleranceOf (l : Launch) (E : si_Ev) (F : Nat) (k1 : Nat) (hk1 : si_kd k1 = 2) (x2 : Int32) (x3 : Int32) (S : si_St) (o : Int32 × si_St) (hf : f_X7_toleranceOf F k1 x2 x3 S = some o) : si_Mi l E yX7_toleranceOf cX7_toleranceOf 5 (some .int) rm_X7_toleranceOf [.ref (E.2.1 7), .ref (E.2.1 k1), .int x2, .int x3] S o := by
  refine si_ofWi (plainFor_of_name (by decide +kernel)) (Nat.le_of_ble_eq_true rfl) ?_
  intro p e s m args below meth c ls Q A X hw hA hl hret
  have hl : lv_has ls 5 [(0, .ref (E.2.1 7)), (1, .ref (E.2.1 k1)), (2, .int x2), (3, .int x3)] := hl
  have B42 : ∀ (t0 : Int32) (S : si_St) (H : Heap) (locs : List Loc) (ls : Array Slot) , f_X7_toleranceOf_h42 F k1 t0 S = some o → si_Ws E A s.heap S H locs → lv_has ls 5 [] → W p l e rm_X7_toleranceOf s m args below meth c H locs 0 0 Q (F0 m 42 ls [.int t0]) := by
    intro t0  S H locs ls  hf hw hl
    unfold f_X7_toleranceOf_h42 at hf
    exact hret _ _ _ _ _ _ hf hw dX7_toleranceOf_42
  unfold f_X7_toleranceOf at hf
  refine lv_aload_n X.1 X.2.1 dX7_toleranceOf_0 rfl (lv_at hl 1 rfl) ?_
  refine lv_aload_n X.1 X.2.1 dX7_toleranceOf_1 rfl (lv_at hl 0 rfl) ?_
  refine si_getR (k' := 8) (d := 1) X hw si_cl7 1 (by decide) gf_RX7_9 rfl rfl rfl (by decide) rfl dX7_toleranceOf_2 ?_
  refine lv_iload_n X.1 X.2.1 dX7_toleranceOf_5 rfl (lv_at hl 2 rfl) ?_
  obtain ⟨v1, ev1, hf⟩ := si_ob hf
  refine si_iald X hw rfl ev1 dX7_toleranceOf_6 ?_
  refine lv_aload_n X.1 X.2.1 dX7_toleranceOf_7 rfl (lv_at hl 0 rfl) ?_
  refine si_getR (k' := 14) (d := 7) X hw si_cl7 7 (by decide) gf_RX7_30 rfl rfl rfl (by decide) rfl dX7_toleranceOf_8 ?_
  refine lv_iload_n X.1 X.2.1 dX7_toleranceOf_11 rfl (lv_at hl 2 rfl) ?_
  refine lv_bipush (v := 8) X.1 X.2.1 dX7_toleranceOf_12 (by decide) ?_
  refine lv_imul X.1 X.2.1 dX7_toleranceOf_14 ?_
  refine lv_iload_n X.1 X.2.1 dX7_toleranceOf_15 rfl (lv_at hl 3 rfl) ?_
  refine lv_iadd X.1 X.2.1 dX7_toleranceOf_16 ?_
  obtain ⟨v2, ev2, hf⟩ := si_ob hf
  refine si_iald X hw rfl ev2 dX7_toleranceOf_17 ?_
  obtain ⟨q3, eq3, hf⟩ := si_ob hf
  refine si_cVi [.int v1, .int v2] cal_X2_toleranceAt gm_RX7_59 X hw hA hl.1 (c_X2_toleranceAt l E F k1 hk1 v1 v2 S q3 eq3) si_cl2 hk1 ⟨⟨rfl, rfl⟩, Nat.le_of_ble_eq_true rfl, Nat.le_of_ble_eq_true rfl⟩ rfl rfl (Nat.le_of_ble_eq_true rfl) ⟨Nat.zero_le _, Nat.zero_le _⟩ dX7_toleranceOf_18 (fun H locs hw => ?_)
  refine lv_istore (lv' := [(4, .int q3.1), (0, .ref (E.2.1 7)), (1, .ref (E.2.1 k1)), (2, .int x2), (3, .int x3)]) X.1 X.2.1 dX7_toleranceOf_21 hl (by decide) rfl (fun ls hl => ?_)
  refine lv_aload_n X.1 X.2.1 dX7_toleranceOf_23 rfl (lv_at hl 1 rfl) ?_
  refine si_getR (k' := 10) (d := 3) X hw si_cl7 3 (by decide) gf_RX7_18 rfl rfl rfl (by decide) rfl dX7_toleranceOf_24 ?_
  refine lv_iload_n X.1 X.2.1 dX7_toleranceOf_27 rfl (lv_at hl 3 rfl) ?_
  obtain ⟨v4, ev4, hf⟩ := si_ob hf
  refine si_iald X hw rfl ev4 dX7_toleranceOf_28 ?_
  refine lv_iconst (v := 1) X.1 X.2.1 dX7_toleranceOf_29 (by decide) ?_
  refine lv_icmp_ne (tgt := 40) X.1 X.2.1 dX7_toleranceOf_30 (by decide) (fun c30 => ?_) (fun c30 => ?_)
  · have hf := si_in c30 hf
    refine lv_iload X.1 X.2.1 dX7_toleranceOf_40 (lv_at hl 0 rfl) ?_
    exact B42 _ _ _ _ _ hf hw (lv_sub hl [] rfl)
  · have hf := si_ip c30 hf
    refine lv_iconst (v := 2) X.1 X.2.1 dX7_toleranceOf_33 (by decide) ?_
    refine lv_iload X.1 X.2.1 dX7_toleranceOf_34 (lv_at hl 0 rfl) ?_
    refine lv_imul X.1 X.2.1 dX7_toleranceOf_36 ?_
    refine lv_goto (tgt := 42) X.1 X.2.1 dX7_toleranceOf_37 (by decide) ?_
    exact B42 _ _ _ _ _ hf hw (lv_sub hl [] rfl)
abbrev rm_X7_isWithinTolerance : Room := { frames := 3, cells := 0, slots := 0, locals := 67 }
set_option maxHeartbeats 4000000 in
set_option maxRecDepth 100000 in
theorem c_X7_isWithinTolerance (l : Launch) (E : si_Ev) (F : Nat) (k1 : Nat) (hk1 : si_kd k1 = 2) (x2 : Int32) (x3 : Int32) (x4 : Int32) (S : si_St) (o : Int32 × si_St) (hf : f_X7_isWithinTolerance F k1 x2 x3 x4 S = some o) : si_Mi l E yX7_isWithinTolerance cX7_isWithinTolerance 6 (some .boolean) rm_X7_isWithinTolerance [.ref (E.2.1 7), .ref (E.2.1 k1), .int x2, .int x3, .int x4] S o := by
  refine si_ofWz (plainFor_of_name (by decide +kernel)) (Nat.le_of_ble_eq_true rfl) ?_
  intro p e s m args below meth c ls Q A X hw hA hl hret
  have hl : lv_has ls 6 [(0, .ref (E.2.1 7)), (1, .ref (E.2.1 k1)), (2, .int x2), (3, .int x3), (4, .int x4)] := hl
  have B36 : ∀ (t0 : Int32) (S : si_St) (H : Heap) (locs : List Loc) (ls : Array Slot) , f_X7_isWithinTolerance_h36 F k1 t0 S = some o → si_Ws E A s.heap S H locs → lv_has ls 6 [] → W p l e rm_X7_isWithinTolerance s m args below meth c H locs 0 0 Q (F0 m 36 ls [.int t0]) := by
    intro t0  S H locs ls  hf hw hl
    unfold f_X7_isWithinTolerance_h36 at hf
    obtain ⟨v1, ev1, hf⟩ := si_ob hf
    exact hret _ _ _ _ _ _ (si_bzf ev1 hf) (si_nz (si_bz_inv ev1).1) hw dX7_isWithinTolerance_36
  unfold f_X7_isWithinTolerance at hf
  refine lv_aload_n X.1 X.2.1 dX7_isWithinTolerance_0 rfl (lv_at hl 0 rfl) ?_
  refine si_getR (k' := 15) (d := 8) X hw si_cl7 8 (by decide) gf_RX7_33 rfl rfl rfl (by decide) rfl dX7_isWithinTolerance_1 ?_
  refine lv_iload_n X.1 X.2.1 dX7_isWithinTolerance_4 rfl (lv_at hl 2 rfl) ?_
  refine lv_bipush (v := 8) X.1 X.2.1 dX7_isWithinTolerance_5 (by decide) ?_
  refine lv_imul X.1 X.2.1 dX7_isWithinTolerance_7 ?_
  refine lv_iload_n X.1 X.2.1 dX7_isWithinTolerance_8 rfl (lv_at hl 3 rfl) ?_
  refine lv_iadd X.1 X.2.1 dX7_isWithinTolerance_9 ?_
  obtain ⟨v2, ev2, hf⟩ := si_ob hf
  refine si_iald X hw rfl ev2 dX7_isWithinTolerance_10 ?_
  refine lv_iload X.1 X.2.1 dX7_isWithinTolerance_11 (lv_at hl 4 rfl) ?_
  refine lv_isub X.1 X.2.1 dX7_isWithinTolerance_13 ?_
  obtain ⟨v3, ev3, hf⟩ := si_ob hf
  refine si_nmI ev3 ?_
  refine lv_istore (lv' := [(5, .int v3), (0, .ref (E.2.1 7)), (1, .ref (E.2.1 k1)), (2, .int x2), (3, .int x3), (4, .int x4)]) X.1 X.2.1 dX7_isWithinTolerance_14 hl (by decide) rfl (fun ls hl => ?_)
  refine lv_iload X.1 X.2.1 dX7_isWithinTolerance_16 (lv_at hl 0 rfl) ?_
  refine si_mabs hl.1 X (by decide) (Nat.le_of_ble_eq_true rfl) gm_RX7_64 dX7_isWithinTolerance_18 ?_
  refine lv_aload_n X.1 X.2.1 dX7_isWithinTolerance_21 rfl (lv_at hl 1 rfl) ?_
  refine lv_aload_n X.1 X.2.1 dX7_isWithinTolerance_22 rfl (lv_at hl 2 rfl) ?_
  refine lv_iload_n X.1 X.2.1 dX7_isWithinTolerance_23 rfl (lv_at hl 3 rfl) ?_
  refine lv_iload_n X.1 X.2.1 dX7_isWithinTolerance_24 rfl (lv_at hl 4 rfl) ?_
  obtain ⟨q4, eq4, hf⟩ := si_ob hf
  refine si_cVi [.ref (E.2.1 k1), .int x2, .int x3] cal_X7_toleranceOf gm_RX7_68 X hw hA hl.1 (c_X7_toleranceOf l E F k1 hk1 x2 x3 S q4 eq4) si_cl7 rfl ⟨⟨rfl, rfl⟩, Nat.le_of_ble_eq_true rfl, Nat.le_of_ble_eq_true rfl⟩ rfl rfl (Nat.le_of_ble_eq_true rfl) ⟨Nat.zero_le _, Nat.zero_le _⟩ dX7_isWithinTolerance_25 (fun H locs hw => ?_)
  refine lv_icmp_gt (tgt := 35) X.1 X.2.1 dX7_isWithinTolerance_28 (by decide) (fun c28 => ?_) (fun c28 => ?_)
  · have hf := si_ip c28 hf
    refine lv_iconst (v := 0) X.1 X.2.1 dX7_isWithinTolerance_35 (by decide) ?_
    exact B36 _ _ _ _ _ hf hw (lv_sub hl [] rfl)
  · have hf := si_in c28 hf
    refine lv_iconst (v := 1) X.1 X.2.1 dX7_isWithinTolerance_31 (by decide) ?_
    refine lv_goto (tgt := 36) X.1 X.2.1 dX7_isWithinTolerance_32 (by decide) ?_
    exact B36 _ _ _ _ _ hf hw (lv_sub hl [] rfl)
abbrev rm_X7_middleError : Room := { frames := 1, cells := 0, slots := 0, locals := 23 }
set_option maxHeartbeats 4000000 in
set_option maxRecDepth 100000 in
theorem c_X7_middleError (l : Launch) (E : si_Ev) (F : Nat) (x1 : Int32) (S : si_St) (o : Int32 × si_St) (hf : f_X7_middleError F x1 S = some o) : si_Mi l E yX7_middleError cX7_middleError 6 (some .int) rm_X7_middleError [.ref (E.2.1 7), .int x1] S o := by
  refine si_ofWi (plainFor_of_name (by decide +kernel)) (Nat.le_of_ble_eq_true rfl) ?_
  intro p e s m args below meth c ls Q A X hw hA hl hret
  have hl : lv_has ls 6 [(0, .ref (E.2.1 7)), (1, .int x1)] := hl
  have B34 : ∀ (n34 : Nat) (x1 : Int32) (x2 : Int32) (x3 : Int32) (x4 : Int32) (x5 : Int32) (S : si_St) (H : Heap) (locs : List Loc) (ls : Array Slot) , f_X7_middleError_l34 F n34 x1 x2 x3 x4 x5 S = some o → si_Ws E A s.heap S H locs → lv_has ls 6 [(0, .ref (E.2.1 7)), (1, .int x1), (2, .int x2), (3, .int x3), (4, .int x4), (5, .int x5)] → W p l e rm_X7_middleError s m args below meth c H locs 0 0 Q (F0 m 34 ls []) := by
    intro n34
    induction n34 with
    | zero => intro x1 x2 x3 x4 x5  S H locs ls  hf; cases hf
    | succ n34 ih34 =>
      intro x1 x2 x3 x4 x5  S H locs ls  hf hw hl
      have hf : f_X7_middleError_h34 F (f_X7_middleError_l34 F n34) x1 x2 x3 x4 x5 S = some o := hf
      unfold f_X7_middleError_h34 at hf
      refine lv_iload X.1 X.2.1 dX7_middleError_34 (lv_at hl 5 rfl) ?_
      refine lv_aload_n X.1 X.2.1 dX7_middleError_36 rfl (lv_at hl 0 rfl) ?_
      refine si_getR (k' := 12) (d := 5) X hw si_cl7 5 (by decide) gf_RX7_24 rfl rfl rfl (by decide) rfl dX7_middleError_37 ?_
      refine lv_iload_n X.1 X.2.1 dX7_middleError_40 rfl (lv_at hl 1 rfl) ?_
      obtain ⟨v1, ev1, hf⟩ := si_ob hf
      refine si_iald X hw rfl ev1 dX7_middleError_41 ?_
      refine lv_icmp_ge (tgt := 81) X.1 X.2.1 dX7_middleError_42 (by decide) (fun c42 => ?_) (fun c42 => ?_)
      · have hf := si_ip c42 hf
        refine lv_iload_n X.1 X.2.1 dX7_middleError_81 rfl (lv_at hl 3 rfl) ?_
        refine lv_iload X.1 X.2.1 dX7_middleError_82 (lv_at hl 4 rfl) ?_
        refine lv_iadd X.1 X.2.1 dX7_middleError_84 ?_
        refine lv_iconst (v := 2) X.1 X.2.1 dX7_middleError_85 (by decide) ?_
        obtain ⟨q2, eq2, hf⟩ := si_ob hf
        refine si_cSi [.int (x3 + x4), .int 2] cal_J9_floorDiv_7cf53 gm_RX7_75 X hw hA hl.1 (c_J9_floorDiv_7cf53 l E F (x3 + x4) 2 S q2 eq2) ⟨⟨rfl, rfl⟩, Nat.le_of_ble_eq_true rfl, Nat.le_of_ble_eq_true rfl⟩ rfl rfl (Nat.le_of_ble_eq_true rfl) ⟨Nat.zero_le _, Nat.zero_le _⟩ dX7_middleError_86 (fun H locs hw => ?_)
        exact hret _ _ _ _ _ _ hf hw dX7_middleError_89
      · have hf := si_in c42 hf
        refine lv_iload_n X.1 X.2.1 dX7_middleError_45 rfl (lv_at hl 3 rfl) ?_
        refine lv_aload_n X.1 X.2.1 dX7_middleError_46 rfl (lv_at hl 0 rfl) ?_
        refine si_getR (k' := 15) (d := 8) X hw si_cl7 8 (by decide) gf_RX7_33 rfl rfl rfl (by decide) rfl dX7_middleError_47 ?_
        refine lv_iload_n X.1 X.2.1 dX7_middleError_50 rfl (lv_at hl 2 rfl) ?_
        refine lv_iload X.1 X.2.1 dX7_middleError_51 (lv_at hl 5 rfl) ?_
        refine lv_iadd X.1 X.2.1 dX7_middleError_53 ?_
        obtain ⟨v3, ev3, hf⟩ := si_ob hf
        refine si_iald X hw rfl ev3 dX7_middleError_54 ?_
        refine si_mmax hl.1 X (by decide) (Nat.le_of_ble_eq_true rfl) gm_RX7_50 dX7_middleError_55 ?_
        obtain ⟨v4, ev4, hf⟩ := si_ob hf
        refine si_nmI ev4 ?_
        refine lv_istore_n (lv' := [(3, .int v4), (0, .ref (E.2.1 7)), (1, .int x1), (2, .int x2), (4, .int x4), (5, .int x5)]) X.1 X.2.1 dX7_middleError_58 rfl hl (by decide) rfl (fun ls hl => ?_)
        refine lv_iload X.1 X.2.1 dX7_middleError_59 (lv_at hl 4 rfl) ?_
        refine lv_aload_n X.1 X.2.1 dX7_middleError_61 rfl (lv_at hl 1 rfl) ?_
        refine si_getR (k' := 15) (d := 8) X hw si_cl7 8 (by decide) gf_RX7_33 rfl rfl rfl (by decide) rfl dX7_middleError_62 ?_
        refine lv_iload_n X.1 X.2.1 dX7_middleError_65 rfl (lv_at hl 3 rfl) ?_
        refine lv_iload X.1 X.2.1 dX7_middleError_66 (lv_at hl 5 rfl) ?_
        refine lv_iadd X.1 X.2.1 dX7_middleError_68 ?_
        obtain ⟨v5, ev5, hf⟩ := si_ob hf
        refine si_iald X hw rfl ev5 dX7_middleError_69 ?_
        refine si_mmin hl.1 X (by decide) (Nat.le_of_ble_eq_true rfl) gm_RX7_72 dX7_middleError_70 ?_
        obtain ⟨v6, ev6, hf⟩ := si_ob hf
        refine si_nmI ev6 ?_
        refine lv_istore (lv' := [(4, .int v6), (3, .int v4), (0, .ref (E.2.1 7)), (1, .int x1), (2, .int x2), (5, .int x5)]) X.1 X.2.1 dX7_middleError_73 hl (by decide) rfl (fun ls hl => ?_)
        obtain ⟨v7, ev7, hf⟩ := si_ob hf
        refine lv_iinc (v := v7) (lv' := [(5, .int v7), (4, .int v6), (3, .int v4), (0, .ref (E.2.1 7)), (1, .int x1), (2, .int x2)]) X.1 X.2.1 dX7_middleError_75 hl (k := 5) rfl (Option.some.inj ev7) (by decide) rfl (fun ls hl => ?_)
        refine lv_goto (tgt := 34) X.1 X.2.1 dX7_middleError_78 (by decide) ?_
        exact ih34 _ _ _ _ _ _ _ _ _ hf hw (lv_sub hl [3, 4, 5, 2, 1, 0] rfl)
  unfold f_X7_middleError at hf
  refine lv_aload_n X.1 X.2.1 dX7_middleError_0 rfl (lv_at hl 0 rfl) ?_
  refine si_getR (k' := 12) (d := 5) X hw si_cl7 5 (by decide) gf_RX7_24 rfl rfl rfl (by decide) rfl dX7_middleError_1 ?_
  refine lv_iload_n X.1 X.2.1 dX7_middleError_4 rfl (lv_at hl 1 rfl) ?_
  obtain ⟨v8, ev8, hf⟩ := si_ob hf
  refine si_iald X hw rfl ev8 dX7_middleError_5 ?_
  refine lv_if_ne (tgt := 11) X.1 X.2.1 dX7_middleError_6 (by decide) (fun c6 => ?_) (fun c6 => ?_)
  · have hf := si_in c6 hf
    refine lv_iload_n X.1 X.2.1 dX7_middleError_11 rfl (lv_at hl 1 rfl) ?_
    refine lv_bipush (v := 8) X.1 X.2.1 dX7_middleError_12 (by decide) ?_
    refine lv_imul X.1 X.2.1 dX7_middleError_14 ?_
    obtain ⟨v9, ev9, hf⟩ := si_ob hf
    refine si_nmI ev9 ?_
    refine lv_istore_n (lv' := [(2, .int v9), (0, .ref (E.2.1 7)), (1, .int x1)]) X.1 X.2.1 dX7_middleError_15 rfl hl (by decide) rfl (fun ls hl => ?_)
    refine lv_aload_n X.1 X.2.1 dX7_middleError_16 rfl (lv_at hl 1 rfl) ?_
    refine si_getR (k' := 15) (d := 8) X hw si_cl7 8 (by decide) gf_RX7_33 rfl rfl rfl (by decide) rfl dX7_middleError_17 ?_
    refine lv_iload_n X.1 X.2.1 dX7_middleError_20 rfl (lv_at hl 0 rfl) ?_
    obtain ⟨v10, ev10, hf⟩ := si_ob hf
    refine si_iald X hw rfl ev10 dX7_middleError_21 ?_
    refine lv_istore_n (lv' := [(3, .int v10), (2, .int v9), (0, .ref (E.2.1 7)), (1, .int x1)]) X.1 X.2.1 dX7_middleError_22 rfl hl (by decide) rfl (fun ls hl => ?_)
    refine lv_aload_n X.1 X.2.1 dX7_middleError_23 rfl (lv_at hl 2 rfl) ?_
    refine si_getR (k' := 15) (d := 8) X hw si_cl7 8 (by decide) gf_RX7_33 rfl rfl rfl (by decide) rfl dX7_middleError_24 ?_
    refine lv_iload_n X.1 X.2.1 dX7_middleError_27 rfl (lv_at hl 1 rfl) ?_
    obtain ⟨v11, ev11, hf⟩ := si_ob hf
    refine si_iald X hw rfl ev11 dX7_middleError_28 ?_
    refine lv_istore (lv' := [(4, .int v11), (3, .int v10), (2, .int v9), (0, .ref (E.2.1 7)), (1, .int x1)]) X.1 X.2.1 dX7_middleError_29 hl (by decide) rfl (fun ls hl => ?_)
    refine lv_iconst (v := 1) X.1 X.2.1 dX7_middleError_31 (by decide) ?_
    refine lv_istore (lv' := [(5, .int 1), (4, .int v11), (3, .int v10), (2, .int v9), (0, .ref (E.2.1 7)), (1, .int x1)]) X.1 X.2.1 dX7_middleError_32 hl (by decide) rfl (fun ls hl => ?_)
    exact B34 F _ _ _ _ _ _ _ _ _ hf hw (lv_sub hl [4, 5, 3, 2, 1, 0] rfl)
  · have hf := si_ip c6 hf
    refine lv_iconst (v := 0) X.1 X.2.1 dX7_middleError_9 (by decide) ?_
    exact hret _ _ _ _ _ _ hf hw dX7_middleError_10
abbrev rm_X7_hasEmptyTest : Room := { frames := 0, cells := 0, slots := 0, locals := 0 }
set_option maxHeartbeats 4000000 in
set_option maxRecDepth 100000 in
theorem c_X7_hasEmptyTest (l : Launch) (E : si_Ev) (F : Nat) (x1 : Int32) (S : si_St) (o : Int32 × si_St) (hf : f_X7_hasEmptyTest F x1 S = some o) : si_Mi l E yX7_hasEmptyTest cX7_hasEmptyTest 3 (some .boolean) rm_X7_hasEmptyTest [.ref (E.2.1 7), .int x1] S o := by
  refine si_ofWz (plainFor_of_name (by decide +kernel)) (Nat.le_of_ble_eq_true rfl) ?_
  intro p e s m args below meth c ls Q A X hw hA hl hret
  have hl : lv_has ls 3 [(0, .ref (E.2.1 7)), (1, .int x1)] := hl
  have B2 : ∀ (n2 : Nat) (x1 : Int32) (x2 : Int32) (S : si_St) (H : Heap) (locs : List Loc) (ls : Array Slot) , f_X7_hasEmptyTest_l2 F n2 x1 x2 S = some o → si_Ws E A s.heap S H locs → lv_has ls 3 [(0, .ref (E.2.1 7)), (1, .int x1), (2, .int x2)] → W p l e rm_X7_hasEmptyTest s m args below meth c H locs 0 0 Q (F0 m 2 ls []) := by
    intro n2
    induction n2 with
    | zero => intro x1 x2  S H locs ls  hf; cases hf
    | succ n2 ih2 =>
      intro x1 x2  S H locs ls  hf hw hl
      have hf : f_X7_hasEmptyTest_h2 F (f_X7_hasEmptyTest_l2 F n2) x1 x2 S = some o := hf
      unfold f_X7_hasEmptyTest_h2 at hf
      refine lv_iload_n X.1 X.2.1 dX7_hasEmptyTest_2 rfl (lv_at hl 2 rfl) ?_
      refine lv_aload_n X.1 X.2.1 dX7_hasEmptyTest_3 rfl (lv_at hl 0 rfl) ?_
      refine si_getR (k' := 12) (d := 5) X hw si_cl7 5 (by decide) gf_RX7_24 rfl rfl rfl (by decide) rfl dX7_hasEmptyTest_4 ?_
      refine lv_iload_n X.1 X.2.1 dX7_hasEmptyTest_7 rfl (lv_at hl 1 rfl) ?_
      obtain ⟨v1, ev1, hf⟩ := si_ob hf
      refine si_iald X hw rfl ev1 dX7_hasEmptyTest_8 ?_
      refine lv_icmp_ge (tgt := 34) X.1 X.2.1 dX7_hasEmptyTest_9 (by decide) (fun c9 => ?_) (fun c9 => ?_)
      · have hf := si_ip c9 hf
        refine lv_iconst (v := 0) X.1 X.2.1 dX7_hasEmptyTest_34 (by decide) ?_
        obtain ⟨v2, ev2, hf⟩ := si_ob hf
        exact hret _ _ _ _ _ _ (si_bzf ev2 hf) (si_nz (si_bz_inv ev2).1) hw dX7_hasEmptyTest_35
      · have hf := si_in c9 hf
        refine lv_aload_n X.1 X.2.1 dX7_hasEmptyTest_12 rfl (lv_at hl 0 rfl) ?_
        refine si_getR (k' := 13) (d := 6) X hw si_cl7 6 (by decide) gf_RX7_27 rfl rfl rfl (by decide) rfl dX7_hasEmptyTest_13 ?_
        refine lv_iload_n X.1 X.2.1 dX7_hasEmptyTest_16 rfl (lv_at hl 1 rfl) ?_
        refine lv_bipush (v := 8) X.1 X.2.1 dX7_hasEmptyTest_17 (by decide) ?_
        refine lv_imul X.1 X.2.1 dX7_hasEmptyTest_19 ?_
        refine lv_iload_n X.1 X.2.1 dX7_hasEmptyTest_20 rfl (lv_at hl 2 rfl) ?_
        refine lv_iadd X.1 X.2.1 dX7_hasEmptyTest_21 ?_
        obtain ⟨v3, ev3, hf⟩ := si_ob hf
        refine si_iald X hw rfl ev3 dX7_hasEmptyTest_22 ?_
        refine lv_if_ne (tgt := 28) X.1 X.2.1 dX7_hasEmptyTest_23 (by decide) (fun c23 => ?_) (fun c23 => ?_)
        · have hf := si_in c23 hf
          obtain ⟨v4, ev4, hf⟩ := si_ob hf
          refine lv_iinc (v := v4) (lv' := [(2, .int v4), (0, .ref (E.2.1 7)), (1, .int x1)]) X.1 X.2.1 dX7_hasEmptyTest_28 hl (k := 2) rfl (Option.some.inj ev4) (by decide) rfl (fun ls hl => ?_)
          refine lv_goto (tgt := 2) X.1 X.2.1 dX7_hasEmptyTest_31 (by decide) ?_
          exact ih2 _ _ _ _ _ _ hf hw (lv_sub hl [1, 2, 0] rfl)
        · have hf := si_ip c23 hf
          refine lv_iconst (v := 1) X.1 X.2.1 dX7_hasEmptyTest_26 (by decide) ?_
          obtain ⟨v5, ev5, hf⟩ := si_ob hf
          exact hret _ _ _ _ _ _ (si_bzf ev5 hf) (si_nz (si_bz_inv ev5).1) hw dX7_hasEmptyTest_27
  unfold f_X7_hasEmptyTest at hf
  refine lv_iconst (v := 0) X.1 X.2.1 dX7_hasEmptyTest_0 (by decide) ?_
  refine lv_istore_n (lv' := [(2, .int 0), (0, .ref (E.2.1 7)), (1, .int x1)]) X.1 X.2.1 dX7_hasEmptyTest_1 rfl hl (by decide) rfl (fun ls hl => ?_)
  exact B2 F _ _ _ _ _ _ hf hw (lv_sub hl [1, 2, 0] rfl)
abbrev rm_X7_reachesHalf : Room := { frames := 0, cells := 0, slots := 0, locals := 0 }
set_option maxHeartbeats 4000000 in
set_option maxRecDepth 100000 in
theorem c_X7_reachesHalf (l : Launch) (E : si_Ev) (F : Nat) (x1 : Int32) (x2 : Int32) (S : si_St) (o : Int32 × si_St) (hf : f_X7_reachesHalf F x1 x2 S = some o) : si_Mi l E yX7_reachesHalf cX7_reachesHalf 4 (some .boolean) rm_X7_reachesHalf [.ref (E.2.1 7), .int x1, .int x2] S o := by
  refine si_ofWz (plainFor_of_name (by decide +kernel)) (Nat.le_of_ble_eq_true rfl) ?_
  intro p e s m args below meth c ls Q A X hw hA hl hret
  have hl : lv_has ls 4 [(0, .ref (E.2.1 7)), (1, .int x1), (2, .int x2)] := hl
  have B2 : ∀ (n2 : Nat) (x1 : Int32) (x2 : Int32) (x3 : Int32) (S : si_St) (H : Heap) (locs : List Loc) (ls : Array Slot) , f_X7_reachesHalf_l2 F n2 x1 x2 x3 S = some o → si_Ws E A s.heap S H locs → lv_has ls 4 [(0, .ref (E.2.1 7)), (1, .int x1), (2, .int x2), (3, .int x3)] → W p l e rm_X7_reachesHalf s m args below meth c H locs 0 0 Q (F0 m 2 ls []) := by
    intro n2
    induction n2 with
    | zero => intro x1 x2 x3  S H locs ls  hf; cases hf
    | succ n2 ih2 =>
      intro x1 x2 x3  S H locs ls  hf hw hl
      have hf : f_X7_reachesHalf_h2 F (f_X7_reachesHalf_l2 F n2) x1 x2 x3 S = some o := hf
      unfold f_X7_reachesHalf_h2 at hf
      refine lv_iload_n X.1 X.2.1 dX7_reachesHalf_2 rfl (lv_at hl 3 rfl) ?_
      refine lv_aload_n X.1 X.2.1 dX7_reachesHalf_3 rfl (lv_at hl 0 rfl) ?_
      refine si_getR (k' := 12) (d := 5) X hw si_cl7 5 (by decide) gf_RX7_24 rfl rfl rfl (by decide) rfl dX7_reachesHalf_4 ?_
      refine lv_iload_n X.1 X.2.1 dX7_reachesHalf_7 rfl (lv_at hl 1 rfl) ?_
      obtain ⟨v1, ev1, hf⟩ := si_ob hf
      refine si_iald X hw rfl ev1 dX7_reachesHalf_8 ?_
      refine lv_icmp_ge (tgt := 37) X.1 X.2.1 dX7_reachesHalf_9 (by decide) (fun c9 => ?_) (fun c9 => ?_)
      · have hf := si_ip c9 hf
        refine lv_iconst (v := 0) X.1 X.2.1 dX7_reachesHalf_37 (by decide) ?_
        obtain ⟨v2, ev2, hf⟩ := si_ob hf
        exact hret _ _ _ _ _ _ (si_bzf ev2 hf) (si_nz (si_bz_inv ev2).1) hw dX7_reachesHalf_38
      · have hf := si_in c9 hf
        refine lv_iconst (v := 2) X.1 X.2.1 dX7_reachesHalf_12 (by decide) ?_
        refine lv_aload_n X.1 X.2.1 dX7_reachesHalf_13 rfl (lv_at hl 0 rfl) ?_
        refine si_getR (k' := 14) (d := 7) X hw si_cl7 7 (by decide) gf_RX7_30 rfl rfl rfl (by decide) rfl dX7_reachesHalf_14 ?_
        refine lv_iload_n X.1 X.2.1 dX7_reachesHalf_17 rfl (lv_at hl 1 rfl) ?_
        refine lv_bipush (v := 8) X.1 X.2.1 dX7_reachesHalf_18 (by decide) ?_
        refine lv_imul X.1 X.2.1 dX7_reachesHalf_20 ?_
        refine lv_iload_n X.1 X.2.1 dX7_reachesHalf_21 rfl (lv_at hl 3 rfl) ?_
        refine lv_iadd X.1 X.2.1 dX7_reachesHalf_22 ?_
        obtain ⟨v3, ev3, hf⟩ := si_ob hf
        refine si_iald X hw rfl ev3 dX7_reachesHalf_23 ?_
        refine lv_imul X.1 X.2.1 dX7_reachesHalf_24 ?_
        refine lv_iload_n X.1 X.2.1 dX7_reachesHalf_25 rfl (lv_at hl 2 rfl) ?_
        refine lv_icmp_lt (tgt := 31) X.1 X.2.1 dX7_reachesHalf_26 (by decide) (fun c26 => ?_) (fun c26 => ?_)
        · have hf := si_ip c26 hf
          obtain ⟨v4, ev4, hf⟩ := si_ob hf
          refine lv_iinc (v := v4) (lv' := [(3, .int v4), (0, .ref (E.2.1 7)), (1, .int x1), (2, .int x2)]) X.1 X.2.1 dX7_reachesHalf_31 hl (k := 3) rfl (Option.some.inj ev4) (by decide) rfl (fun ls hl => ?_)
          refine lv_goto (tgt := 2) X.1 X.2.1 dX7_reachesHalf_34 (by decide) ?_
          exact ih2 _ _ _ _ _ _ _ hf hw (lv_sub hl [1, 2, 3, 0] rfl)
        · have hf := si_in c26 hf
          refine lv_iconst (v := 1) X.1 X.2.1 dX7_reachesHalf_29 (by decide) ?_
          obtain ⟨v5, ev5, hf⟩ := si_ob hf
          exact hret _ _ _ _ _ _ (si_bzf ev5 hf) (si_nz (si_bz_inv ev5).1) hw dX7_reachesHalf_30
  unfold f_X7_reachesHalf at hf
  refine lv_iconst (v := 0) X.1 X.2.1 dX7_reachesHalf_0 (by decide) ?_
  refine lv_istore_n (lv' := [(3, .int 0), (0, .ref (E.2.1 7)), (1, .int x1), (2, .int x2)]) X.1 X.2.1 dX7_reachesHalf_1 rfl hl (by decide) rfl (fun ls hl => ?_)
  exact B2 F _ _ _ _ _ _ _ hf hw (lv_sub hl [1, 2, 3, 0] rfl)
abbrev rm_X7_hasRepeat : Room := { frames := 0, cells := 0, slots := 0, locals := 0 }
set_option maxHeartbeats 4000000 in
set_option maxRecDepth 100000 in
theorem c_X7_hasRepeat (l : Launch) (E : si_Ev) (F : Nat) (x1 : Int32) (S : si_St) (o : Int32 × si_St) (hf : f_X7_hasRepeat F x1 S = some o) : si_Mi l E yX7_hasRepeat cX7_hasRepeat 5 (some .boolean) rm_X7_hasRepeat [.ref (E.2.1 7), .int x1] S o := by
  refine si_ofWz (plainFor_of_name (by decide +kernel)) (Nat.le_of_ble_eq_true rfl) ?_
  intro p e s m args below meth c ls Q A X hw hA hl hret
  have hl : lv_has ls 5 [(0, .ref (E.2.1 7)), (1, .int x1)] := hl
  have B7 : ∀ (n7 : Nat) (x1 : Int32) (x2 : Int32) (x3 : Int32) (S : si_St) (H : Heap) (locs : List Loc) (ls : Array Slot) , f_X7_hasRepeat_l7 F n7 x1 x2 x3 S = some o → si_Ws E A s.heap S H locs → lv_has ls 5 [(0, .ref (E.2.1 7)), (1, .int x1), (2, .int x2), (3, .int x3)] → W p l e rm_X7_hasRepeat s m args below meth c H locs 0 0 Q (F0 m 7 ls []) := by
    intro n7
    induction n7 with
    | zero => intro x1 x2 x3  S H locs ls  hf; cases hf
    | succ n7 ih7 =>
      have B20 : ∀ (n20 : Nat) (x1 : Int32) (x2 : Int32) (x3 : Int32) (x4 : Int32) (S : si_St) (H : Heap) (locs : List Loc) (ls : Array Slot) , f_X7_hasRepeat_l20 F (f_X7_hasRepeat_l7 F n7) n20 x1 x2 x3 x4 S = some o → si_Ws E A s.heap S H locs → lv_has ls 5 [(0, .ref (E.2.1 7)), (1, .int x1), (2, .int x2), (3, .int x3), (4, .int x4)] → W p l e rm_X7_hasRepeat s m args below meth c H locs 0 0 Q (F0 m 20 ls []) := by
        intro n20
        induction n20 with
        | zero => intro x1 x2 x3 x4  S H locs ls  hf; cases hf
        | succ n20 ih20 =>
          have B59 : ∀ (x1 : Int32) (x2 : Int32) (x3 : Int32) (x4 : Int32) (S : si_St) (H : Heap) (locs : List Loc) (ls : Array Slot) , f_X7_hasRepeat_h59 F (f_X7_hasRepeat_l7 F n7) (f_X7_hasRepeat_l20 F (f_X7_hasRepeat_l7 F n7) n20) x1 x2 x3 x4 S = some o → si_Ws E A s.heap S H locs → lv_has ls 5 [(0, .ref (E.2.1 7)), (1, .int x1), (2, .int x2), (3, .int x3), (4, .int x4)] → W p l e rm_X7_hasRepeat s m args below meth c H locs 0 0 Q (F0 m 59 ls []) := by
            intro x1 x2 x3 x4  S H locs ls  hf hw hl
            unfold f_X7_hasRepeat_h59 at hf
            obtain ⟨v1, ev1, hf⟩ := si_ob hf
            refine lv_iinc (v := v1) (lv' := [(4, .int v1), (0, .ref (E.2.1 7)), (1, .int x1), (2, .int x2), (3, .int x3)]) X.1 X.2.1 dX7_hasRepeat_59 hl (k := 4) rfl (Option.some.inj ev1) (by decide) rfl (fun ls hl => ?_)
            refine lv_goto (tgt := 20) X.1 X.2.1 dX7_hasRepeat_62 (by decide) ?_
            exact ih20 _ _ _ _ _ _ _ _ hf hw (lv_sub hl [1, 2, 3, 4, 0] rfl)
          intro x1 x2 x3 x4  S H locs ls  hf hw hl
          have hf : f_X7_hasRepeat_h20 F (f_X7_hasRepeat_l7 F n7) (f_X7_hasRepeat_l20 F (f_X7_hasRepeat_l7 F n7) n20) x1 x2 x3 x4 S = some o := hf
          unfold f_X7_hasRepeat_h20 at hf
          refine lv_iload X.1 X.2.1 dX7_hasRepeat_20 (lv_at hl 4 rfl) ?_
          refine lv_iload_n X.1 X.2.1 dX7_hasRepeat_22 rfl (lv_at hl 3 rfl) ?_
          refine lv_icmp_ge (tgt := 65) X.1 X.2.1 dX7_hasRepeat_23 (by decide) (fun c23 => ?_) (fun c23 => ?_)
          · have hf := si_ip c23 hf
            obtain ⟨v2, ev2, hf⟩ := si_ob hf
            refine lv_iinc (v := v2) (lv' := [(3, .int v2), (0, .ref (E.2.1 7)), (1, .int x1), (2, .int x2), (4, .int x4)]) X.1 X.2.1 dX7_hasRepeat_65 hl (k := 3) rfl (Option.some.inj ev2) (by decide) rfl (fun ls hl => ?_)
            refine lv_goto (tgt := 7) X.1 X.2.1 dX7_hasRepeat_68 (by decide) ?_
            exact ih7 _ _ _ _ _ _ _ hf hw (lv_sub hl [1, 2, 3, 0] rfl)
          · have hf := si_in c23 hf
            refine lv_aload_n X.1 X.2.1 dX7_hasRepeat_26 rfl (lv_at hl 0 rfl) ?_
            refine si_getR (k' := 13) (d := 6) X hw si_cl7 6 (by decide) gf_RX7_27 rfl rfl rfl (by decide) rfl dX7_hasRepeat_27 ?_
            refine lv_iload_n X.1 X.2.1 dX7_hasRepeat_30 rfl (lv_at hl 2 rfl) ?_
            refine lv_iload_n X.1 X.2.1 dX7_hasRepeat_31 rfl (lv_at hl 3 rfl) ?_
            refine lv_iadd X.1 X.2.1 dX7_hasRepeat_32 ?_
            obtain ⟨v3, ev3, hf⟩ := si_ob hf
            refine si_iald X hw rfl ev3 dX7_hasRepeat_33 ?_
            refine lv_if_eq (tgt := 59) X.1 X.2.1 dX7_hasRepeat_34 (by decide) (fun c34 => ?_) (fun c34 => ?_)
            · have hf := si_ip c34 hf
              exact B59 _ _ _ _ _ _ _ _ hf hw (lv_sub hl [0, 1, 2, 3, 4] rfl)
            · have hf := si_in c34 hf
              refine lv_aload_n X.1 X.2.1 dX7_hasRepeat_37 rfl (lv_at hl 0 rfl) ?_
              refine si_getR (k' := 13) (d := 6) X hw si_cl7 6 (by decide) gf_RX7_27 rfl rfl rfl (by decide) rfl dX7_hasRepeat_38 ?_
              refine lv_iload_n X.1 X.2.1 dX7_hasRepeat_41 rfl (lv_at hl 2 rfl) ?_
              refine lv_iload_n X.1 X.2.1 dX7_hasRepeat_42 rfl (lv_at hl 3 rfl) ?_
              refine lv_iadd X.1 X.2.1 dX7_hasRepeat_43 ?_
              obtain ⟨v4, ev4, hf⟩ := si_ob hf
              refine si_iald X hw rfl ev4 dX7_hasRepeat_44 ?_
              refine lv_aload_n X.1 X.2.1 dX7_hasRepeat_45 rfl (lv_at hl 0 rfl) ?_
              refine si_getR (k' := 13) (d := 6) X hw si_cl7 6 (by decide) gf_RX7_27 rfl rfl rfl (by decide) rfl dX7_hasRepeat_46 ?_
              refine lv_iload_n X.1 X.2.1 dX7_hasRepeat_49 rfl (lv_at hl 2 rfl) ?_
              refine lv_iload X.1 X.2.1 dX7_hasRepeat_50 (lv_at hl 4 rfl) ?_
              refine lv_iadd X.1 X.2.1 dX7_hasRepeat_52 ?_
              obtain ⟨v5, ev5, hf⟩ := si_ob hf
              refine si_iald X hw rfl ev5 dX7_hasRepeat_53 ?_
              refine lv_icmp_ne (tgt := 59) X.1 X.2.1 dX7_hasRepeat_54 (by decide) (fun c54 => ?_) (fun c54 => ?_)
              · have hf := si_in c54 hf
                exact B59 _ _ _ _ _ _ _ _ hf hw (lv_sub hl [0, 1, 2, 3, 4] rfl)
              · have hf := si_ip c54 hf
                refine lv_iconst (v := 1) X.1 X.2.1 dX7_hasRepeat_57 (by decide) ?_
                obtain ⟨v6, ev6, hf⟩ := si_ob hf
                exact hret _ _ _ _ _ _ (si_bzf ev6 hf) (si_nz (si_bz_inv ev6).1) hw dX7_hasRepeat_58
      intro x1 x2 x3  S H locs ls  hf hw hl
      have hf : f_X7_hasRepeat_h7 F (f_X7_hasRepeat_l7 F n7) x1 x2 x3 S = some o := hf
      unfold f_X7_hasRepeat_h7 at hf
      refine lv_iload_n X.1 X.2.1 dX7_hasRepeat_7 rfl (lv_at hl 3 rfl) ?_
      refine lv_aload_n X.1 X.2.1 dX7_hasRepeat_8 rfl (lv_at hl 0 rfl) ?_
      refine si_getR (k' := 12) (d := 5) X hw si_cl7 5 (by decide) gf_RX7_24 rfl rfl rfl (by decide) rfl dX7_hasRepeat_9 ?_
      refine lv_iload_n X.1 X.2.1 dX7_hasRepeat_12 rfl (lv_at hl 1 rfl) ?_
      obtain ⟨v7, ev7, hf⟩ := si_ob hf
      refine si_iald X hw rfl ev7 dX7_hasRepeat_13 ?_
      refine lv_icmp_ge (tgt := 71) X.1 X.2.1 dX7_hasRepeat_14 (by decide) (fun c14 => ?_) (fun c14 => ?_)
      · have hf := si_ip c14 hf
        refine lv_iconst (v := 0) X.1 X.2.1 dX7_hasRepeat_71 (by decide) ?_
        obtain ⟨v8, ev8, hf⟩ := si_ob hf
        exact hret _ _ _ _ _ _ (si_bzf ev8 hf) (si_nz (si_bz_inv ev8).1) hw dX7_hasRepeat_72
      · have hf := si_in c14 hf
        refine lv_iconst (v := 0) X.1 X.2.1 dX7_hasRepeat_17 (by decide) ?_
        refine lv_istore (lv' := [(4, .int 0), (0, .ref (E.2.1 7)), (1, .int x1), (2, .int x2), (3, .int x3)]) X.1 X.2.1 dX7_hasRepeat_18 hl (by decide) rfl (fun ls hl => ?_)
        exact B20 F _ _ _ _ _ _ _ _ hf hw (lv_sub hl [1, 2, 3, 4, 0] rfl)
  unfold f_X7_hasRepeat at hf
  refine lv_iload_n X.1 X.2.1 dX7_hasRepeat_0 rfl (lv_at hl 1 rfl) ?_
  refine lv_bipush (v := 8) X.1 X.2.1 dX7_hasRepeat_1 (by decide) ?_
  refine lv_imul X.1 X.2.1 dX7_hasRepeat_3 ?_
  obtain ⟨v9, ev9, hf⟩ := si_ob hf
  refine si_nmI ev9 ?_
  refine lv_istore_n (lv' := [(2, .int v9), (0, .ref (E.2.1 7)), (1, .int x1)]) X.1 X.2.1 dX7_hasRepeat_4 rfl hl (by decide) rfl (fun ls hl => ?_)
  refine lv_iconst (v := 0) X.1 X.2.1 dX7_hasRepeat_5 (by decide) ?_
  refine lv_istore_n (lv' := [(3, .int 0), (2, .int v9), (0, .ref (E.2.1 7)), (1, .int x1)]) X.1 X.2.1 dX7_hasRepeat_6 rfl hl (by decide) rfl (fun ls hl => ?_)
  exact B7 F _ _ _ _ _ _ _ hf hw (lv_sub hl [2, 3, 1, 0] rfl)
abbrev rm_X7_allWithinTolerance : Room := { frames := 4, cells := 0, slots := 0, locals := 92 }
set_option maxHeartbeats 4000000 in
set_option maxRecDepth 100000 in
theorem c_X7_allWithinTolerance (l : Launch) (E : si_Ev) (F : Nat) (k1 : Nat) (hk1 : si_kd k1 = 2) (x2 : Int32) (x3 : Int32) (S : si_St) (o : Int32 × si_St) (hf : f_X7_allWithinTolerance F k1 x2 x3 S = some o) : si_Mi l E yX7_allWithinTolerance cX7_allWithinTolerance 5 (some .boolean) rm_X7_allWithinTolerance [.ref (E.2.1 7), .ref (E.2.1 k1), .int x2, .int x3] S o := by
  refine si_ofWz (plainFor_of_name (by decide +kernel)) (Nat.le_of_ble_eq_true rfl) ?_
  intro p e s m args below meth c ls Q A X hw hA hl hret
  have hl : lv_has ls 5 [(0, .ref (E.2.1 7)), (1, .ref (E.2.1 k1)), (2, .int x2), (3, .int x3)] := hl
  have B3 : ∀ (n3 : Nat) (x2 : Int32) (x3 : Int32) (x4 : Int32) (S : si_St) (H : Heap) (locs : List Loc) (ls : Array Slot) , f_X7_allWithinTolerance_l3 F k1 n3 x2 x3 x4 S = some o → si_Ws E A s.heap S H locs → lv_has ls 5 [(0, .ref (E.2.1 7)), (1, .ref (E.2.1 k1)), (2, .int x2), (3, .int x3), (4, .int x4)] → W p l e rm_X7_allWithinTolerance s m args below meth c H locs 0 0 Q (F0 m 3 ls []) := by
    intro n3
    induction n3 with
    | zero => intro x2 x3 x4  S H locs ls  hf; cases hf
    | succ n3 ih3 =>
      intro x2 x3 x4  S H locs ls  hf hw hl
      have hf : f_X7_allWithinTolerance_h3 F k1 (f_X7_allWithinTolerance_l3 F k1 n3) x2 x3 x4 S = some o := hf
      unfold f_X7_allWithinTolerance_h3 at hf
      refine lv_iload X.1 X.2.1 dX7_allWithinTolerance_3 (lv_at hl 4 rfl) ?_
      refine lv_aload_n X.1 X.2.1 dX7_allWithinTolerance_5 rfl (lv_at hl 0 rfl) ?_
      refine si_getR (k' := 12) (d := 5) X hw si_cl7 5 (by decide) gf_RX7_24 rfl rfl rfl (by decide) rfl dX7_allWithinTolerance_6 ?_
      refine lv_iload_n X.1 X.2.1 dX7_allWithinTolerance_9 rfl (lv_at hl 2 rfl) ?_
      obtain ⟨v1, ev1, hf⟩ := si_ob hf
      refine si_iald X hw rfl ev1 dX7_allWithinTolerance_10 ?_
      refine lv_icmp_ge (tgt := 34) X.1 X.2.1 dX7_allWithinTolerance_11 (by decide) (fun c11 => ?_) (fun c11 => ?_)
      · have hf := si_ip c11 hf
        refine lv_iconst (v := 1) X.1 X.2.1 dX7_allWithinTolerance_34 (by decide) ?_
        obtain ⟨v2, ev2, hf⟩ := si_ob hf
        exact hret _ _ _ _ _ _ (si_bzf ev2 hf) (si_nz (si_bz_inv ev2).1) hw dX7_allWithinTolerance_35
      · have hf := si_in c11 hf
        refine lv_aload_n X.1 X.2.1 dX7_allWithinTolerance_14 rfl (lv_at hl 0 rfl) ?_
        refine lv_aload_n X.1 X.2.1 dX7_allWithinTolerance_15 rfl (lv_at hl 1 rfl) ?_
        refine lv_iload_n X.1 X.2.1 dX7_allWithinTolerance_16 rfl (lv_at hl 2 rfl) ?_
        refine lv_iload X.1 X.2.1 dX7_allWithinTolerance_17 (lv_at hl 4 rfl) ?_
        refine lv_iload_n X.1 X.2.1 dX7_allWithinTolerance_19 rfl (lv_at hl 3 rfl) ?_
        obtain ⟨q3, eq3, hf⟩ := si_ob hf
        refine si_cVi [.ref (E.2.1 k1), .int x2, .int x4, .int x3] cal_X7_isWithinTolerance gm_RX7_99 X hw hA hl.1 (c_X7_isWithinTolerance l E F k1 hk1 x2 x4 x3 S q3 eq3) si_cl7 rfl ⟨⟨rfl, rfl⟩, Nat.le_of_ble_eq_true rfl, Nat.le_of_ble_eq_true rfl⟩ rfl rfl (Nat.le_of_ble_eq_true rfl) ⟨Nat.zero_le _, Nat.zero_le _⟩ dX7_allWithinTolerance_20 (fun H locs hw => ?_)
        refine lv_if_ne (tgt := 28) X.1 X.2.1 dX7_allWithinTolerance_23 (by decide) (fun c23 => ?_) (fun c23 => ?_)
        · have hf := si_in c23 hf
          obtain ⟨v4, ev4, hf⟩ := si_ob hf
          refine lv_iinc (v := v4) (lv' := [(4, .int v4), (0, .ref (E.2.1 7)), (1, .ref (E.2.1 k1)), (2, .int x2), (3, .int x3)]) X.1 X.2.1 dX7_allWithinTolerance_28 hl (k := 4) rfl (Option.some.inj ev4) (by decide) rfl (fun ls hl => ?_)
          refine lv_goto (tgt := 3) X.1 X.2.1 dX7_allWithinTolerance_31 (by decide) ?_
          exact ih3 _ _ _ _ _ _ _ hf hw (lv_sub hl [1, 2, 3, 4, 0] rfl)
        · have hf := si_ip c23 hf
          refine lv_iconst (v := 0) X.1 X.2.1 dX7_allWithinTolerance_26 (by decide) ?_
          obtain ⟨v5, ev5, hf⟩ := si_ob hf
          exact hret _ _ _ _ _ _ (si_bzf ev5 hf) (si_nz (si_bz_inv ev5).1) hw dX7_allWithinTolerance_27
  unfold f_X7_allWithinTolerance at hf
  refine lv_iconst (v := 0) X.1 X.2.1 dX7_allWithinTolerance_0 (by decide) ?_
  refine lv_istore (lv' := [(4, .int 0), (0, .ref (E.2.1 7)), (1, .ref (E.2.1 k1)), (2, .int x2), (3, .int x3)]) X.1 X.2.1 dX7_allWithinTolerance_1 hl (by decide) rfl (fun ls hl => ?_)
  exact B3 F _ _ _ _ _ _ _ hf hw (lv_sub hl [1, 2, 3, 4, 0] rfl)
abbrev rm_X7_repeatsAgree : Room := { frames := 3, cells := 0, slots := 0, locals := 67 }
set_option maxHeartbeats 4000000 in
set_option maxRecDepth 100000 in
theorem c_X7_repeatsAgree (l : Launch) (E : si_Ev) (F : Nat) (k1 : Nat) (hk1 : si_kd k1 = 2) (x2 : Int32) (S : si_St) (o : Int32 × si_St) (hf : f_X7_repeatsAgree F k1 x2 S = some o) : si_Mi l E yX7_repeatsAgree cX7_repeatsAgree 8 (some .boolean) rm_X7_repeatsAgree [.ref (E.2.1 7), .ref (E.2.1 k1), .int x2] S o := by
  refine si_ofWz (plainFor_of_name (by decide +kernel)) (Nat.le_of_ble_eq_true rfl) ?_
  intro p e s m args below meth c ls Q A X hw hA hl hret
  have hl : lv_has ls 8 [(0, .ref (E.2.1 7)), (1, .ref (E.2.1 k1)), (2, .int x2)] := hl
  have B8 : ∀ (n8 : Nat) (x2 : Int32) (x3 : Int32) (x4 : Int32) (S : si_St) (H : Heap) (locs : List Loc) (ls : Array Slot) , f_X7_repeatsAgree_l8 F k1 n8 x2 x3 x4 S = some o → si_Ws E A s.heap S H locs → lv_has ls 8 [(0, .ref (E.2.1 7)), (1, .ref (E.2.1 k1)), (2, .int x2), (3, .int x3), (4, .int x4)] → W p l e rm_X7_repeatsAgree s m args below meth c H locs 0 0 Q (F0 m 8 ls []) := by
    intro n8
    induction n8 with
    | zero => intro x2 x3 x4  S H locs ls  hf; cases hf
    | succ n8 ih8 =>
      have B32 : ∀ (n32 : Nat) (x2 : Int32) (x3 : Int32) (x4 : Int32) (x5 : Int32) (x6 : Int32) (S : si_St) (H : Heap) (locs : List Loc) (ls : Array Slot) , f_X7_repeatsAgree_l32 F k1 (f_X7_repeatsAgree_l8 F k1 n8) n32 x2 x3 x4 x5 x6 S = some o → si_Ws E A s.heap S H locs → lv_has ls 8 [(0, .ref (E.2.1 7)), (1, .ref (E.2.1 k1)), (2, .int x2), (3, .int x3), (4, .int x4), (5, .int x5), (6, .int x6)] → W p l e rm_X7_repeatsAgree s m args below meth c H locs 0 0 Q (F0 m 32 ls []) := by
        intro n32
        induction n32 with
        | zero => intro x2 x3 x4 x5 x6  S H locs ls  hf; cases hf
        | succ n32 ih32 =>
          have B101 : ∀ (x2 : Int32) (x3 : Int32) (x4 : Int32) (x5 : Int32) (x6 : Int32) (S : si_St) (H : Heap) (locs : List Loc) (ls : Array Slot) , f_X7_repeatsAgree_h101 F k1 (f_X7_repeatsAgree_l8 F k1 n8) (f_X7_repeatsAgree_l32 F k1 (f_X7_repeatsAgree_l8 F k1 n8) n32) x2 x3 x4 x5 x6 S = some o → si_Ws E A s.heap S H locs → lv_has ls 8 [(0, .ref (E.2.1 7)), (1, .ref (E.2.1 k1)), (2, .int x2), (3, .int x3), (4, .int x4), (5, .int x5), (6, .int x6)] → W p l e rm_X7_repeatsAgree s m args below meth c H locs 0 0 Q (F0 m 101 ls []) := by
            intro x2 x3 x4 x5 x6  S H locs ls  hf hw hl
            unfold f_X7_repeatsAgree_h101 at hf
            obtain ⟨v1, ev1, hf⟩ := si_ob hf
            refine lv_iinc (v := v1) (lv' := [(6, .int v1), (0, .ref (E.2.1 7)), (1, .ref (E.2.1 k1)), (2, .int x2), (3, .int x3), (4, .int x4), (5, .int x5)]) X.1 X.2.1 dX7_repeatsAgree_101 hl (k := 6) rfl (Option.some.inj ev1) (by decide) rfl (fun ls hl => ?_)
            refine lv_goto (tgt := 32) X.1 X.2.1 dX7_repeatsAgree_104 (by decide) ?_
            exact ih32 _ _ _ _ _ _ _ _ _ hf hw (lv_sub hl [1, 2, 3, 4, 5, 6, 0] rfl)
          have B65 : ∀ (x2 : Int32) (x3 : Int32) (x4 : Int32) (x5 : Int32) (x6 : Int32) (t0 : Int32) (S : si_St) (H : Heap) (locs : List Loc) (ls : Array Slot) , f_X7_repeatsAgree_h65 F k1 (f_X7_repeatsAgree_l8 F k1 n8) (f_X7_repeatsAgree_l32 F k1 (f_X7_repeatsAgree_l8 F k1 n8) n32) x2 x3 x4 x5 x6 t0 S = some o → si_Ws E A s.heap S H locs → lv_has ls 8 [(0, .ref (E.2.1 7)), (1, .ref (E.2.1 k1)), (2, .int x2), (3, .int x3), (4, .int x4), (5, .int x5), (6, .int x6)] → W p l e rm_X7_repeatsAgree s m args below meth c H locs 0 0 Q (F0 m 65 ls [.int t0]) := by
            intro x2 x3 x4 x5 x6 t0  S H locs ls  hf hw hl
            unfold f_X7_repeatsAgree_h65 at hf
            refine lv_istore (lv' := [(7, .int t0), (0, .ref (E.2.1 7)), (1, .ref (E.2.1 k1)), (2, .int x2), (3, .int x3), (4, .int x4), (5, .int x5), (6, .int x6)]) X.1 X.2.1 dX7_repeatsAgree_65 hl (by decide) rfl (fun ls hl => ?_)
            refine lv_iload X.1 X.2.1 dX7_repeatsAgree_67 (lv_at hl 0 rfl) ?_
            refine lv_if_eq (tgt := 101) X.1 X.2.1 dX7_repeatsAgree_69 (by decide) (fun c69 => ?_) (fun c69 => ?_)
            · have hf := si_ip c69 hf
              exact B101 _ _ _ _ _ _ _ _ _ hf hw (lv_sub hl [1, 2, 3, 4, 5, 6, 7] rfl)
            · have hf := si_in c69 hf
              refine lv_aload_n X.1 X.2.1 dX7_repeatsAgree_72 rfl (lv_at hl 1 rfl) ?_
              refine si_getR (k' := 15) (d := 8) X hw si_cl7 8 (by decide) gf_RX7_33 rfl rfl rfl (by decide) rfl dX7_repeatsAgree_73 ?_
              refine lv_iload_n X.1 X.2.1 dX7_repeatsAgree_76 rfl (lv_at hl 4 rfl) ?_
              refine lv_iload X.1 X.2.1 dX7_repeatsAgree_77 (lv_at hl 5 rfl) ?_
              refine lv_iadd X.1 X.2.1 dX7_repeatsAgree_79 ?_
              obtain ⟨v2, ev2, hf⟩ := si_ob hf
              refine si_iald X hw rfl ev2 dX7_repeatsAgree_80 ?_
              refine lv_aload_n X.1 X.2.1 dX7_repeatsAgree_81 rfl (lv_at hl 1 rfl) ?_
              refine si_getR (k' := 15) (d := 8) X hw si_cl7 8 (by decide) gf_RX7_33 rfl rfl rfl (by decide) rfl dX7_repeatsAgree_82 ?_
              refine lv_iload_n X.1 X.2.1 dX7_repeatsAgree_85 rfl (lv_at hl 4 rfl) ?_
              refine lv_iload X.1 X.2.1 dX7_repeatsAgree_86 (lv_at hl 7 rfl) ?_
              refine lv_iadd X.1 X.2.1 dX7_repeatsAgree_88 ?_
              obtain ⟨v3, ev3, hf⟩ := si_ob hf
              refine si_iald X hw rfl ev3 dX7_repeatsAgree_89 ?_
              refine lv_isub X.1 X.2.1 dX7_repeatsAgree_90 ?_
              refine si_mabs hl.1 X (by decide) (Nat.le_of_ble_eq_true rfl) gm_RX7_64 dX7_repeatsAgree_91 ?_
              refine lv_iload X.1 X.2.1 dX7_repeatsAgree_94 (lv_at hl 6 rfl) ?_
              refine lv_icmp_le (tgt := 101) X.1 X.2.1 dX7_repeatsAgree_96 (by decide) (fun c96 => ?_) (fun c96 => ?_)
              · have hf := si_ip c96 hf
                exact B101 _ _ _ _ _ _ _ _ _ hf hw (lv_sub hl [1, 2, 3, 4, 5, 6, 7] rfl)
              · have hf := si_in c96 hf
                refine lv_iconst (v := 0) X.1 X.2.1 dX7_repeatsAgree_99 (by decide) ?_
                obtain ⟨v4, ev4, hf⟩ := si_ob hf
                exact hret _ _ _ _ _ _ (si_bzf ev4 hf) (si_nz (si_bz_inv ev4).1) hw dX7_repeatsAgree_100
          intro x2 x3 x4 x5 x6  S H locs ls  hf hw hl
          have hf : f_X7_repeatsAgree_h32 F k1 (f_X7_repeatsAgree_l8 F k1 n8) (f_X7_repeatsAgree_l32 F k1 (f_X7_repeatsAgree_l8 F k1 n8) n32) x2 x3 x4 x5 x6 S = some o := hf
          unfold f_X7_repeatsAgree_h32 at hf
          refine lv_iload X.1 X.2.1 dX7_repeatsAgree_32 (lv_at hl 6 rfl) ?_
          refine lv_iload X.1 X.2.1 dX7_repeatsAgree_34 (lv_at hl 4 rfl) ?_
          refine lv_icmp_ge (tgt := 107) X.1 X.2.1 dX7_repeatsAgree_36 (by decide) (fun c36 => ?_) (fun c36 => ?_)
          · have hf := si_ip c36 hf
            obtain ⟨v5, ev5, hf⟩ := si_ob hf
            refine lv_iinc (v := v5) (lv' := [(4, .int v5), (0, .ref (E.2.1 7)), (1, .ref (E.2.1 k1)), (2, .int x2), (3, .int x3), (5, .int x5), (6, .int x6)]) X.1 X.2.1 dX7_repeatsAgree_107 hl (k := 4) rfl (Option.some.inj ev5) (by decide) rfl (fun ls hl => ?_)
            refine lv_goto (tgt := 8) X.1 X.2.1 dX7_repeatsAgree_110 (by decide) ?_
            exact ih8 _ _ _ _ _ _ _ hf hw (lv_sub hl [1, 2, 3, 4, 0] rfl)
          · have hf := si_in c36 hf
            refine lv_aload_n X.1 X.2.1 dX7_repeatsAgree_39 rfl (lv_at hl 0 rfl) ?_
            refine si_getR (k' := 13) (d := 6) X hw si_cl7 6 (by decide) gf_RX7_27 rfl rfl rfl (by decide) rfl dX7_repeatsAgree_40 ?_
            refine lv_iload_n X.1 X.2.1 dX7_repeatsAgree_43 rfl (lv_at hl 3 rfl) ?_
            refine lv_iload X.1 X.2.1 dX7_repeatsAgree_44 (lv_at hl 4 rfl) ?_
            refine lv_iadd X.1 X.2.1 dX7_repeatsAgree_46 ?_
            obtain ⟨v6, ev6, hf⟩ := si_ob hf
            refine si_iald X hw rfl ev6 dX7_repeatsAgree_47 ?_
            refine lv_aload_n X.1 X.2.1 dX7_repeatsAgree_48 rfl (lv_at hl 0 rfl) ?_
            refine si_getR (k' := 13) (d := 6) X hw si_cl7 6 (by decide) gf_RX7_27 rfl rfl rfl (by decide) rfl dX7_repeatsAgree_49 ?_
            refine lv_iload_n X.1 X.2.1 dX7_repeatsAgree_52 rfl (lv_at hl 3 rfl) ?_
            refine lv_iload X.1 X.2.1 dX7_repeatsAgree_53 (lv_at hl 6 rfl) ?_
            refine lv_iadd X.1 X.2.1 dX7_repeatsAgree_55 ?_
            obtain ⟨v7, ev7, hf⟩ := si_ob hf
            refine si_iald X hw rfl ev7 dX7_repeatsAgree_56 ?_
            refine lv_icmp_ne (tgt := 64) X.1 X.2.1 dX7_repeatsAgree_57 (by decide) (fun c57 => ?_) (fun c57 => ?_)
            · have hf := si_in c57 hf
              refine lv_iconst (v := 0) X.1 X.2.1 dX7_repeatsAgree_64 (by decide) ?_
              exact B65 _ _ _ _ _ _ _ _ _ _ hf hw (lv_sub hl [0, 1, 2, 3, 4, 5, 6] rfl)
            · have hf := si_ip c57 hf
              refine lv_iconst (v := 1) X.1 X.2.1 dX7_repeatsAgree_60 (by decide) ?_
              refine lv_goto (tgt := 65) X.1 X.2.1 dX7_repeatsAgree_61 (by decide) ?_
              exact B65 _ _ _ _ _ _ _ _ _ _ hf hw (lv_sub hl [0, 1, 2, 3, 4, 5, 6] rfl)
      intro x2 x3 x4  S H locs ls  hf hw hl
      have hf : f_X7_repeatsAgree_h8 F k1 (f_X7_repeatsAgree_l8 F k1 n8) x2 x3 x4 S = some o := hf
      unfold f_X7_repeatsAgree_h8 at hf
      refine lv_iload X.1 X.2.1 dX7_repeatsAgree_8 (lv_at hl 4 rfl) ?_
      refine lv_aload_n X.1 X.2.1 dX7_repeatsAgree_10 rfl (lv_at hl 0 rfl) ?_
      refine si_getR (k' := 12) (d := 5) X hw si_cl7 5 (by decide) gf_RX7_24 rfl rfl rfl (by decide) rfl dX7_repeatsAgree_11 ?_
      refine lv_iload_n X.1 X.2.1 dX7_repeatsAgree_14 rfl (lv_at hl 2 rfl) ?_
      obtain ⟨v8, ev8, hf⟩ := si_ob hf
      refine si_iald X hw rfl ev8 dX7_repeatsAgree_15 ?_
      refine lv_icmp_ge (tgt := 113) X.1 X.2.1 dX7_repeatsAgree_16 (by decide) (fun c16 => ?_) (fun c16 => ?_)
      · have hf := si_ip c16 hf
        refine lv_iconst (v := 1) X.1 X.2.1 dX7_repeatsAgree_113 (by decide) ?_
        obtain ⟨v9, ev9, hf⟩ := si_ob hf
        exact hret _ _ _ _ _ _ (si_bzf ev9 hf) (si_nz (si_bz_inv ev9).1) hw dX7_repeatsAgree_114
      · have hf := si_in c16 hf
        refine lv_aload_n X.1 X.2.1 dX7_repeatsAgree_19 rfl (lv_at hl 0 rfl) ?_
        refine lv_aload_n X.1 X.2.1 dX7_repeatsAgree_20 rfl (lv_at hl 1 rfl) ?_
        refine lv_iload_n X.1 X.2.1 dX7_repeatsAgree_21 rfl (lv_at hl 2 rfl) ?_
        refine lv_iload X.1 X.2.1 dX7_repeatsAgree_22 (lv_at hl 4 rfl) ?_
        obtain ⟨q10, eq10, hf⟩ := si_ob hf
        refine si_cVi [.ref (E.2.1 k1), .int x2, .int x4] cal_X7_toleranceOf gm_RX7_68 X hw hA hl.1 (c_X7_toleranceOf l E F k1 hk1 x2 x4 S q10 eq10) si_cl7 rfl ⟨⟨rfl, rfl⟩, Nat.le_of_ble_eq_true rfl, Nat.le_of_ble_eq_true rfl⟩ rfl rfl (Nat.le_of_ble_eq_true rfl) ⟨Nat.zero_le _, Nat.zero_le _⟩ dX7_repeatsAgree_24 (fun H locs hw => ?_)
        refine lv_istore (lv' := [(5, .int q10.1), (0, .ref (E.2.1 7)), (1, .ref (E.2.1 k1)), (2, .int x2), (3, .int x3), (4, .int x4)]) X.1 X.2.1 dX7_repeatsAgree_27 hl (by decide) rfl (fun ls hl => ?_)
        refine lv_iconst (v := 0) X.1 X.2.1 dX7_repeatsAgree_29 (by decide) ?_
        refine lv_istore (lv' := [(6, .int 0), (5, .int q10.1), (0, .ref (E.2.1 7)), (1, .ref (E.2.1 k1)), (2, .int x2), (3, .int x3), (4, .int x4)]) X.1 X.2.1 dX7_repeatsAgree_30 hl (by decide) rfl (fun ls hl => ?_)
        exact B32 F _ _ _ _ _ _ _ _ _ hf hw (lv_sub hl [2, 3, 4, 5, 6, 1, 0] rfl)
  unfold f_X7_repeatsAgree at hf
  refine lv_iload_n X.1 X.2.1 dX7_repeatsAgree_0 rfl (lv_at hl 2 rfl) ?_
  refine lv_bipush (v := 8) X.1 X.2.1 dX7_repeatsAgree_1 (by decide) ?_
  refine lv_imul X.1 X.2.1 dX7_repeatsAgree_3 ?_
  obtain ⟨v11, ev11, hf⟩ := si_ob hf
  refine si_nmI ev11 ?_
  refine lv_istore_n (lv' := [(3, .int v11), (0, .ref (E.2.1 7)), (1, .ref (E.2.1 k1)), (2, .int x2)]) X.1 X.2.1 dX7_repeatsAgree_4 rfl hl (by decide) rfl (fun ls hl => ?_)
  refine lv_iconst (v := 0) X.1 X.2.1 dX7_repeatsAgree_5 (by decide) ?_
  refine lv_istore (lv' := [(4, .int 0), (3, .int v11), (0, .ref (E.2.1 7)), (1, .ref (E.2.1 k1)), (2, .int x2)]) X.1 X.2.1 dX7_repeatsAgree_6 hl (by decide) rfl (fun ls hl => ?_)
  exact B8 F _ _ _ _ _ _ _ hf hw (lv_sub hl [2, 3, 4, 1, 0] rfl)
abbrev rm_X7_judge : Room := { frames := 5, cells := 0, slots := 0, locals := 116 }
set_option maxHeartbeats 4000000 in
set_option maxRecDepth 100000 in
theorem c_X7_judge (l : Launch) (E : si_Ev) (F : Nat) (k1 : Nat) (hk1 : si_kd k1 = 2) (x2 : Int32) (x3 : Int32) (S : si_St) (o : Int32 × si_St) (hf : f_X7_judge F k1 x2 x3 S = some o) : si_Mi l E yX7_judge cX7_judge 4 (some .int) rm_X7_judge [.ref (E.2.1 7), .ref (E.2.1 k1), .int x2, .int x3] S o := by
  refine si_ofWi (plainFor_of_name (by decide +kernel)) (Nat.le_of_ble_eq_true rfl) ?_
  intro p e s m args below meth c ls Q A X hw hA hl hret
  have hl : lv_has ls 4 [(0, .ref (E.2.1 7)), (1, .ref (E.2.1 k1)), (2, .int x2), (3, .int x3)] := hl
  have B67 : ∀ (t0 : Int32) (S : si_St) (H : Heap) (locs : List Loc) (ls : Array Slot) , f_X7_judge_h67 F k1 t0 S = some o → si_Ws E A s.heap S H locs → lv_has ls 4 [] → W p l e rm_X7_judge s m args below meth c H locs 0 0 Q (F0 m 67 ls [.int t0]) := by
    intro t0  S H locs ls  hf hw hl
    unfold f_X7_judge_h67 at hf
    exact hret _ _ _ _ _ _ hf hw dX7_judge_67
  unfold f_X7_judge at hf
  refine lv_aload_n X.1 X.2.1 dX7_judge_0 rfl (lv_at hl 0 rfl) ?_
  refine lv_iload_n X.1 X.2.1 dX7_judge_1 rfl (lv_at hl 2 rfl) ?_
  obtain ⟨q1, eq1, hf⟩ := si_ob hf
  refine si_cVi [.int x2] cal_X7_hasEmptyTest gm_RX7_78 X hw hA hl.1 (c_X7_hasEmptyTest l E F x2 S q1 eq1) si_cl7 rfl ⟨⟨rfl, rfl⟩, Nat.le_of_ble_eq_true rfl, Nat.le_of_ble_eq_true rfl⟩ rfl rfl (Nat.le_of_ble_eq_true rfl) ⟨Nat.zero_le _, Nat.zero_le _⟩ dX7_judge_2 (fun H locs hw => ?_)
  refine lv_if_ne (tgt := 10) X.1 X.2.1 dX7_judge_5 (by decide) (fun c5 => ?_) (fun c5 => ?_)
  · have hf := si_in c5 hf
    refine lv_aload_n X.1 X.2.1 dX7_judge_10 rfl (lv_at hl 0 rfl) ?_
    refine lv_iload_n X.1 X.2.1 dX7_judge_11 rfl (lv_at hl 2 rfl) ?_
    refine lv_aload_n X.1 X.2.1 dX7_judge_12 rfl (lv_at hl 1 rfl) ?_
    refine si_getR (k' := (k1 + 4)) (d := 4) X hw si_cl2 7 (by decide) gf_RX7_81 rfl hk1 rfl (by decide) rfl dX7_judge_13 ?_
    refine lv_aload_n X.1 X.2.1 dX7_judge_16 rfl (lv_at hl 0 rfl) ?_
    refine si_getR (k' := 8) (d := 1) X hw si_cl7 1 (by decide) gf_RX7_9 rfl rfl rfl (by decide) rfl dX7_judge_17 ?_
    refine lv_iload_n X.1 X.2.1 dX7_judge_20 rfl (lv_at hl 2 rfl) ?_
    obtain ⟨v2, ev2, hf⟩ := si_ob hf
    refine si_iald X hw rfl ev2 dX7_judge_21 ?_
    obtain ⟨v3, ev3, hf⟩ := si_ob hf
    refine si_iald X hw (sk_2_4 hk1) ev3 dX7_judge_22 ?_
    obtain ⟨q4, eq4, hf⟩ := si_ob hf
    refine si_cVi [.int x2, .int v3] cal_X7_reachesHalf gm_RX7_84 X hw hA hl.1 (c_X7_reachesHalf l E F x2 v3 q1.2 q4 eq4) si_cl7 rfl ⟨⟨rfl, rfl⟩, Nat.le_of_ble_eq_true rfl, Nat.le_of_ble_eq_true rfl⟩ rfl rfl (Nat.le_of_ble_eq_true rfl) ⟨Nat.zero_le _, Nat.zero_le _⟩ dX7_judge_23 (fun H locs hw => ?_)
    refine lv_if_ne (tgt := 31) X.1 X.2.1 dX7_judge_26 (by decide) (fun c26 => ?_) (fun c26 => ?_)
    · have hf := si_in c26 hf
      refine lv_aload_n X.1 X.2.1 dX7_judge_31 rfl (lv_at hl 0 rfl) ?_
      refine lv_iload_n X.1 X.2.1 dX7_judge_32 rfl (lv_at hl 2 rfl) ?_
      obtain ⟨q5, eq5, hf⟩ := si_ob hf
      refine si_cVi [.int x2] cal_X7_hasRepeat gm_RX7_88 X hw hA hl.1 (c_X7_hasRepeat l E F x2 q4.2 q5 eq5) si_cl7 rfl ⟨⟨rfl, rfl⟩, Nat.le_of_ble_eq_true rfl, Nat.le_of_ble_eq_true rfl⟩ rfl rfl (Nat.le_of_ble_eq_true rfl) ⟨Nat.zero_le _, Nat.zero_le _⟩ dX7_judge_33 (fun H locs hw => ?_)
      refine lv_if_ne (tgt := 41) X.1 X.2.1 dX7_judge_36 (by decide) (fun c36 => ?_) (fun c36 => ?_)
      · have hf := si_in c36 hf
        refine lv_aload_n X.1 X.2.1 dX7_judge_41 rfl (lv_at hl 0 rfl) ?_
        refine lv_aload_n X.1 X.2.1 dX7_judge_42 rfl (lv_at hl 1 rfl) ?_
        refine lv_iload_n X.1 X.2.1 dX7_judge_43 rfl (lv_at hl 2 rfl) ?_
        refine lv_iload_n X.1 X.2.1 dX7_judge_44 rfl (lv_at hl 3 rfl) ?_
        obtain ⟨q6, eq6, hf⟩ := si_ob hf
        refine si_cVi [.ref (E.2.1 k1), .int x2, .int x3] cal_X7_allWithinTolerance gm_RX7_91 X hw hA hl.1 (c_X7_allWithinTolerance l E F k1 hk1 x2 x3 q5.2 q6 eq6) si_cl7 rfl ⟨⟨rfl, rfl⟩, Nat.le_of_ble_eq_true rfl, Nat.le_of_ble_eq_true rfl⟩ rfl rfl (Nat.le_of_ble_eq_true rfl) ⟨Nat.zero_le _, Nat.zero_le _⟩ dX7_judge_45 (fun H locs hw => ?_)
        refine lv_if_ne (tgt := 53) X.1 X.2.1 dX7_judge_48 (by decide) (fun c48 => ?_) (fun c48 => ?_)
        · have hf := si_in c48 hf
          refine lv_aload_n X.1 X.2.1 dX7_judge_53 rfl (lv_at hl 0 rfl) ?_
          refine lv_aload_n X.1 X.2.1 dX7_judge_54 rfl (lv_at hl 1 rfl) ?_
          refine lv_iload_n X.1 X.2.1 dX7_judge_55 rfl (lv_at hl 2 rfl) ?_
          obtain ⟨q7, eq7, hf⟩ := si_ob hf
          refine si_cVi [.ref (E.2.1 k1), .int x2] cal_X7_repeatsAgree gm_RX7_95 X hw hA hl.1 (c_X7_repeatsAgree l E F k1 hk1 x2 q6.2 q7 eq7) si_cl7 rfl ⟨⟨rfl, rfl⟩, Nat.le_of_ble_eq_true rfl, Nat.le_of_ble_eq_true rfl⟩ rfl rfl (Nat.le_of_ble_eq_true rfl) ⟨Nat.zero_le _, Nat.zero_le _⟩ dX7_judge_56 (fun H locs hw => ?_)
          refine lv_if_eq (tgt := 66) X.1 X.2.1 dX7_judge_59 (by decide) (fun c59 => ?_) (fun c59 => ?_)
          · have hf := si_ip c59 hf
            refine lv_iconst (v := 5) X.1 X.2.1 dX7_judge_66 (by decide) ?_
            exact B67 _ _ _ _ _ hf hw (lv_sub hl [] rfl)
          · have hf := si_in c59 hf
            refine lv_iconst (v := 0) X.1 X.2.1 dX7_judge_62 (by decide) ?_
            refine lv_goto (tgt := 67) X.1 X.2.1 dX7_judge_63 (by decide) ?_
            exact B67 _ _ _ _ _ hf hw (lv_sub hl [] rfl)
        · have hf := si_ip c48 hf
          refine lv_iconst (v := 4) X.1 X.2.1 dX7_judge_51 (by decide) ?_
          exact hret _ _ _ _ _ _ hf hw dX7_judge_52
      · have hf := si_ip c36 hf
        refine lv_iconst (v := 3) X.1 X.2.1 dX7_judge_39 (by decide) ?_
        exact hret _ _ _ _ _ _ hf hw dX7_judge_40
    · have hf := si_ip c26 hf
      refine lv_iconst (v := 2) X.1 X.2.1 dX7_judge_29 (by decide) ?_
      exact hret _ _ _ _ _ _ hf hw dX7_judge_30
  · have hf := si_ip c5 hf
    refine lv_iconst (v := 1) X.1 X.2.1 dX7_judge_8 (by decide) ?_
    exact hret _ _ _ _ _ _ hf hw dX7_judge_9

theorem dX6_baseRisk_0 : decode cX6_baseRisk 0 = .ok (.iload_n 0, 1) := by decide +kernel
theorem dX6_baseRisk_1 : decode cX6_baseRisk 1 = .ok (.tableswitch 33 0 2 #[27, 29, 31], 27) := by decide +kernel
theorem dX6_baseRisk_28 : decode cX6_baseRisk 28 = .ok (.iconst 4, 1) := by decide +kernel
theorem dX6_baseRisk_29 : decode cX6_baseRisk 29 = .ok (.ireturn, 1) := by decide +kernel
theorem dX6_baseRisk_30 : decode cX6_baseRisk 30 = .ok (.iconst 1, 1) := by decide +kernel
theorem dX6_baseRisk_31 : decode cX6_baseRisk 31 = .ok (.ireturn, 1) := by decide +kernel
theorem dX6_baseRisk_32 : decode cX6_baseRisk 32 = .ok (.iconst 3, 1) := by decide +kernel
theorem dX6_baseRisk_33 : decode cX6_baseRisk 33 = .ok (.ireturn, 1) := by decide +kernel
theorem dX6_baseRisk_34 : decode cX6_baseRisk 34 = .ok (.bipush 6, 2) := by decide +kernel
theorem dX6_baseRisk_36 : decode cX6_baseRisk 36 = .ok (.ireturn, 1) := by decide +kernel
theorem dX6_findRisk_0 : decode cX6_findRisk 0 = .ok (.aload_n 0, 1) := by decide +kernel
theorem dX6_findRisk_1 : decode cX6_findRisk 1 = .ok (.getfield 9, 3) := by decide +kernel
theorem dX6_findRisk_4 : decode cX6_findRisk 4 = .ok (.iload_n 2, 1) := by decide +kernel
theorem dX6_findRisk_5 : decode cX6_findRisk 5 = .ok (.iaload, 1) := by decide +kernel
theorem dX6_findRisk_6 : decode cX6_findRisk 6 = .ok (.istore_n 3, 1) := by decide +kernel
theorem dX6_findRisk_7 : decode cX6_findRisk 7 = .ok (.aload_n 0, 1) := by decide +kernel
theorem dX6_findRisk_8 : decode cX6_findRisk 8 = .ok (.getfield 27, 3) := by decide +kernel
theorem dX6_findRisk_11 : decode cX6_findRisk 11 = .ok (.aload_n 1, 1) := by decide +kernel
theorem dX6_findRisk_12 : decode cX6_findRisk 12 = .ok (.getfield 72, 3) := by decide +kernel
theorem dX6_findRisk_15 : decode cX6_findRisk 15 = .ok (.iload_n 2, 1) := by decide +kernel
theorem dX6_findRisk_16 : decode cX6_findRisk 16 = .ok (.iaload, 1) := by decide +kernel
theorem dX6_findRisk_17 : decode cX6_findRisk 17 = .ok (.iaload, 1) := by decide +kernel
theorem dX6_findRisk_18 : decode cX6_findRisk 18 = .ok (.iload_n 3, 1) := by decide +kernel
theorem dX6_findRisk_19 : decode cX6_findRisk 19 = .ok (.iconst 3, 1) := by decide +kernel
theorem dX6_findRisk_20 : decode cX6_findRisk 20 = .ok (.if_icmp .ne 7, 3) := by decide +kernel
theorem dX6_findRisk_23 : decode cX6_findRisk 23 = .ok (.iconst 1, 1) := by decide +kernel
theorem dX6_findRisk_24 : decode cX6_findRisk 24 = .ok (.goto 4, 3) := by decide +kernel
theorem dX6_findRisk_27 : decode cX6_findRisk 27 = .ok (.iconst 0, 1) := by decide +kernel
theorem dX6_findRisk_28 : decode cX6_findRisk 28 = .ok (.isub, 1) := by decide +kernel
theorem dX6_findRisk_29 : decode cX6_findRisk 29 = .ok (.istore 4, 2) := by decide +kernel
theorem dX6_findRisk_31 : decode cX6_findRisk 31 = .ok (.aload_n 0, 1) := by decide +kernel
theorem dX6_findRisk_32 : decode cX6_findRisk 32 = .ok (.getfield 18, 3) := by decide +kernel
theorem dX6_findRisk_35 : decode cX6_findRisk 35 = .ok (.iload_n 2, 1) := by decide +kernel
theorem dX6_findRisk_36 : decode cX6_findRisk 36 = .ok (.iload_n 3, 1) := by decide +kernel
theorem dX6_findRisk_37 : decode cX6_findRisk 37 = .ok (.invokestatic 79, 3) := by decide +kernel
theorem dX6_findRisk_40 : decode cX6_findRisk 40 = .ok (.aload_n 0, 1) := by decide +kernel
theorem dX6_findRisk_41 : decode cX6_findRisk 41 = .ok (.getfield 24, 3) := by decide +kernel
theorem dX6_findRisk_44 : decode cX6_findRisk 44 = .ok (.iload_n 2, 1) := by decide +kernel
theorem dX6_findRisk_45 : decode cX6_findRisk 45 = .ok (.iaload, 1) := by decide +kernel
theorem dX6_findRisk_46 : decode cX6_findRisk 46 = .ok (.iadd, 1) := by decide +kernel
theorem dX6_findRisk_47 : decode cX6_findRisk 47 = .ok (.iload 4, 2) := by decide +kernel
theorem dX6_findRisk_49 : decode cX6_findRisk 49 = .ok (.iadd, 1) := by decide +kernel
theorem dX6_findRisk_50 : decode cX6_findRisk 50 = .ok (.iastore, 1) := by decide +kernel
theorem dX6_findRisk_51 : decode cX6_findRisk 51 = .ok (.return_, 1) := by decide +kernel
theorem dX6_findState_0 : decode cX6_findState 0 = .ok (.aload_n 0, 1) := by decide +kernel
theorem dX6_findState_1 : decode cX6_findState 1 = .ok (.getfield 21, 3) := by decide +kernel
theorem dX6_findState_4 : decode cX6_findState 4 = .ok (.iload_n 3, 1) := by decide +kernel
theorem dX6_findState_5 : decode cX6_findState 5 = .ok (.iaload, 1) := by decide +kernel
theorem dX6_findState_6 : decode cX6_findState 6 = .ok (.istore 5, 2) := by decide +kernel
theorem dX6_findState_8 : decode cX6_findState 8 = .ok (.aload_n 0, 1) := by decide +kernel
theorem dX6_findState_9 : decode cX6_findState 9 = .ok (.getfield 15, 3) := by decide +kernel
theorem dX6_findState_12 : decode cX6_findState 12 = .ok (.iload_n 3, 1) := by decide +kernel
theorem dX6_findState_13 : decode cX6_findState 13 = .ok (.iconst 0, 1) := by decide +kernel
theorem dX6_findState_14 : decode cX6_findState 14 = .ok (.iastore, 1) := by decide +kernel
theorem dX6_findState_15 : decode cX6_findState 15 = .ok (.iload 5, 2) := by decide +kernel
theorem dX6_findState_17 : decode cX6_findState 17 = .ok (.iconst (-1), 1) := by decide +kernel
theorem dX6_findState_18 : decode cX6_findState 18 = .ok (.if_icmp .ne 13, 3) := by decide +kernel
theorem dX6_findState_21 : decode cX6_findState 21 = .ok (.aload_n 0, 1) := by decide +kernel
theorem dX6_findState_22 : decode cX6_findState 22 = .ok (.getfield 9, 3) := by decide +kernel
theorem dX6_findState_25 : decode cX6_findState 25 = .ok (.iload_n 3, 1) := by decide +kernel
theorem dX6_findState_26 : decode cX6_findState 26 = .ok (.iconst 0, 1) := by decide +kernel
theorem dX6_findState_27 : decode cX6_findState 27 = .ok (.iastore, 1) := by decide +kernel
theorem dX6_findState_28 : decode cX6_findState 28 = .ok (.goto 87, 3) := by decide +kernel
theorem dX6_findState_31 : decode cX6_findState 31 = .ok (.aload_n 2, 1) := by decide +kernel
theorem dX6_findState_32 : decode cX6_findState 32 = .ok (.getfield 61, 3) := by decide +kernel
theorem dX6_findState_35 : decode cX6_findState 35 = .ok (.iload 5, 2) := by decide +kernel
theorem dX6_findState_37 : decode cX6_findState 37 = .ok (.iaload, 1) := by decide +kernel
theorem dX6_findState_38 : decode cX6_findState 38 = .ok (.ifCond .eq 28, 3) := by decide +kernel
theorem dX6_findState_41 : decode cX6_findState 41 = .ok (.aload_n 0, 1) := by decide +kernel
theorem dX6_findState_42 : decode cX6_findState 42 = .ok (.getfield 9, 3) := by decide +kernel
theorem dX6_findState_45 : decode cX6_findState 45 = .ok (.iload_n 3, 1) := by decide +kernel
theorem dX6_findState_46 : decode cX6_findState 46 = .ok (.iconst 3, 1) := by decide +kernel
theorem dX6_findState_47 : decode cX6_findState 47 = .ok (.iastore, 1) := by decide +kernel
theorem dX6_findState_48 : decode cX6_findState 48 = .ok (.aload_n 0, 1) := by decide +kernel
theorem dX6_findState_49 : decode cX6_findState 49 = .ok (.getfield 27, 3) := by decide +kernel
theorem dX6_findState_52 : decode cX6_findState 52 = .ok (.aload_n 1, 1) := by decide +kernel
theorem dX6_findState_53 : decode cX6_findState 53 = .ok (.getfield 72, 3) := by decide +kernel
theorem dX6_findState_56 : decode cX6_findState 56 = .ok (.iload_n 3, 1) := by decide +kernel
theorem dX6_findState_57 : decode cX6_findState 57 = .ok (.iaload, 1) := by decide +kernel
theorem dX6_findState_58 : decode cX6_findState 58 = .ok (.dup2, 1) := by decide +kernel
theorem dX6_findState_59 : decode cX6_findState 59 = .ok (.iaload, 1) := by decide +kernel
theorem dX6_findState_60 : decode cX6_findState 60 = .ok (.iconst 1, 1) := by decide +kernel
theorem dX6_findState_61 : decode cX6_findState 61 = .ok (.iadd, 1) := by decide +kernel
theorem dX6_findState_62 : decode cX6_findState 62 = .ok (.iastore, 1) := by decide +kernel
theorem dX6_findState_63 : decode cX6_findState 63 = .ok (.goto 52, 3) := by decide +kernel
theorem dX6_findState_66 : decode cX6_findState 66 = .ok (.aload_n 0, 1) := by decide +kernel
theorem dX6_findState_67 : decode cX6_findState 67 = .ok (.getfield 15, 3) := by decide +kernel
theorem dX6_findState_70 : decode cX6_findState 70 = .ok (.iload_n 3, 1) := by decide +kernel
theorem dX6_findState_71 : decode cX6_findState 71 = .ok (.aload_n 2, 1) := by decide +kernel
theorem dX6_findState_72 : decode cX6_findState 72 = .ok (.getfield 55, 3) := by decide +kernel
theorem dX6_findState_75 : decode cX6_findState 75 = .ok (.iload 5, 2) := by decide +kernel
theorem dX6_findState_77 : decode cX6_findState 77 = .ok (.iaload, 1) := by decide +kernel
theorem dX6_findState_78 : decode cX6_findState 78 = .ok (.sipush 360, 3) := by decide +kernel
theorem dX6_findState_81 : decode cX6_findState 81 = .ok (.idiv, 1) := by decide +kernel
theorem dX6_findState_82 : decode cX6_findState 82 = .ok (.aload_n 1, 1) := by decide +kernel
theorem dX6_findState_83 : decode cX6_findState 83 = .ok (.iload_n 3, 1) := by decide +kernel
theorem dX6_findState_84 : decode cX6_findState 84 = .ok (.invokevirtual 75, 3) := by decide +kernel
theorem dX6_findState_87 : decode cX6_findState 87 = .ok (.iadd, 1) := by decide +kernel
theorem dX6_findState_88 : decode cX6_findState 88 = .ok (.iastore, 1) := by decide +kernel
theorem dX6_findState_89 : decode cX6_findState 89 = .ok (.aload_n 0, 1) := by decide +kernel
theorem dX6_findState_90 : decode cX6_findState 90 = .ok (.getfield 9, 3) := by decide +kernel
theorem dX6_findState_93 : decode cX6_findState 93 = .ok (.iload_n 3, 1) := by decide +kernel
theorem dX6_findState_94 : decode cX6_findState 94 = .ok (.iload 4, 2) := by decide +kernel
theorem dX6_findState_96 : decode cX6_findState 96 = .ok (.sipush 360, 3) := by decide +kernel
theorem dX6_findState_99 : decode cX6_findState 99 = .ok (.idiv, 1) := by decide +kernel
theorem dX6_findState_100 : decode cX6_findState 100 = .ok (.aload_n 0, 1) := by decide +kernel
theorem dX6_findState_101 : decode cX6_findState 101 = .ok (.getfield 15, 3) := by decide +kernel
theorem dX6_findState_104 : decode cX6_findState 104 = .ok (.iload_n 3, 1) := by decide +kernel
theorem dX6_findState_105 : decode cX6_findState 105 = .ok (.iaload, 1) := by decide +kernel
theorem dX6_findState_106 : decode cX6_findState 106 = .ok (.if_icmp .ge 7, 3) := by decide +kernel
theorem dX6_findState_109 : decode cX6_findState 109 = .ok (.iconst 1, 1) := by decide +kernel
theorem dX6_findState_110 : decode cX6_findState 110 = .ok (.goto 4, 3) := by decide +kernel
theorem dX6_findState_113 : decode cX6_findState 113 = .ok (.iconst 2, 1) := by decide +kernel
theorem dX6_findState_114 : decode cX6_findState 114 = .ok (.iastore, 1) := by decide +kernel
theorem dX6_findState_115 : decode cX6_findState 115 = .ok (.return_, 1) := by decide +kernel
theorem dX6_take_0 : decode cX6_take 0 = .ok (.aload_n 0, 1) := by decide +kernel
theorem dX6_take_1 : decode cX6_take 1 = .ok (.aload_n 1, 1) := by decide +kernel
theorem dX6_take_2 : decode cX6_take 2 = .ok (.getfield 33, 3) := by decide +kernel
theorem dX6_take_5 : decode cX6_take 5 = .ok (.putfield 39, 3) := by decide +kernel
theorem dX6_take_8 : decode cX6_take 8 = .ok (.aload_n 0, 1) := by decide +kernel
theorem dX6_take_9 : decode cX6_take 9 = .ok (.getfield 21, 3) := by decide +kernel
theorem dX6_take_12 : decode cX6_take 12 = .ok (.iconst (-1), 1) := by decide +kernel
theorem dX6_take_13 : decode cX6_take 13 = .ok (.invokestatic 40, 3) := by decide +kernel
theorem dX6_take_16 : decode cX6_take 16 = .ok (.aload_n 0, 1) := by decide +kernel
theorem dX6_take_17 : decode cX6_take 17 = .ok (.getfield 24, 3) := by decide +kernel
theorem dX6_take_20 : decode cX6_take 20 = .ok (.iconst 0, 1) := by decide +kernel
theorem dX6_take_21 : decode cX6_take 21 = .ok (.invokestatic 40, 3) := by decide +kernel
theorem dX6_take_24 : decode cX6_take 24 = .ok (.aload_n 0, 1) := by decide +kernel
theorem dX6_take_25 : decode cX6_take 25 = .ok (.getfield 27, 3) := by decide +kernel
theorem dX6_take_28 : decode cX6_take 28 = .ok (.iconst 0, 1) := by decide +kernel
theorem dX6_take_29 : decode cX6_take 29 = .ok (.invokestatic 40, 3) := by decide +kernel
theorem dX6_take_32 : decode cX6_take 32 = .ok (.iconst 0, 1) := by decide +kernel
theorem dX6_take_33 : decode cX6_take 33 = .ok (.istore 4, 2) := by decide +kernel
theorem dX6_take_35 : decode cX6_take 35 = .ok (.iload 4, 2) := by decide +kernel
theorem dX6_take_37 : decode cX6_take 37 = .ok (.aload_n 2, 1) := by decide +kernel
theorem dX6_take_38 : decode cX6_take 38 = .ok (.getfield 46, 3) := by decide +kernel
theorem dX6_take_41 : decode cX6_take 41 = .ok (.if_icmp .ge 72, 3) := by decide +kernel
theorem dX6_take_44 : decode cX6_take 44 = .ok (.aload_n 2, 1) := by decide +kernel
theorem dX6_take_45 : decode cX6_take 45 = .ok (.iload 4, 2) := by decide +kernel
theorem dX6_take_47 : decode cX6_take 47 = .ok (.invokevirtual 51, 3) := by decide +kernel
theorem dX6_take_50 : decode cX6_take 50 = .ok (.ifCond .ne 57, 3) := by decide +kernel
theorem dX6_take_53 : decode cX6_take 53 = .ok (.aload_n 2, 1) := by decide +kernel
theorem dX6_take_54 : decode cX6_take 54 = .ok (.getfield 55, 3) := by decide +kernel
theorem dX6_take_57 : decode cX6_take 57 = .ok (.iload 4, 2) := by decide +kernel
theorem dX6_take_59 : decode cX6_take 59 = .ok (.iaload, 1) := by decide +kernel
theorem dX6_take_60 : decode cX6_take 60 = .ok (.iload_n 3, 1) := by decide +kernel
theorem dX6_take_61 : decode cX6_take 61 = .ok (.if_icmp .gt 46, 3) := by decide +kernel
theorem dX6_take_64 : decode cX6_take 64 = .ok (.aload_n 2, 1) := by decide +kernel
theorem dX6_take_65 : decode cX6_take 65 = .ok (.getfield 58, 3) := by decide +kernel
theorem dX6_take_68 : decode cX6_take 68 = .ok (.iload 4, 2) := by decide +kernel
theorem dX6_take_70 : decode cX6_take 70 = .ok (.iaload, 1) := by decide +kernel
theorem dX6_take_71 : decode cX6_take 71 = .ok (.istore 5, 2) := by decide +kernel
theorem dX6_take_73 : decode cX6_take 73 = .ok (.aload_n 0, 1) := by decide +kernel
theorem dX6_take_74 : decode cX6_take 74 = .ok (.getfield 21, 3) := by decide +kernel
theorem dX6_take_77 : decode cX6_take 77 = .ok (.iload 5, 2) := by decide +kernel
theorem dX6_take_79 : decode cX6_take 79 = .ok (.iload 4, 2) := by decide +kernel
theorem dX6_take_81 : decode cX6_take 81 = .ok (.iastore, 1) := by decide +kernel
theorem dX6_take_82 : decode cX6_take 82 = .ok (.aload_n 0, 1) := by decide +kernel
theorem dX6_take_83 : decode cX6_take 83 = .ok (.getfield 24, 3) := by decide +kernel
theorem dX6_take_86 : decode cX6_take 86 = .ok (.iload 5, 2) := by decide +kernel
theorem dX6_take_88 : decode cX6_take 88 = .ok (.dup2, 1) := by decide +kernel
theorem dX6_take_89 : decode cX6_take 89 = .ok (.iaload, 1) := by decide +kernel
theorem dX6_take_90 : decode cX6_take 90 = .ok (.aload_n 2, 1) := by decide +kernel
theorem dX6_take_91 : decode cX6_take 91 = .ok (.getfield 61, 3) := by decide +kernel
theorem dX6_take_94 : decode cX6_take 94 = .ok (.iload 4, 2) := by decide +kernel
theorem dX6_take_96 : decode cX6_take 96 = .ok (.iaload, 1) := by decide +kernel
theorem dX6_take_97 : decode cX6_take 97 = .ok (.ifCond .ne 7, 3) := by decide +kernel
theorem dX6_take_100 : decode cX6_take 100 = .ok (.iconst 0, 1) := by decide +kernel
theorem dX6_take_101 : decode cX6_take 101 = .ok (.goto 4, 3) := by decide +kernel
theorem dX6_take_104 : decode cX6_take 104 = .ok (.iconst 1, 1) := by decide +kernel
theorem dX6_take_105 : decode cX6_take 105 = .ok (.iadd, 1) := by decide +kernel
theorem dX6_take_106 : decode cX6_take 106 = .ok (.iastore, 1) := by decide +kernel
theorem dX6_take_107 : decode cX6_take 107 = .ok (.iinc 4 1, 3) := by decide +kernel
theorem dX6_take_110 : decode cX6_take 110 = .ok (.goto (-75), 3) := by decide +kernel
theorem dX6_take_113 : decode cX6_take 113 = .ok (.iconst 0, 1) := by decide +kernel
theorem dX6_take_114 : decode cX6_take 114 = .ok (.istore 4, 2) := by decide +kernel
theorem dX6_take_116 : decode cX6_take 116 = .ok (.iload 4, 2) := by decide +kernel
theorem dX6_take_118 : decode cX6_take 118 = .ok (.aload_n 0, 1) := by decide +kernel
theorem dX6_take_119 : decode cX6_take 119 = .ok (.getfield 39, 3) := by decide +kernel
theorem dX6_take_122 : decode cX6_take 122 = .ok (.if_icmp .ge 18, 3) := by decide +kernel
theorem dX6_take_125 : decode cX6_take 125 = .ok (.aload_n 0, 1) := by decide +kernel
theorem dX6_take_126 : decode cX6_take 126 = .ok (.aload_n 1, 1) := by decide +kernel
theorem dX6_take_127 : decode cX6_take 127 = .ok (.aload_n 2, 1) := by decide +kernel
theorem dX6_take_128 : decode cX6_take 128 = .ok (.iload 4, 2) := by decide +kernel
theorem dX6_take_130 : decode cX6_take 130 = .ok (.iload_n 3, 1) := by decide +kernel
theorem dX6_take_131 : decode cX6_take 131 = .ok (.invokevirtual 64, 3) := by decide +kernel
theorem dX6_take_134 : decode cX6_take 134 = .ok (.iinc 4 1, 3) := by decide +kernel
theorem dX6_take_137 : decode cX6_take 137 = .ok (.goto (-21), 3) := by decide +kernel
theorem dX6_take_140 : decode cX6_take 140 = .ok (.iconst 0, 1) := by decide +kernel
theorem dX6_take_141 : decode cX6_take 141 = .ok (.istore 4, 2) := by decide +kernel
theorem dX6_take_143 : decode cX6_take 143 = .ok (.iload 4, 2) := by decide +kernel
theorem dX6_take_145 : decode cX6_take 145 = .ok (.aload_n 0, 1) := by decide +kernel
theorem dX6_take_146 : decode cX6_take 146 = .ok (.getfield 39, 3) := by decide +kernel
theorem dX6_take_149 : decode cX6_take 149 = .ok (.if_icmp .ge 16, 3) := by decide +kernel
theorem dX6_take_152 : decode cX6_take 152 = .ok (.aload_n 0, 1) := by decide +kernel
theorem dX6_take_153 : decode cX6_take 153 = .ok (.aload_n 1, 1) := by decide +kernel
theorem dX6_take_154 : decode cX6_take 154 = .ok (.iload 4, 2) := by decide +kernel
theorem dX6_take_156 : decode cX6_take 156 = .ok (.invokevirtual 68, 3) := by decide +kernel
theorem dX6_take_159 : decode cX6_take 159 = .ok (.iinc 4 1, 3) := by decide +kernel
theorem dX6_take_162 : decode cX6_take 162 = .ok (.goto (-19), 3) := by decide +kernel
theorem dX6_take_165 : decode cX6_take 165 = .ok (.return_, 1) := by decide +kernel
theorem dX6_scalesIn_0 : decode cX6_scalesIn 0 = .ok (.iconst 0, 1) := by decide +kernel
theorem dX6_scalesIn_1 : decode cX6_scalesIn 1 = .ok (.istore_n 2, 1) := by decide +kernel
theorem dX6_scalesIn_2 : decode cX6_scalesIn 2 = .ok (.iconst 0, 1) := by decide +kernel
theorem dX6_scalesIn_3 : decode cX6_scalesIn 3 = .ok (.istore_n 3, 1) := by decide +kernel
theorem dX6_scalesIn_4 : decode cX6_scalesIn 4 = .ok (.iload_n 3, 1) := by decide +kernel
theorem dX6_scalesIn_5 : decode cX6_scalesIn 5 = .ok (.aload_n 0, 1) := by decide +kernel
theorem dX6_scalesIn_6 : decode cX6_scalesIn 6 = .ok (.getfield 39, 3) := by decide +kernel
theorem dX6_scalesIn_9 : decode cX6_scalesIn 9 = .ok (.if_icmp .ge 25, 3) := by decide +kernel
theorem dX6_scalesIn_12 : decode cX6_scalesIn 12 = .ok (.aload_n 0, 1) := by decide +kernel
theorem dX6_scalesIn_13 : decode cX6_scalesIn 13 = .ok (.getfield 9, 3) := by decide +kernel
theorem dX6_scalesIn_16 : decode cX6_scalesIn 16 = .ok (.iload_n 3, 1) := by decide +kernel
theorem dX6_scalesIn_17 : decode cX6_scalesIn 17 = .ok (.iaload, 1) := by decide +kernel
theorem dX6_scalesIn_18 : decode cX6_scalesIn 18 = .ok (.iload_n 1, 1) := by decide +kernel
theorem dX6_scalesIn_19 : decode cX6_scalesIn 19 = .ok (.if_icmp .ne 9, 3) := by decide +kernel
theorem dX6_scalesIn_22 : decode cX6_scalesIn 22 = .ok (.iload_n 2, 1) := by decide +kernel
theorem dX6_scalesIn_23 : decode cX6_scalesIn 23 = .ok (.iconst 1, 1) := by decide +kernel
theorem dX6_scalesIn_24 : decode cX6_scalesIn 24 = .ok (.iload_n 3, 1) := by decide +kernel
theorem dX6_scalesIn_25 : decode cX6_scalesIn 25 = .ok (.ishl, 1) := by decide +kernel
theorem dX6_scalesIn_26 : decode cX6_scalesIn 26 = .ok (.ior, 1) := by decide +kernel
theorem dX6_scalesIn_27 : decode cX6_scalesIn 27 = .ok (.istore_n 2, 1) := by decide +kernel
theorem dX6_scalesIn_28 : decode cX6_scalesIn 28 = .ok (.iinc 3 1, 3) := by decide +kernel
theorem dX6_scalesIn_31 : decode cX6_scalesIn 31 = .ok (.goto (-27), 3) := by decide +kernel
theorem dX6_scalesIn_34 : decode cX6_scalesIn 34 = .ok (.iload_n 2, 1) := by decide +kernel
theorem dX6_scalesIn_35 : decode cX6_scalesIn 35 = .ok (.ireturn, 1) := by decide +kernel
theorem dX6_traderAtMostRisk_0 : decode cX6_traderAtMostRisk 0 = .ok (.aload_n 0, 1) := by decide +kernel
theorem dX6_traderAtMostRisk_1 : decode cX6_traderAtMostRisk 1 = .ok (.getfield 30, 3) := by decide +kernel
theorem dX6_traderAtMostRisk_4 : decode cX6_traderAtMostRisk 4 = .ok (.iconst 0, 1) := by decide +kernel
theorem dX6_traderAtMostRisk_5 : decode cX6_traderAtMostRisk 5 = .ok (.invokestatic 40, 3) := by decide +kernel
theorem dX6_traderAtMostRisk_8 : decode cX6_traderAtMostRisk 8 = .ok (.iconst 0, 1) := by decide +kernel
theorem dX6_traderAtMostRisk_9 : decode cX6_traderAtMostRisk 9 = .ok (.istore_n 2, 1) := by decide +kernel
theorem dX6_traderAtMostRisk_10 : decode cX6_traderAtMostRisk 10 = .ok (.iload_n 2, 1) := by decide +kernel
theorem dX6_traderAtMostRisk_11 : decode cX6_traderAtMostRisk 11 = .ok (.aload_n 0, 1) := by decide +kernel
theorem dX6_traderAtMostRisk_12 : decode cX6_traderAtMostRisk 12 = .ok (.getfield 39, 3) := by decide +kernel
theorem dX6_traderAtMostRisk_15 : decode cX6_traderAtMostRisk 15 = .ok (.if_icmp .ge 29, 3) := by decide +kernel
theorem dX6_traderAtMostRisk_18 : decode cX6_traderAtMostRisk 18 = .ok (.aload_n 0, 1) := by decide +kernel
theorem dX6_traderAtMostRisk_19 : decode cX6_traderAtMostRisk 19 = .ok (.getfield 30, 3) := by decide +kernel
theorem dX6_traderAtMostRisk_22 : decode cX6_traderAtMostRisk 22 = .ok (.aload_n 1, 1) := by decide +kernel
theorem dX6_traderAtMostRisk_23 : decode cX6_traderAtMostRisk 23 = .ok (.getfield 72, 3) := by decide +kernel
theorem dX6_traderAtMostRisk_26 : decode cX6_traderAtMostRisk 26 = .ok (.iload_n 2, 1) := by decide +kernel
theorem dX6_traderAtMostRisk_27 : decode cX6_traderAtMostRisk 27 = .ok (.iaload, 1) := by decide +kernel
theorem dX6_traderAtMostRisk_28 : decode cX6_traderAtMostRisk 28 = .ok (.dup2, 1) := by decide +kernel
theorem dX6_traderAtMostRisk_29 : decode cX6_traderAtMostRisk 29 = .ok (.iaload, 1) := by decide +kernel
theorem dX6_traderAtMostRisk_30 : decode cX6_traderAtMostRisk 30 = .ok (.aload_n 0, 1) := by decide +kernel
theorem dX6_traderAtMostRisk_31 : decode cX6_traderAtMostRisk 31 = .ok (.getfield 18, 3) := by decide +kernel
theorem dX6_traderAtMostRisk_34 : decode cX6_traderAtMostRisk 34 = .ok (.iload_n 2, 1) := by decide +kernel
theorem dX6_traderAtMostRisk_35 : decode cX6_traderAtMostRisk 35 = .ok (.iaload, 1) := by decide +kernel
theorem dX6_traderAtMostRisk_36 : decode cX6_traderAtMostRisk 36 = .ok (.iadd, 1) := by decide +kernel
theorem dX6_traderAtMostRisk_37 : decode cX6_traderAtMostRisk 37 = .ok (.iastore, 1) := by decide +kernel
theorem dX6_traderAtMostRisk_38 : decode cX6_traderAtMostRisk 38 = .ok (.iinc 2 1, 3) := by decide +kernel
theorem dX6_traderAtMostRisk_41 : decode cX6_traderAtMostRisk 41 = .ok (.goto (-31), 3) := by decide +kernel
theorem dX6_traderAtMostRisk_44 : decode cX6_traderAtMostRisk 44 = .ok (.iconst 0, 1) := by decide +kernel
theorem dX6_traderAtMostRisk_45 : decode cX6_traderAtMostRisk 45 = .ok (.istore_n 2, 1) := by decide +kernel
theorem dX6_traderAtMostRisk_46 : decode cX6_traderAtMostRisk 46 = .ok (.iconst 1, 1) := by decide +kernel
theorem dX6_traderAtMostRisk_47 : decode cX6_traderAtMostRisk 47 = .ok (.istore_n 3, 1) := by decide +kernel
theorem dX6_traderAtMostRisk_48 : decode cX6_traderAtMostRisk 48 = .ok (.iload_n 3, 1) := by decide +kernel
theorem dX6_traderAtMostRisk_49 : decode cX6_traderAtMostRisk 49 = .ok (.aload_n 1, 1) := by decide +kernel
theorem dX6_traderAtMostRisk_50 : decode cX6_traderAtMostRisk 50 = .ok (.getfield 82, 3) := by decide +kernel
theorem dX6_traderAtMostRisk_53 : decode cX6_traderAtMostRisk 53 = .ok (.if_icmp .ge 26, 3) := by decide +kernel
theorem dX6_traderAtMostRisk_56 : decode cX6_traderAtMostRisk 56 = .ok (.aload_n 0, 1) := by decide +kernel
theorem dX6_traderAtMostRisk_57 : decode cX6_traderAtMostRisk 57 = .ok (.getfield 30, 3) := by decide +kernel
theorem dX6_traderAtMostRisk_60 : decode cX6_traderAtMostRisk 60 = .ok (.iload_n 3, 1) := by decide +kernel
theorem dX6_traderAtMostRisk_61 : decode cX6_traderAtMostRisk 61 = .ok (.iaload, 1) := by decide +kernel
theorem dX6_traderAtMostRisk_62 : decode cX6_traderAtMostRisk 62 = .ok (.aload_n 0, 1) := by decide +kernel
theorem dX6_traderAtMostRisk_63 : decode cX6_traderAtMostRisk 63 = .ok (.getfield 30, 3) := by decide +kernel
theorem dX6_traderAtMostRisk_66 : decode cX6_traderAtMostRisk 66 = .ok (.iload_n 2, 1) := by decide +kernel
theorem dX6_traderAtMostRisk_67 : decode cX6_traderAtMostRisk 67 = .ok (.iaload, 1) := by decide +kernel
theorem dX6_traderAtMostRisk_68 : decode cX6_traderAtMostRisk 68 = .ok (.if_icmp .le 5, 3) := by decide +kernel
theorem dX6_traderAtMostRisk_71 : decode cX6_traderAtMostRisk 71 = .ok (.iload_n 3, 1) := by decide +kernel
theorem dX6_traderAtMostRisk_72 : decode cX6_traderAtMostRisk 72 = .ok (.istore_n 2, 1) := by decide +kernel
theorem dX6_traderAtMostRisk_73 : decode cX6_traderAtMostRisk 73 = .ok (.iinc 3 1, 3) := by decide +kernel
theorem dX6_traderAtMostRisk_76 : decode cX6_traderAtMostRisk 76 = .ok (.goto (-28), 3) := by decide +kernel
theorem dX6_traderAtMostRisk_79 : decode cX6_traderAtMostRisk 79 = .ok (.iload_n 2, 1) := by decide +kernel
theorem dX6_traderAtMostRisk_80 : decode cX6_traderAtMostRisk 80 = .ok (.ireturn, 1) := by decide +kernel
theorem dX6_scaleAt_0 : decode cX6_scaleAt 0 = .ok (.iload_n 1, 1) := by decide +kernel
theorem dX6_scaleAt_1 : decode cX6_scaleAt 1 = .ok (.istore_n 3, 1) := by decide +kernel
theorem dX6_scaleAt_2 : decode cX6_scaleAt 2 = .ok (.iconst 0, 1) := by decide +kernel
theorem dX6_scaleAt_3 : decode cX6_scaleAt 3 = .ok (.istore 4, 2) := by decide +kernel
theorem dX6_scaleAt_5 : decode cX6_scaleAt 5 = .ok (.iload 4, 2) := by decide +kernel
theorem dX6_scaleAt_7 : decode cX6_scaleAt 7 = .ok (.aload_n 0, 1) := by decide +kernel
theorem dX6_scaleAt_8 : decode cX6_scaleAt 8 = .ok (.getfield 39, 3) := by decide +kernel
theorem dX6_scaleAt_11 : decode cX6_scaleAt 11 = .ok (.if_icmp .ge 42, 3) := by decide +kernel
theorem dX6_scaleAt_14 : decode cX6_scaleAt 14 = .ok (.iload_n 2, 1) := by decide +kernel
theorem dX6_scaleAt_15 : decode cX6_scaleAt 15 = .ok (.iload 4, 2) := by decide +kernel
theorem dX6_scaleAt_17 : decode cX6_scaleAt 17 = .ok (.ishr, 1) := by decide +kernel
theorem dX6_scaleAt_18 : decode cX6_scaleAt 18 = .ok (.iconst 1, 1) := by decide +kernel
theorem dX6_scaleAt_19 : decode cX6_scaleAt 19 = .ok (.iand, 1) := by decide +kernel
theorem dX6_scaleAt_20 : decode cX6_scaleAt 20 = .ok (.ifCond .ne 27, 3) := by decide +kernel
theorem dX6_scaleAt_23 : decode cX6_scaleAt 23 = .ok (.iload_n 3, 1) := by decide +kernel
theorem dX6_scaleAt_24 : decode cX6_scaleAt 24 = .ok (.aload_n 0, 1) := by decide +kernel
theorem dX6_scaleAt_25 : decode cX6_scaleAt 25 = .ok (.getfield 18, 3) := by decide +kernel
theorem dX6_scaleAt_28 : decode cX6_scaleAt 28 = .ok (.iload 4, 2) := by decide +kernel
theorem dX6_scaleAt_30 : decode cX6_scaleAt 30 = .ok (.iaload, 1) := by decide +kernel
theorem dX6_scaleAt_31 : decode cX6_scaleAt 31 = .ok (.if_icmp .ge 6, 3) := by decide +kernel
theorem dX6_scaleAt_34 : decode cX6_scaleAt 34 = .ok (.iload 4, 2) := by decide +kernel
theorem dX6_scaleAt_36 : decode cX6_scaleAt 36 = .ok (.ireturn, 1) := by decide +kernel
theorem dX6_scaleAt_37 : decode cX6_scaleAt 37 = .ok (.iload_n 3, 1) := by decide +kernel
theorem dX6_scaleAt_38 : decode cX6_scaleAt 38 = .ok (.aload_n 0, 1) := by decide +kernel
theorem dX6_scaleAt_39 : decode cX6_scaleAt 39 = .ok (.getfield 18, 3) := by decide +kernel
theorem dX6_scaleAt_42 : decode cX6_scaleAt 42 = .ok (.iload 4, 2) := by decide +kernel
theorem dX6_scaleAt_44 : decode cX6_scaleAt 44 = .ok (.iaload, 1) := by decide +kernel
theorem dX6_scaleAt_45 : decode cX6_scaleAt 45 = .ok (.isub, 1) := by decide +kernel
theorem dX6_scaleAt_46 : decode cX6_scaleAt 46 = .ok (.istore_n 3, 1) := by decide +kernel
theorem dX6_scaleAt_47 : decode cX6_scaleAt 47 = .ok (.iinc 4 1, 3) := by decide +kernel
theorem dX6_scaleAt_50 : decode cX6_scaleAt 50 = .ok (.goto (-45), 3) := by decide +kernel
theorem dX6_scaleAt_53 : decode cX6_scaleAt 53 = .ok (.bipush (-2), 2) := by decide +kernel
theorem dX6_scaleAt_55 : decode cX6_scaleAt 55 = .ok (.ireturn, 1) := by decide +kernel
theorem dX6_draw_0 : decode cX6_draw 0 = .ok (.iconst 0, 1) := by decide +kernel
theorem dX6_draw_1 : decode cX6_draw 1 = .ok (.istore_n 3, 1) := by decide +kernel
theorem dX6_draw_2 : decode cX6_draw 2 = .ok (.iconst 0, 1) := by decide +kernel
theorem dX6_draw_3 : decode cX6_draw 3 = .ok (.istore 4, 2) := by decide +kernel
theorem dX6_draw_5 : decode cX6_draw 5 = .ok (.iload 4, 2) := by decide +kernel
theorem dX6_draw_7 : decode cX6_draw 7 = .ok (.aload_n 0, 1) := by decide +kernel
theorem dX6_draw_8 : decode cX6_draw 8 = .ok (.getfield 39, 3) := by decide +kernel
theorem dX6_draw_11 : decode cX6_draw 11 = .ok (.if_icmp .ge 19, 3) := by decide +kernel
theorem dX6_draw_14 : decode cX6_draw 14 = .ok (.iload_n 3, 1) := by decide +kernel
theorem dX6_draw_15 : decode cX6_draw 15 = .ok (.aload_n 0, 1) := by decide +kernel
theorem dX6_draw_16 : decode cX6_draw 16 = .ok (.getfield 18, 3) := by decide +kernel
theorem dX6_draw_19 : decode cX6_draw 19 = .ok (.iload 4, 2) := by decide +kernel
theorem dX6_draw_21 : decode cX6_draw 21 = .ok (.iaload, 1) := by decide +kernel
theorem dX6_draw_22 : decode cX6_draw 22 = .ok (.iadd, 1) := by decide +kernel
theorem dX6_draw_23 : decode cX6_draw 23 = .ok (.istore_n 3, 1) := by decide +kernel
theorem dX6_draw_24 : decode cX6_draw 24 = .ok (.iinc 4 1, 3) := by decide +kernel
theorem dX6_draw_27 : decode cX6_draw 27 = .ok (.goto (-22), 3) := by decide +kernel
theorem dX6_draw_30 : decode cX6_draw 30 = .ok (.iload_n 1, 1) := by decide +kernel
theorem dX6_draw_31 : decode cX6_draw 31 = .ok (.i2l, 1) := by decide +kernel
theorem dX6_draw_32 : decode cX6_draw 32 = .ok (.lstore 4, 2) := by decide +kernel
theorem dX6_draw_34 : decode cX6_draw 34 = .ok (.iconst 0, 1) := by decide +kernel
theorem dX6_draw_35 : decode cX6_draw 35 = .ok (.istore 6, 2) := by decide +kernel
theorem dX6_draw_37 : decode cX6_draw 37 = .ok (.bipush (-2), 2) := by decide +kernel
theorem dX6_draw_39 : decode cX6_draw 39 = .ok (.istore 7, 2) := by decide +kernel
theorem dX6_draw_41 : decode cX6_draw 41 = .ok (.iconst 0, 1) := by decide +kernel
theorem dX6_draw_42 : decode cX6_draw 42 = .ok (.istore 8, 2) := by decide +kernel
theorem dX6_draw_44 : decode cX6_draw 44 = .ok (.iload 8, 2) := by decide +kernel
theorem dX6_draw_46 : decode cX6_draw 46 = .ok (.iload_n 2, 1) := by decide +kernel
theorem dX6_draw_47 : decode cX6_draw 47 = .ok (.if_icmp .gt 76, 3) := by decide +kernel
theorem dX6_draw_50 : decode cX6_draw 50 = .ok (.iload_n 3, 1) := by decide +kernel
theorem dX6_draw_51 : decode cX6_draw 51 = .ok (.ifCond .le 72, 3) := by decide +kernel
theorem dX6_draw_54 : decode cX6_draw 54 = .ok (.lload 4, 2) := by decide +kernel
theorem dX6_draw_56 : decode cX6_draw 56 = .ok (.ldc2_w 85, 3) := by decide +kernel
theorem dX6_draw_59 : decode cX6_draw 59 = .ok (.lmul, 1) := by decide +kernel
theorem dX6_draw_60 : decode cX6_draw 60 = .ok (.ldc2_w 87, 3) := by decide +kernel
theorem dX6_draw_63 : decode cX6_draw 63 = .ok (.ladd, 1) := by decide +kernel
theorem dX6_draw_64 : decode cX6_draw 64 = .ok (.ldc2_w 89, 3) := by decide +kernel
theorem dX6_draw_67 : decode cX6_draw 67 = .ok (.lrem, 1) := by decide +kernel
theorem dX6_draw_68 : decode cX6_draw 68 = .ok (.lstore 4, 2) := by decide +kernel
theorem dX6_draw_70 : decode cX6_draw 70 = .ok (.aload_n 0, 1) := by decide +kernel
theorem dX6_draw_71 : decode cX6_draw 71 = .ok (.lload 4, 2) := by decide +kernel
theorem dX6_draw_73 : decode cX6_draw 73 = .ok (.ldc2_w 91, 3) := by decide +kernel
theorem dX6_draw_76 : decode cX6_draw 76 = .ok (.ldiv, 1) := by decide +kernel
theorem dX6_draw_77 : decode cX6_draw 77 = .ok (.iload_n 3, 1) := by decide +kernel
theorem dX6_draw_78 : decode cX6_draw 78 = .ok (.i2l, 1) := by decide +kernel
theorem dX6_draw_79 : decode cX6_draw 79 = .ok (.lrem, 1) := by decide +kernel
theorem dX6_draw_80 : decode cX6_draw 80 = .ok (.l2i, 1) := by decide +kernel
theorem dX6_draw_81 : decode cX6_draw 81 = .ok (.iload 6, 2) := by decide +kernel
theorem dX6_draw_83 : decode cX6_draw 83 = .ok (.invokevirtual 93, 3) := by decide +kernel
theorem dX6_draw_86 : decode cX6_draw 86 = .ok (.istore 7, 2) := by decide +kernel
theorem dX6_draw_88 : decode cX6_draw 88 = .ok (.iload 7, 2) := by decide +kernel
theorem dX6_draw_90 : decode cX6_draw 90 = .ok (.bipush (-2), 2) := by decide +kernel
theorem dX6_draw_92 : decode cX6_draw 92 = .ok (.if_icmp .ne 6, 3) := by decide +kernel
theorem dX6_draw_95 : decode cX6_draw 95 = .ok (.bipush (-2), 2) := by decide +kernel
theorem dX6_draw_97 : decode cX6_draw 97 = .ok (.ireturn, 1) := by decide +kernel
theorem dX6_draw_98 : decode cX6_draw 98 = .ok (.iload 6, 2) := by decide +kernel
theorem dX6_draw_100 : decode cX6_draw 100 = .ok (.iconst 1, 1) := by decide +kernel
theorem dX6_draw_101 : decode cX6_draw 101 = .ok (.iload 7, 2) := by decide +kernel
theorem dX6_draw_103 : decode cX6_draw 103 = .ok (.ishl, 1) := by decide +kernel
theorem dX6_draw_104 : decode cX6_draw 104 = .ok (.ior, 1) := by decide +kernel
theorem dX6_draw_105 : decode cX6_draw 105 = .ok (.istore 6, 2) := by decide +kernel
theorem dX6_draw_107 : decode cX6_draw 107 = .ok (.iload_n 3, 1) := by decide +kernel
theorem dX6_draw_108 : decode cX6_draw 108 = .ok (.aload_n 0, 1) := by decide +kernel
theorem dX6_draw_109 : decode cX6_draw 109 = .ok (.getfield 18, 3) := by decide +kernel
theorem dX6_draw_112 : decode cX6_draw 112 = .ok (.iload 7, 2) := by decide +kernel
theorem dX6_draw_114 : decode cX6_draw 114 = .ok (.iaload, 1) := by decide +kernel
theorem dX6_draw_115 : decode cX6_draw 115 = .ok (.isub, 1) := by decide +kernel
theorem dX6_draw_116 : decode cX6_draw 116 = .ok (.istore_n 3, 1) := by decide +kernel
theorem dX6_draw_117 : decode cX6_draw 117 = .ok (.iinc 8 1, 3) := by decide +kernel
theorem dX6_draw_120 : decode cX6_draw 120 = .ok (.goto (-76), 3) := by decide +kernel
theorem dX6_draw_123 : decode cX6_draw 123 = .ok (.iload 7, 2) := by decide +kernel
theorem dX6_draw_125 : decode cX6_draw 125 = .ok (.ireturn, 1) := by decide +kernel
def f_X6_baseRisk (F : Nat) (x0 : Int32) (S : si_St) : Option (Int32 × si_St) :=
  if x0 = 0 then (some (4, S)) else (if x0 = 1 then (some (1, S)) else (if x0 = 2 then (some (3, S)) else (some (6, S))))
def f_X6_findRisk_h28 (F : Nat) (k1 : Nat) (x2 : Int32) (x3 : Int32) (t0 : Int32) (t1 : Int32) (S : si_St) : Option (si_St) :=
  Option.bind (some (t1 - t0)) fun v1 => Option.bind (f_X6_baseRisk F x3 S) fun q2 => Option.bind (si_rd q2.2 62 x2) fun v3 => Option.bind (si_wr q2.2 60 x2 ((q2.1 + v3) + v1)) fun S4 => some S4
def f_X6_findRisk (F : Nat) (k1 : Nat) (x2 : Int32) (S : si_St) : Option (si_St) :=
  Option.bind (si_rd S 58 x2) fun v5 => Option.bind (si_rd S (k1 + 1) x2) fun v6 => Option.bind (si_rd S 63 v6) fun v7 => if v5 = 3 then (f_X6_findRisk_h28 F k1 x2 v5 1 v7 S) else (f_X6_findRisk_h28 F k1 x2 v5 0 v7 S)
def f_X6_findState_h115 (F : Nat) (k1 : Nat) (S : si_St) : Option (si_St) :=
  some S
def f_X6_findState_h114 (F : Nat) (k1 : Nat) (t0 : Int32) (t1 : Int32) (S : si_St) : Option (si_St) :=
  Option.bind (si_wr S 58 t1 t0) fun S1 => f_X6_findState_h115 F k1 S1
def f_X6_findState (F : Nat) (k1 : Nat) (x3 : Int32) (x4 : Int32) (S : si_St) : Option (si_St) :=
  Option.bind (si_rd S 61 x3) fun v2 => Option.bind (si_wr S 59 x3 0) fun S3 => if v2 = (-1) then (Option.bind (si_wr S3 58 x3 0) fun S13 => f_X6_findState_h115 F k1 S13) else (Option.bind (si_rd S3 11 v2) fun v4 => if v4 = 0 then (Option.bind (si_rd S3 9 v2) fun v5 => Option.bind (f_X2_termOfScale F k1 x3 S3) fun q6 => Option.bind (si_wr q6.2 59 x3 ((v5 / 360) + q6.1)) fun S7 => Option.bind (si_rd S7 59 x3) fun v8 => if v8 ≤ (x4 / 360) then (f_X6_findState_h114 F k1 2 x3 S7) else (f_X6_findState_h114 F k1 1 x3 S7)) else (Option.bind (si_wr S3 58 x3 3) fun S9 => Option.bind (si_rd S9 (k1 + 1) x3) fun v10 => Option.bind (si_rd S9 63 v10) fun v11 => Option.bind (si_wr S9 63 v10 (v11 + 1)) fun S12 => f_X6_findState_h115 F k1 S12))
def f_X6_take_h143 (F : Nat) (k1 : Nat) (r143 : Int32 → si_St → Option (si_St)) (x4 : Int32) (S : si_St) : Option (si_St) :=
  if (S.1 57 7) ≤ x4 then (some S) else (Option.bind (f_X6_findRisk F k1 x4 S) fun S1 => Option.bind (some (x4 + 1)) fun v2 => r143 v2 S1)
def f_X6_take_l143 (F : Nat) (k1 : Nat) : Nat → Int32 → si_St → Option (si_St)
 | 0 => fun _ _ => none
 | n + 1 => fun x4 S => f_X6_take_h143 F k1 (f_X6_take_l143 F k1 n) x4 S
def f_X6_take_h116 (F : Nat) (k1 : Nat) (r116 : Int32 → Int32 → si_St → Option (si_St)) (x3 : Int32) (x4 : Int32) (S : si_St) : Option (si_St) :=
  if (S.1 57 7) ≤ x4 then (f_X6_take_l143 F k1 F 0 S) else (Option.bind (f_X6_findState F k1 x4 x3 S) fun S3 => Option.bind (some (x4 + 1)) fun v4 => r116 x3 v4 S3)
def f_X6_take_l116 (F : Nat) (k1 : Nat) : Nat → Int32 → Int32 → si_St → Option (si_St)
 | 0 => fun _ _ _ => none
 | n + 1 => fun x3 x4 S => f_X6_take_h116 F k1 (f_X6_take_l116 F k1 n) x3 x4 S
def f_X6_take_h107 (F : Nat) (k1 : Nat) (r35 : Int32 → Int32 → si_St → Option (si_St)) (x3 : Int32) (x4 : Int32) (S : si_St) : Option (si_St) :=
  Option.bind (some (x4 + 1)) fun v5 => r35 x3 v5 S
def f_X6_take_h105 (F : Nat) (k1 : Nat) (r35 : Int32 → Int32 → si_St → Option (si_St)) (x3 : Int32) (x4 : Int32) (t0 : Int32) (t1 : Int32) (t2 : Int32) (S : si_St) : Option (si_St) :=
  Option.bind (si_wr S 62 t2 (t1 + t0)) fun S6 => f_X6_take_h107 F k1 r35 x3 x4 S6
def f_X6_take_h35 (F : Nat) (k1 : Nat) (r35 : Int32 → Int32 → si_St → Option (si_St)) (x3 : Int32) (x4 : Int32) (S : si_St) : Option (si_St) :=
  if (S.1 7 0) ≤ x4 then (f_X6_take_l116 F k1 F x3 0 S) else (Option.bind (f_X7_isOpen F x4 S) fun q7 => if q7.1 = 0 then (Option.bind (si_rd q7.2 9 x4) fun v8 => if x3 < v8 then (f_X6_take_h107 F k1 r35 x3 x4 q7.2) else (Option.bind (si_rd q7.2 8 x4) fun v9 => Option.bind (si_wr q7.2 61 v9 x4) fun S10 => Option.bind (si_rd S10 62 v9) fun v11 => Option.bind (si_rd S10 11 x4) fun v12 => if v12 = 0 then (f_X6_take_h105 F k1 r35 x3 x4 0 v11 v9 S10) else (f_X6_take_h105 F k1 r35 x3 x4 1 v11 v9 S10))) else (f_X6_take_h107 F k1 r35 x3 x4 q7.2))
def f_X6_take_l35 (F : Nat) (k1 : Nat) : Nat → Int32 → Int32 → si_St → Option (si_St)
 | 0 => fun _ _ _ => none
 | n + 1 => fun x3 x4 S => f_X6_take_h35 F k1 (f_X6_take_l35 F k1 n) x3 x4 S
def f_X6_take (F : Nat) (k1 : Nat) (x3 : Int32) (S : si_St) : Option (si_St) :=
  Option.bind (si_pt S 57 7 (S.1 k1 1)) fun S13 => Option.bind (f_J7_fill_53178 F 61 (-1) S13) fun S14 => Option.bind (f_J7_fill_53178 F 62 0 S14) fun S15 => Option.bind (f_J7_fill_53178 F 63 0 S15) fun S16 => f_X6_take_l35 F k1 F x3 0 S16
def f_X6_scalesIn_h28 (F : Nat) (r4 : Int32 → Int32 → Int32 → si_St → Option (Int32 × si_St)) (x1 : Int32) (x2 : Int32) (x3 : Int32) (S : si_St) : Option (Int32 × si_St) :=
  Option.bind (some (x3 + 1)) fun v1 => r4 x1 x2 v1 S
def f_X6_scalesIn_h4 (F : Nat) (r4 : Int32 → Int32 → Int32 → si_St → Option (Int32 × si_St)) (x1 : Int32) (x2 : Int32) (x3 : Int32) (S : si_St) : Option (Int32 × si_St) :=
  if (S.1 57 7) ≤ x3 then (some (x2, S)) else (Option.bind (si_rd S 58 x3) fun v2 => if v2 = x1 then (Option.bind (some (x2 ||| (1 <<< (x3 &&& 31)))) fun v3 => f_X6_scalesIn_h28 F r4 x1 v3 x3 S) else (f_X6_scalesIn_h28 F r4 x1 x2 x3 S))
def f_X6_scalesIn_l4 (F : Nat) : Nat → Int32 → Int32 → Int32 → si_St → Option (Int32 × si_St)
 | 0 => fun _ _ _ _ => none
 | n + 1 => fun x1 x2 x3 S => f_X6_scalesIn_h4 F (f_X6_scalesIn_l4 F n) x1 x2 x3 S
def f_X6_scalesIn (F : Nat) (x1 : Int32) (S : si_St) : Option (Int32 × si_St) :=
  f_X6_scalesIn_l4 F F x1 0 0 S
def f_X6_traderAtMostRisk_h73 (F : Nat) (k1 : Nat) (r48 : Int32 → Int32 → si_St → Option (Int32 × si_St)) (x2 : Int32) (x3 : Int32) (S : si_St) : Option (Int32 × si_St) :=
  Option.bind (some (x3 + 1)) fun v1 => r48 x2 v1 S
def f_X6_traderAtMostRisk_h48 (F : Nat) (k1 : Nat) (r48 : Int32 → Int32 → si_St → Option (Int32 × si_St)) (x2 : Int32) (x3 : Int32) (S : si_St) : Option (Int32 × si_St) :=
  if (S.1 k1 0) ≤ x3 then (some (x2, S)) else (Option.bind (si_rd S 64 x3) fun v2 => Option.bind (si_rd S 64 x2) fun v3 => if v2 ≤ v3 then (f_X6_traderAtMostRisk_h73 F k1 r48 x2 x3 S) else (f_X6_traderAtMostRisk_h73 F k1 r48 x3 x3 S))
def f_X6_traderAtMostRisk_l48 (F : Nat) (k1 : Nat) : Nat → Int32 → Int32 → si_St → Option (Int32 × si_St)
 | 0 => fun _ _ _ => none
 | n + 1 => fun x2 x3 S => f_X6_traderAtMostRisk_h48 F k1 (f_X6_traderAtMostRisk_l48 F k1 n) x2 x3 S
def f_X6_traderAtMostRisk_h10 (F : Nat) (k1 : Nat) (r10 : Int32 → si_St → Option (Int32 × si_St)) (x2 : Int32) (S : si_St) : Option (Int32 × si_St) :=
  if (S.1 57 7) ≤ x2 then (f_X6_traderAtMostRisk_l48 F k1 F 0 1 S) else (Option.bind (si_rd S (k1 + 1) x2) fun v4 => Option.bind (si_rd S 64 v4) fun v5 => Option.bind (si_rd S 60 x2) fun v6 => Option.bind (si_wr S 64 v4 (v5 + v6)) fun S7 => Option.bind (some (x2 + 1)) fun v8 => r10 v8 S7)
def f_X6_traderAtMostRisk_l10 (F : Nat) (k1 : Nat) : Nat → Int32 → si_St → Option (Int32 × si_St)
 | 0 => fun _ _ => none
 | n + 1 => fun x2 S => f_X6_traderAtMostRisk_h10 F k1 (f_X6_traderAtMostRisk_l10 F k1 n) x2 S
def f_X6_traderAtMostRisk (F : Nat) (k1 : Nat) (S : si_St) : Option (Int32 × si_St) :=
  Option.bind (f_J7_fill_53178 F 64 0 S) fun S9 => f_X6_traderAtMostRisk_l10 F k1 F 0 S9
def f_X6_scaleAt_h47 (F : Nat) (r5 : Int32 → Int32 → Int32 → si_St → Option (Int32 × si_St)) (x2 : Int32) (x3 : Int32) (x4 : Int32) (S : si_St) : Option (Int32 × si_St) :=
  Option.bind (some (x4 + 1)) fun v1 => r5 x2 x3 v1 S
def f_X6_scaleAt_h5 (F : Nat) (r5 : Int32 → Int32 → Int32 → si_St → Option (Int32 × si_St)) (x2 : Int32) (x3 : Int32) (x4 : Int32) (S : si_St) : Option (Int32 × si_St) :=
  if (S.1 57 7) ≤ x4 then (some ((-2), S)) else (if ((x2 >>> (x4 &&& 31)) &&& 1) = 0 then (Option.bind (si_rd S 60 x4) fun v2 => if v2 ≤ x3 then (Option.bind (si_rd S 60 x4) fun v3 => Option.bind (some (x3 - v3)) fun v4 => f_X6_scaleAt_h47 F r5 x2 v4 x4 S) else (some (x4, S))) else (f_X6_scaleAt_h47 F r5 x2 x3 x4 S))
def f_X6_scaleAt_l5 (F : Nat) : Nat → Int32 → Int32 → Int32 → si_St → Option (Int32 × si_St)
 | 0 => fun _ _ _ _ => none
 | n + 1 => fun x2 x3 x4 S => f_X6_scaleAt_h5 F (f_X6_scaleAt_l5 F n) x2 x3 x4 S
def f_X6_scaleAt (F : Nat) (x1 : Int32) (x2 : Int32) (S : si_St) : Option (Int32 × si_St) :=
  f_X6_scaleAt_l5 F F x2 x1 0 S
def f_X6_draw_h123 (F : Nat) (x7 : Int32) (S : si_St) : Option (Int32 × si_St) :=
  some (x7, S)
def f_X6_draw_h44 (F : Nat) (r44 : Int32 → Int32 → Int64 → Int32 → Int32 → Int32 → si_St → Option (Int32 × si_St)) (x2 : Int32) (x3 : Int32) (x4 : Int64) (x6 : Int32) (x7 : Int32) (x8 : Int32) (S : si_St) : Option (Int32 × si_St) :=
  if x2 < x8 then (f_X6_draw_h123 F x7 S) else (if x3 ≤ 0 then (f_X6_draw_h123 F x7 S) else (Option.bind (some (((x4 * (1103515245 : Int64)) + (12345 : Int64)) - ((x4 * (1103515245 : Int64)) + (12345 : Int64)) / (2147483648 : Int64) * (2147483648 : Int64))) fun v1 => if (Int32.toInt64 x3) = 0 then none else Option.bind (f_X6_scaleAt F (Int64.toInt32 ((v1 / (65536 : Int64)) - (v1 / (65536 : Int64)) / (Int32.toInt64 x3) * (Int32.toInt64 x3))) x6 S) fun q3 => if q3.1 = (-2) then (some ((-2), q3.2)) else (Option.bind (some (x6 ||| (1 <<< (q3.1 &&& 31)))) fun v4 => Option.bind (si_rd q3.2 60 q3.1) fun v5 => Option.bind (some (x3 - v5)) fun v6 => Option.bind (some (x8 + 1)) fun v7 => r44 x2 v6 v1 v4 q3.1 v7 q3.2)))
def f_X6_draw_l44 (F : Nat) : Nat → Int32 → Int32 → Int64 → Int32 → Int32 → Int32 → si_St → Option (Int32 × si_St)
 | 0 => fun _ _ _ _ _ _ _ => none
 | n + 1 => fun x2 x3 x4 x6 x7 x8 S => f_X6_draw_h44 F (f_X6_draw_l44 F n) x2 x3 x4 x6 x7 x8 S
def f_X6_draw_h5 (F : Nat) (r5 : Int32 → Int32 → Int32 → Int32 → si_St → Option (Int32 × si_St)) (x1 : Int32) (x2 : Int32) (x3 : Int32) (x4 : Int32) (S : si_St) : Option (Int32 × si_St) :=
  if (S.1 57 7) ≤ x4 then (Option.bind (some (Int32.toInt64 x1)) fun v8 => f_X6_draw_l44 F F x2 x3 v8 0 (-2) 0 S) else (Option.bind (si_rd S 60 x4) fun v9 => Option.bind (some (x3 + v9)) fun v10 => Option.bind (some (x4 + 1)) fun v11 => r5 x1 x2 v10 v11 S)
def f_X6_draw_l5 (F : Nat) : Nat → Int32 → Int32 → Int32 → Int32 → si_St → Option (Int32 × si_St)
 | 0 => fun _ _ _ _ _ => none
 | n + 1 => fun x1 x2 x3 x4 S => f_X6_draw_h5 F (f_X6_draw_l5 F n) x1 x2 x3 x4 S
def f_X6_draw (F : Nat) (x1 : Int32) (x2 : Int32) (S : si_St) : Option (Int32 × si_St) :=
  f_X6_draw_l5 F F x1 x2 0 0 S
abbrev rm_X6_baseRisk : Room := { frames := 0, cells := 0, slots := 0, locals := 0 }
set_option maxHeartbeats 4000000 in
set_option maxRecDepth 100000 in
theorem c_X6_baseRisk (l : Launch) (E : si_Ev) (F : Nat) (x0 : Int32) (S : si_St) (o : Int32 × si_St) (hf : f_X6_baseRisk F x0 S = some o) : si_Mi l E yX6_baseRisk cX6_baseRisk 1 (some .int) rm_X6_baseRisk [.int x0] S o := by
  refine si_ofWi (plainFor_of_name (by decide +kernel)) (Nat.le_of_ble_eq_true rfl) ?_
  intro p e s m args below meth c ls Q A X hw hA hl hret
  have hl : lv_has ls 1 [(0, .int x0)] := hl
  unfold f_X6_baseRisk at hf
  refine lv_iload_n X.1 X.2.1 dX6_baseRisk_0 rfl (lv_at hl 0 rfl) ?_
  rcases Decidable.em (x0 = 0) with c1_0 | c1_0
  · have hf := si_ip c1_0 hf
    refine lv_tableIn (tgt := 28) X.1 X.2.1 dX6_baseRisk_1 (by rw [c1_0]; decide) (by rw [c1_0]; decide) (off := 27) (by rw [c1_0]; rfl) (by decide) ?_
    refine lv_iconst (v := 4) X.1 X.2.1 dX6_baseRisk_28 (by decide) ?_
    exact hret _ _ _ _ _ _ hf hw dX6_baseRisk_29
  · have hf := si_in c1_0 hf
    rcases Decidable.em (x0 = 1) with c1_1 | c1_1
    · have hf := si_ip c1_1 hf
      refine lv_tableIn (tgt := 30) X.1 X.2.1 dX6_baseRisk_1 (by rw [c1_1]; decide) (by rw [c1_1]; decide) (off := 29) (by rw [c1_1]; rfl) (by decide) ?_
      refine lv_iconst (v := 1) X.1 X.2.1 dX6_baseRisk_30 (by decide) ?_
      exact hret _ _ _ _ _ _ hf hw dX6_baseRisk_31
    · have hf := si_in c1_1 hf
      rcases Decidable.em (x0 = 2) with c1_2 | c1_2
      · have hf := si_ip c1_2 hf
        refine lv_tableIn (tgt := 32) X.1 X.2.1 dX6_baseRisk_1 (by rw [c1_2]; decide) (by rw [c1_2]; decide) (off := 31) (by rw [c1_2]; rfl) (by decide) ?_
        refine lv_iconst (v := 3) X.1 X.2.1 dX6_baseRisk_32 (by decide) ?_
        exact hret _ _ _ _ _ _ hf hw dX6_baseRisk_33
      · have hf := si_in c1_2 hf
        have n0 : ¬ (x0).toInt = 0 := si_toInt_ne c1_0
        have n1 : ¬ (x0).toInt = 1 := si_toInt_ne c1_1
        have n2 : ¬ (x0).toInt = 2 := si_toInt_ne c1_2
        refine lv_tableOut (tgt := 34) X.1 X.2.1 dX6_baseRisk_1 (by omega) (by decide) ?_
        refine lv_bipush (v := 6) X.1 X.2.1 dX6_baseRisk_34 (by decide) ?_
        exact hret _ _ _ _ _ _ hf hw dX6_baseRisk_36
abbrev rm_X6_findRisk : Room := { frames := 1, cells := 0, slots := 0, locals := 20 }
set_option maxHeartbeats 4000000 in
set_option maxRecDepth 100000 in
theorem c_X6_findRisk (l : Launch) (E : si_Ev) (F : Nat) (k1 : Nat) (hk1 : si_kd k1 = 2) (x2 : Int32) (S : si_St) (o : si_St) (hf : f_X6_findRisk F k1 x2 S = some o) : si_Mv l E yX6_findRisk cX6_findRisk 5 rm_X6_findRisk [.ref (E.2.1 57), .ref (E.2.1 k1), .int x2] S o := by
  refine si_ofWv (plainFor_of_name (by decide +kernel)) (Nat.le_of_ble_eq_true rfl) ?_
  intro p e s m args below meth c ls Q A X hw hA hl hret
  have hl : lv_has ls 5 [(0, .ref (E.2.1 57)), (1, .ref (E.2.1 k1)), (2, .int x2)] := hl
  have B28 : ∀ (x2 : Int32) (x3 : Int32) (t0 : Int32) (t1 : Int32) (S : si_St) (H : Heap) (locs : List Loc) (ls : Array Slot) , f_X6_findRisk_h28 F k1 x2 x3 t0 t1 S = some o → si_Ws E A s.heap S H locs → lv_has ls 5 [(0, .ref (E.2.1 57)), (2, .int x2), (3, .int x3)] → W p l e rm_X6_findRisk s m args below meth c H locs 0 0 Q (F0 m 28 ls [.int t0, .int t1]) := by
    intro x2 x3 t0 t1  S H locs ls  hf hw hl
    unfold f_X6_findRisk_h28 at hf
    refine lv_isub X.1 X.2.1 dX6_findRisk_28 ?_
    obtain ⟨v1, ev1, hf⟩ := si_ob hf
    refine si_nmI ev1 ?_
    refine lv_istore (lv' := [(4, .int v1), (0, .ref (E.2.1 57)), (2, .int x2), (3, .int x3)]) X.1 X.2.1 dX6_findRisk_29 hl (by decide) rfl (fun ls hl => ?_)
    refine lv_aload_n X.1 X.2.1 dX6_findRisk_31 rfl (lv_at hl 1 rfl) ?_
    refine si_getR (k' := 60) (d := 3) X hw si_cl6 2 (by decide) gf_RX6_18 rfl rfl rfl (by decide) rfl dX6_findRisk_32 ?_
    refine lv_iload_n X.1 X.2.1 dX6_findRisk_35 rfl (lv_at hl 2 rfl) ?_
    refine lv_iload_n X.1 X.2.1 dX6_findRisk_36 rfl (lv_at hl 3 rfl) ?_
    obtain ⟨q2, eq2, hf⟩ := si_ob hf
    refine si_cSi [.int x3] cal_X6_baseRisk gm_RX6_79 X hw hA hl.1 (c_X6_baseRisk l E F x3 S q2 eq2) ⟨⟨rfl, rfl⟩, Nat.le_of_ble_eq_true rfl, Nat.le_of_ble_eq_true rfl⟩ rfl rfl (Nat.le_of_ble_eq_true rfl) ⟨Nat.zero_le _, Nat.zero_le _⟩ dX6_findRisk_37 (fun H locs hw => ?_)
    refine lv_aload_n X.1 X.2.1 dX6_findRisk_40 rfl (lv_at hl 1 rfl) ?_
    refine si_getR (k' := 62) (d := 5) X hw si_cl6 4 (by decide) gf_RX6_24 rfl rfl rfl (by decide) rfl dX6_findRisk_41 ?_
    refine lv_iload_n X.1 X.2.1 dX6_findRisk_44 rfl (lv_at hl 2 rfl) ?_
    obtain ⟨v3, ev3, hf⟩ := si_ob hf
    refine si_iald X hw rfl ev3 dX6_findRisk_45 ?_
    refine lv_iadd X.1 X.2.1 dX6_findRisk_46 ?_
    refine lv_iload X.1 X.2.1 dX6_findRisk_47 (lv_at hl 0 rfl) ?_
    refine lv_iadd X.1 X.2.1 dX6_findRisk_49 ?_
    obtain ⟨S4, eS4, hf⟩ := si_ob hf
    refine si_iast X hw rfl eS4 dX6_findRisk_50 (fun H locs hw => ?_)
    exact hret _ _ _ _ _ hf hw dX6_findRisk_51
  unfold f_X6_findRisk at hf
  refine lv_aload_n X.1 X.2.1 dX6_findRisk_0 rfl (lv_at hl 0 rfl) ?_
  refine si_getR (k' := 58) (d := 1) X hw si_cl6 0 (by decide) gf_RX6_9 rfl rfl rfl (by decide) rfl dX6_findRisk_1 ?_
  refine lv_iload_n X.1 X.2.1 dX6_findRisk_4 rfl (lv_at hl 2 rfl) ?_
  obtain ⟨v5, ev5, hf⟩ := si_ob hf
  refine si_iald X hw rfl ev5 dX6_findRisk_5 ?_
  refine lv_istore_n (lv' := [(3, .int v5), (0, .ref (E.2.1 57)), (1, .ref (E.2.1 k1)), (2, .int x2)]) X.1 X.2.1 dX6_findRisk_6 rfl hl (by decide) rfl (fun ls hl => ?_)
  refine lv_aload_n X.1 X.2.1 dX6_findRisk_7 rfl (lv_at hl 1 rfl) ?_
  refine si_getR (k' := 63) (d := 6) X hw si_cl6 5 (by decide) gf_RX6_27 rfl rfl rfl (by decide) rfl dX6_findRisk_8 ?_
  refine lv_aload_n X.1 X.2.1 dX6_findRisk_11 rfl (lv_at hl 2 rfl) ?_
  refine si_getR (k' := (k1 + 1)) (d := 1) X hw si_cl2 4 (by decide) gf_RX6_72 rfl hk1 rfl (by decide) rfl dX6_findRisk_12 ?_
  refine lv_iload_n X.1 X.2.1 dX6_findRisk_15 rfl (lv_at hl 3 rfl) ?_
  obtain ⟨v6, ev6, hf⟩ := si_ob hf
  refine si_iald X hw (sk_2_1 hk1) ev6 dX6_findRisk_16 ?_
  obtain ⟨v7, ev7, hf⟩ := si_ob hf
  refine si_iald X hw rfl ev7 dX6_findRisk_17 ?_
  refine lv_iload_n X.1 X.2.1 dX6_findRisk_18 rfl (lv_at hl 0 rfl) ?_
  refine lv_iconst (v := 3) X.1 X.2.1 dX6_findRisk_19 (by decide) ?_
  refine lv_icmp_ne (tgt := 27) X.1 X.2.1 dX6_findRisk_20 (by decide) (fun c20 => ?_) (fun c20 => ?_)
  · have hf := si_in c20 hf
    refine lv_iconst (v := 0) X.1 X.2.1 dX6_findRisk_27 (by decide) ?_
    exact B28 _ _ _ _ _ _ _ _ hf hw (lv_sub hl [1, 3, 0] rfl)
  · have hf := si_ip c20 hf
    refine lv_iconst (v := 1) X.1 X.2.1 dX6_findRisk_23 (by decide) ?_
    refine lv_goto (tgt := 28) X.1 X.2.1 dX6_findRisk_24 (by decide) ?_
    exact B28 _ _ _ _ _ _ _ _ hf hw (lv_sub hl [1, 3, 0] rfl)
abbrev rm_X6_findState : Room := { frames := 1, cells := 0, slots := 0, locals := 22 }
set_option maxHeartbeats 4000000 in
set_option maxRecDepth 100000 in
theorem c_X6_findState (l : Launch) (E : si_Ev) (F : Nat) (k1 : Nat) (hk1 : si_kd k1 = 2) (x3 : Int32) (x4 : Int32) (S : si_St) (o : si_St) (hf : f_X6_findState F k1 x3 x4 S = some o) : si_Mv l E yX6_findState cX6_findState 6 rm_X6_findState [.ref (E.2.1 57), .ref (E.2.1 k1), .ref (E.2.1 7), .int x3, .int x4] S o := by
  refine si_ofWv (plainFor_of_name (by decide +kernel)) (Nat.le_of_ble_eq_true rfl) ?_
  intro p e s m args below meth c ls Q A X hw hA hl hret
  have hl : lv_has ls 6 [(0, .ref (E.2.1 57)), (1, .ref (E.2.1 k1)), (2, .ref (E.2.1 7)), (3, .int x3), (4, .int x4)] := hl
  have B115 : ∀ (S : si_St) (H : Heap) (locs : List Loc) (ls : Array Slot) , f_X6_findState_h115 F k1 S = some o → si_Ws E A s.heap S H locs → lv_has ls 6 [] → W p l e rm_X6_findState s m args below meth c H locs 0 0 Q (F0 m 115 ls []) := by
    intro   S H locs ls  hf hw hl
    unfold f_X6_findState_h115 at hf
    exact hret _ _ _ _ _ hf hw dX6_findState_115
  have B114 : ∀ (t0 : Int32) (t1 : Int32) (S : si_St) (H : Heap) (locs : List Loc) (ls : Array Slot) , f_X6_findState_h114 F k1 t0 t1 S = some o → si_Ws E A s.heap S H locs → lv_has ls 6 [] → W p l e rm_X6_findState s m args below meth c H locs 0 0 Q (F0 m 114 ls [.int t0, .int t1, .ref (E.2.1 58)]) := by
    intro t0 t1  S H locs ls  hf hw hl
    unfold f_X6_findState_h114 at hf
    obtain ⟨S1, eS1, hf⟩ := si_ob hf
    refine si_iast X hw rfl eS1 dX6_findState_114 (fun H locs hw => ?_)
    exact B115 _ _ _ _ hf hw (lv_sub hl [] rfl)
  unfold f_X6_findState at hf
  refine lv_aload_n X.1 X.2.1 dX6_findState_0 rfl (lv_at hl 0 rfl) ?_
  refine si_getR (k' := 61) (d := 4) X hw si_cl6 3 (by decide) gf_RX6_21 rfl rfl rfl (by decide) rfl dX6_findState_1 ?_
  refine lv_iload_n X.1 X.2.1 dX6_findState_4 rfl (lv_at hl 3 rfl) ?_
  obtain ⟨v2, ev2, hf⟩ := si_ob hf
  refine si_iald X hw rfl ev2 dX6_findState_5 ?_
  refine lv_istore (lv' := [(5, .int v2), (0, .ref (E.2.1 57)), (1, .ref (E.2.1 k1)), (2, .ref (E.2.1 7)), (3, .int x3), (4, .int x4)]) X.1 X.2.1 dX6_findState_6 hl (by decide) rfl (fun ls hl => ?_)
  refine lv_aload_n X.1 X.2.1 dX6_findState_8 rfl (lv_at hl 1 rfl) ?_
  refine si_getR (k' := 59) (d := 2) X hw si_cl6 1 (by decide) gf_RX6_15 rfl rfl rfl (by decide) rfl dX6_findState_9 ?_
  refine lv_iload_n X.1 X.2.1 dX6_findState_12 rfl (lv_at hl 4 rfl) ?_
  refine lv_iconst (v := 0) X.1 X.2.1 dX6_findState_13 (by decide) ?_
  obtain ⟨S3, eS3, hf⟩ := si_ob hf
  refine si_iast X hw rfl eS3 dX6_findState_14 (fun H locs hw => ?_)
  refine lv_iload X.1 X.2.1 dX6_findState_15 (lv_at hl 0 rfl) ?_
  refine lv_iconst (v := (-1)) X.1 X.2.1 dX6_findState_17 (by decide) ?_
  refine lv_icmp_ne (tgt := 31) X.1 X.2.1 dX6_findState_18 (by decide) (fun c18 => ?_) (fun c18 => ?_)
  · have hf := si_in c18 hf
    refine lv_aload_n X.1 X.2.1 dX6_findState_31 rfl (lv_at hl 3 rfl) ?_
    refine si_getR (k' := 11) (d := 4) X hw si_cl7 4 (by decide) gf_RX6_61 rfl rfl rfl (by decide) rfl dX6_findState_32 ?_
    refine lv_iload X.1 X.2.1 dX6_findState_35 (lv_at hl 0 rfl) ?_
    obtain ⟨v4, ev4, hf⟩ := si_ob hf
    refine si_iald X hw rfl ev4 dX6_findState_37 ?_
    refine lv_if_eq (tgt := 66) X.1 X.2.1 dX6_findState_38 (by decide) (fun c38 => ?_) (fun c38 => ?_)
    · have hf := si_ip c38 hf
      refine lv_aload_n X.1 X.2.1 dX6_findState_66 rfl (lv_at hl 1 rfl) ?_
      refine si_getR (k' := 59) (d := 2) X hw si_cl6 1 (by decide) gf_RX6_15 rfl rfl rfl (by decide) rfl dX6_findState_67 ?_
      refine lv_iload_n X.1 X.2.1 dX6_findState_70 rfl (lv_at hl 4 rfl) ?_
      refine lv_aload_n X.1 X.2.1 dX6_findState_71 rfl (lv_at hl 3 rfl) ?_
      refine si_getR (k' := 9) (d := 2) X hw si_cl7 2 (by decide) gf_RX6_55 rfl rfl rfl (by decide) rfl dX6_findState_72 ?_
      refine lv_iload X.1 X.2.1 dX6_findState_75 (lv_at hl 0 rfl) ?_
      obtain ⟨v5, ev5, hf⟩ := si_ob hf
      refine si_iald X hw rfl ev5 dX6_findState_77 ?_
      refine lv_sipush (v := 360) X.1 X.2.1 dX6_findState_78 (by decide) ?_
      refine lv_idiv X.1 X.2.1 dX6_findState_81 (by decide) ?_
      refine lv_aload_n X.1 X.2.1 dX6_findState_82 rfl (lv_at hl 2 rfl) ?_
      refine lv_iload_n X.1 X.2.1 dX6_findState_83 rfl (lv_at hl 4 rfl) ?_
      obtain ⟨q6, eq6, hf⟩ := si_ob hf
      refine si_cVi [.int x3] cal_X2_termOfScale gm_RX6_75 X hw hA hl.1 (c_X2_termOfScale l E F k1 hk1 x3 S3 q6 eq6) si_cl2 hk1 ⟨⟨rfl, rfl⟩, Nat.le_of_ble_eq_true rfl, Nat.le_of_ble_eq_true rfl⟩ rfl rfl (Nat.le_of_ble_eq_true rfl) ⟨Nat.zero_le _, Nat.zero_le _⟩ dX6_findState_84 (fun H locs hw => ?_)
      refine lv_iadd X.1 X.2.1 dX6_findState_87 ?_
      obtain ⟨S7, eS7, hf⟩ := si_ob hf
      refine si_iast X hw rfl eS7 dX6_findState_88 (fun H locs hw => ?_)
      refine lv_aload_n X.1 X.2.1 dX6_findState_89 rfl (lv_at hl 1 rfl) ?_
      refine si_getR (k' := 58) (d := 1) X hw si_cl6 0 (by decide) gf_RX6_9 rfl rfl rfl (by decide) rfl dX6_findState_90 ?_
      refine lv_iload_n X.1 X.2.1 dX6_findState_93 rfl (lv_at hl 4 rfl) ?_
      refine lv_iload X.1 X.2.1 dX6_findState_94 (lv_at hl 5 rfl) ?_
      refine lv_sipush (v := 360) X.1 X.2.1 dX6_findState_96 (by decide) ?_
      refine lv_idiv X.1 X.2.1 dX6_findState_99 (by decide) ?_
      refine lv_aload_n X.1 X.2.1 dX6_findState_100 rfl (lv_at hl 1 rfl) ?_
      refine si_getR (k' := 59) (d := 2) X hw si_cl6 1 (by decide) gf_RX6_15 rfl rfl rfl (by decide) rfl dX6_findState_101 ?_
      refine lv_iload_n X.1 X.2.1 dX6_findState_104 rfl (lv_at hl 4 rfl) ?_
      obtain ⟨v8, ev8, hf⟩ := si_ob hf
      refine si_iald X hw rfl ev8 dX6_findState_105 ?_
      refine lv_icmp_ge (tgt := 113) X.1 X.2.1 dX6_findState_106 (by decide) (fun c106 => ?_) (fun c106 => ?_)
      · have hf := si_ip c106 hf
        refine lv_iconst (v := 2) X.1 X.2.1 dX6_findState_113 (by decide) ?_
        exact B114 _ _ _ _ _ _ hf hw (lv_sub hl [] rfl)
      · have hf := si_in c106 hf
        refine lv_iconst (v := 1) X.1 X.2.1 dX6_findState_109 (by decide) ?_
        refine lv_goto (tgt := 114) X.1 X.2.1 dX6_findState_110 (by decide) ?_
        exact B114 _ _ _ _ _ _ hf hw (lv_sub hl [] rfl)
    · have hf := si_in c38 hf
      refine lv_aload_n X.1 X.2.1 dX6_findState_41 rfl (lv_at hl 1 rfl) ?_
      refine si_getR (k' := 58) (d := 1) X hw si_cl6 0 (by decide) gf_RX6_9 rfl rfl rfl (by decide) rfl dX6_findState_42 ?_
      refine lv_iload_n X.1 X.2.1 dX6_findState_45 rfl (lv_at hl 4 rfl) ?_
      refine lv_iconst (v := 3) X.1 X.2.1 dX6_findState_46 (by decide) ?_
      obtain ⟨S9, eS9, hf⟩ := si_ob hf
      refine si_iast X hw rfl eS9 dX6_findState_47 (fun H locs hw => ?_)
      refine lv_aload_n X.1 X.2.1 dX6_findState_48 rfl (lv_at hl 1 rfl) ?_
      refine si_getR (k' := 63) (d := 6) X hw si_cl6 5 (by decide) gf_RX6_27 rfl rfl rfl (by decide) rfl dX6_findState_49 ?_
      refine lv_aload_n X.1 X.2.1 dX6_findState_52 rfl (lv_at hl 2 rfl) ?_
      refine si_getR (k' := (k1 + 1)) (d := 1) X hw si_cl2 4 (by decide) gf_RX6_72 rfl hk1 rfl (by decide) rfl dX6_findState_53 ?_
      refine lv_iload_n X.1 X.2.1 dX6_findState_56 rfl (lv_at hl 4 rfl) ?_
      obtain ⟨v10, ev10, hf⟩ := si_ob hf
      refine si_iald X hw (sk_2_1 hk1) ev10 dX6_findState_57 ?_
      refine lv_dup2_11 X.1 X.2.1 dX6_findState_58 rfl rfl ?_
      obtain ⟨v11, ev11, hf⟩ := si_ob hf
      refine si_iald X hw rfl ev11 dX6_findState_59 ?_
      refine lv_iconst (v := 1) X.1 X.2.1 dX6_findState_60 (by decide) ?_
      refine lv_iadd X.1 X.2.1 dX6_findState_61 ?_
      obtain ⟨S12, eS12, hf⟩ := si_ob hf
      refine si_iast X hw rfl eS12 dX6_findState_62 (fun H locs hw => ?_)
      refine lv_goto (tgt := 115) X.1 X.2.1 dX6_findState_63 (by decide) ?_
      exact B115 _ _ _ _ hf hw (lv_sub hl [] rfl)
  · have hf := si_ip c18 hf
    refine lv_aload_n X.1 X.2.1 dX6_findState_21 rfl (lv_at hl 1 rfl) ?_
    refine si_getR (k' := 58) (d := 1) X hw si_cl6 0 (by decide) gf_RX6_9 rfl rfl rfl (by decide) rfl dX6_findState_22 ?_
    refine lv_iload_n X.1 X.2.1 dX6_findState_25 rfl (lv_at hl 4 rfl) ?_
    refine lv_iconst (v := 0) X.1 X.2.1 dX6_findState_26 (by decide) ?_
    obtain ⟨S13, eS13, hf⟩ := si_ob hf
    refine si_iast X hw rfl eS13 dX6_findState_27 (fun H locs hw => ?_)
    refine lv_goto (tgt := 115) X.1 X.2.1 dX6_findState_28 (by decide) ?_
    exact B115 _ _ _ _ hf hw (lv_sub hl [] rfl)
abbrev rm_X6_take : Room := { frames := 2, cells := 0, slots := 0, locals := 47 }
set_option maxHeartbeats 4000000 in
set_option maxRecDepth 100000 in
theorem c_X6_take (l : Launch) (E : si_Ev) (F : Nat) (k1 : Nat) (hk1 : si_kd k1 = 2) (x3 : Int32) (S : si_St) (o : si_St) (hf : f_X6_take F k1 x3 S = some o) : si_Mv l E yX6_take cX6_take 6 rm_X6_take [.ref (E.2.1 57), .ref (E.2.1 k1), .ref (E.2.1 7), .int x3] S o := by
  refine si_ofWv (plainFor_of_name (by decide +kernel)) (Nat.le_of_ble_eq_true rfl) ?_
  intro p e s m args below meth c ls Q A X hw hA hl hret
  have hl : lv_has ls 6 [(0, .ref (E.2.1 57)), (1, .ref (E.2.1 k1)), (2, .ref (E.2.1 7)), (3, .int x3)] := hl
  have B143 : ∀ (n143 : Nat) (x4 : Int32) (S : si_St) (H : Heap) (locs : List Loc) (ls : Array Slot) , f_X6_take_l143 F k1 n143 x4 S = some o → si_Ws E A s.heap S H locs → lv_has ls 6 [(0, .ref (E.2.1 57)), (1, .ref (E.2.1 k1)), (4, .int x4)] → W p l e rm_X6_take s m args below meth c H locs 0 0 Q (F0 m 143 ls []) := by
    intro n143
    induction n143 with
    | zero => intro x4  S H locs ls  hf; cases hf
    | succ n143 ih143 =>
      intro x4  S H locs ls  hf hw hl
      have hf : f_X6_take_h143 F k1 (f_X6_take_l143 F k1 n143) x4 S = some o := hf
      unfold f_X6_take_h143 at hf
      refine lv_iload X.1 X.2.1 dX6_take_143 (lv_at hl 2 rfl) ?_
      refine lv_aload_n X.1 X.2.1 dX6_take_145 rfl (lv_at hl 0 rfl) ?_
      refine si_getI X hw si_cl6 7 (by decide) gf_RX6_39 rfl rfl rfl dX6_take_146 ?_
      refine lv_icmp_ge (tgt := 165) X.1 X.2.1 dX6_take_149 (by decide) (fun c149 => ?_) (fun c149 => ?_)
      · have hf := si_ip c149 hf
        exact hret _ _ _ _ _ hf hw dX6_take_165
      · have hf := si_in c149 hf
        refine lv_aload_n X.1 X.2.1 dX6_take_152 rfl (lv_at hl 0 rfl) ?_
        refine lv_aload_n X.1 X.2.1 dX6_take_153 rfl (lv_at hl 1 rfl) ?_
        refine lv_iload X.1 X.2.1 dX6_take_154 (lv_at hl 2 rfl) ?_
        obtain ⟨S1, eS1, hf⟩ := si_ob hf
        refine si_cVv [.ref (E.2.1 k1), .int x4] cal_X6_findRisk gm_RX6_68 X hw hA hl.1 (c_X6_findRisk l E F k1 hk1 x4 S S1 eS1) si_cl6 rfl ⟨⟨rfl, rfl⟩, Nat.le_of_ble_eq_true rfl, Nat.le_of_ble_eq_true rfl⟩ rfl rfl (Nat.le_of_ble_eq_true rfl) ⟨Nat.zero_le _, Nat.zero_le _⟩ dX6_take_156 (fun H locs hw => ?_)
        obtain ⟨v2, ev2, hf⟩ := si_ob hf
        refine lv_iinc (v := v2) (lv' := [(4, .int v2), (0, .ref (E.2.1 57)), (1, .ref (E.2.1 k1))]) X.1 X.2.1 dX6_take_159 hl (k := 2) rfl (Option.some.inj ev2) (by decide) rfl (fun ls hl => ?_)
        refine lv_goto (tgt := 143) X.1 X.2.1 dX6_take_162 (by decide) ?_
        exact ih143 _ _ _ _ _ hf hw (lv_sub hl [1, 2, 0] rfl)
  have B116 : ∀ (n116 : Nat) (x3 : Int32) (x4 : Int32) (S : si_St) (H : Heap) (locs : List Loc) (ls : Array Slot) , f_X6_take_l116 F k1 n116 x3 x4 S = some o → si_Ws E A s.heap S H locs → lv_has ls 6 [(0, .ref (E.2.1 57)), (1, .ref (E.2.1 k1)), (2, .ref (E.2.1 7)), (3, .int x3), (4, .int x4)] → W p l e rm_X6_take s m args below meth c H locs 0 0 Q (F0 m 116 ls []) := by
    intro n116
    induction n116 with
    | zero => intro x3 x4  S H locs ls  hf; cases hf
    | succ n116 ih116 =>
      intro x3 x4  S H locs ls  hf hw hl
      have hf : f_X6_take_h116 F k1 (f_X6_take_l116 F k1 n116) x3 x4 S = some o := hf
      unfold f_X6_take_h116 at hf
      refine lv_iload X.1 X.2.1 dX6_take_116 (lv_at hl 4 rfl) ?_
      refine lv_aload_n X.1 X.2.1 dX6_take_118 rfl (lv_at hl 0 rfl) ?_
      refine si_getI X hw si_cl6 7 (by decide) gf_RX6_39 rfl rfl rfl dX6_take_119 ?_
      refine lv_icmp_ge (tgt := 140) X.1 X.2.1 dX6_take_122 (by decide) (fun c122 => ?_) (fun c122 => ?_)
      · have hf := si_ip c122 hf
        refine lv_iconst (v := 0) X.1 X.2.1 dX6_take_140 (by decide) ?_
        refine lv_istore (lv' := [(4, .int 0), (0, .ref (E.2.1 57)), (1, .ref (E.2.1 k1)), (2, .ref (E.2.1 7)), (3, .int x3)]) X.1 X.2.1 dX6_take_141 hl (by decide) rfl (fun ls hl => ?_)
        exact B143 F _ _ _ _ _ hf hw (lv_sub hl [1, 2, 0] rfl)
      · have hf := si_in c122 hf
        refine lv_aload_n X.1 X.2.1 dX6_take_125 rfl (lv_at hl 0 rfl) ?_
        refine lv_aload_n X.1 X.2.1 dX6_take_126 rfl (lv_at hl 1 rfl) ?_
        refine lv_aload_n X.1 X.2.1 dX6_take_127 rfl (lv_at hl 2 rfl) ?_
        refine lv_iload X.1 X.2.1 dX6_take_128 (lv_at hl 4 rfl) ?_
        refine lv_iload_n X.1 X.2.1 dX6_take_130 rfl (lv_at hl 3 rfl) ?_
        obtain ⟨S3, eS3, hf⟩ := si_ob hf
        refine si_cVv [.ref (E.2.1 k1), .ref (E.2.1 7), .int x4, .int x3] cal_X6_findState gm_RX6_64 X hw hA hl.1 (c_X6_findState l E F k1 hk1 x4 x3 S S3 eS3) si_cl6 rfl ⟨⟨rfl, rfl⟩, Nat.le_of_ble_eq_true rfl, Nat.le_of_ble_eq_true rfl⟩ rfl rfl (Nat.le_of_ble_eq_true rfl) ⟨Nat.zero_le _, Nat.zero_le _⟩ dX6_take_131 (fun H locs hw => ?_)
        obtain ⟨v4, ev4, hf⟩ := si_ob hf
        refine lv_iinc (v := v4) (lv' := [(4, .int v4), (0, .ref (E.2.1 57)), (1, .ref (E.2.1 k1)), (2, .ref (E.2.1 7)), (3, .int x3)]) X.1 X.2.1 dX6_take_134 hl (k := 4) rfl (Option.some.inj ev4) (by decide) rfl (fun ls hl => ?_)
        refine lv_goto (tgt := 116) X.1 X.2.1 dX6_take_137 (by decide) ?_
        exact ih116 _ _ _ _ _ _ hf hw (lv_sub hl [1, 2, 3, 4, 0] rfl)
  have B35 : ∀ (n35 : Nat) (x3 : Int32) (x4 : Int32) (S : si_St) (H : Heap) (locs : List Loc) (ls : Array Slot) , f_X6_take_l35 F k1 n35 x3 x4 S = some o → si_Ws E A s.heap S H locs → lv_has ls 6 [(0, .ref (E.2.1 57)), (1, .ref (E.2.1 k1)), (2, .ref (E.2.1 7)), (3, .int x3), (4, .int x4)] → W p l e rm_X6_take s m args below meth c H locs 0 0 Q (F0 m 35 ls []) := by
    intro n35
    induction n35 with
    | zero => intro x3 x4  S H locs ls  hf; cases hf
    | succ n35 ih35 =>
      have B107 : ∀ (x3 : Int32) (x4 : Int32) (S : si_St) (H : Heap) (locs : List Loc) (ls : Array Slot) , f_X6_take_h107 F k1 (f_X6_take_l35 F k1 n35) x3 x4 S = some o → si_Ws E A s.heap S H locs → lv_has ls 6 [(0, .ref (E.2.1 57)), (1, .ref (E.2.1 k1)), (2, .ref (E.2.1 7)), (3, .int x3), (4, .int x4)] → W p l e rm_X6_take s m args below meth c H locs 0 0 Q (F0 m 107 ls []) := by
        intro x3 x4  S H locs ls  hf hw hl
        unfold f_X6_take_h107 at hf
        obtain ⟨v5, ev5, hf⟩ := si_ob hf
        refine lv_iinc (v := v5) (lv' := [(4, .int v5), (0, .ref (E.2.1 57)), (1, .ref (E.2.1 k1)), (2, .ref (E.2.1 7)), (3, .int x3)]) X.1 X.2.1 dX6_take_107 hl (k := 4) rfl (Option.some.inj ev5) (by decide) rfl (fun ls hl => ?_)
        refine lv_goto (tgt := 35) X.1 X.2.1 dX6_take_110 (by decide) ?_
        exact ih35 _ _ _ _ _ _ hf hw (lv_sub hl [1, 2, 3, 4, 0] rfl)
      have B105 : ∀ (x3 : Int32) (x4 : Int32) (t0 : Int32) (t1 : Int32) (t2 : Int32) (S : si_St) (H : Heap) (locs : List Loc) (ls : Array Slot) , f_X6_take_h105 F k1 (f_X6_take_l35 F k1 n35) x3 x4 t0 t1 t2 S = some o → si_Ws E A s.heap S H locs → lv_has ls 6 [(0, .ref (E.2.1 57)), (1, .ref (E.2.1 k1)), (2, .ref (E.2.1 7)), (3, .int x3), (4, .int x4)] → W p l e rm_X6_take s m args below meth c H locs 0 0 Q (F0 m 105 ls [.int t0, .int t1, .int t2, .ref (E.2.1 62)]) := by
        intro x3 x4 t0 t1 t2  S H locs ls  hf hw hl
        unfold f_X6_take_h105 at hf
        refine lv_iadd X.1 X.2.1 dX6_take_105 ?_
        obtain ⟨S6, eS6, hf⟩ := si_ob hf
        refine si_iast X hw rfl eS6 dX6_take_106 (fun H locs hw => ?_)
        exact B107 _ _ _ _ _ _ hf hw (lv_sub hl [0, 1, 2, 3, 4] rfl)
      intro x3 x4  S H locs ls  hf hw hl
      have hf : f_X6_take_h35 F k1 (f_X6_take_l35 F k1 n35) x3 x4 S = some o := hf
      unfold f_X6_take_h35 at hf
      refine lv_iload X.1 X.2.1 dX6_take_35 (lv_at hl 4 rfl) ?_
      refine lv_aload_n X.1 X.2.1 dX6_take_37 rfl (lv_at hl 2 rfl) ?_
      refine si_getI X hw si_cl7 0 (by decide) gf_RX6_46 rfl rfl rfl dX6_take_38 ?_
      refine lv_icmp_ge (tgt := 113) X.1 X.2.1 dX6_take_41 (by decide) (fun c41 => ?_) (fun c41 => ?_)
      · have hf := si_ip c41 hf
        refine lv_iconst (v := 0) X.1 X.2.1 dX6_take_113 (by decide) ?_
        refine lv_istore (lv' := [(4, .int 0), (0, .ref (E.2.1 57)), (1, .ref (E.2.1 k1)), (2, .ref (E.2.1 7)), (3, .int x3)]) X.1 X.2.1 dX6_take_114 hl (by decide) rfl (fun ls hl => ?_)
        exact B116 F _ _ _ _ _ _ hf hw (lv_sub hl [1, 2, 3, 4, 0] rfl)
      · have hf := si_in c41 hf
        refine lv_aload_n X.1 X.2.1 dX6_take_44 rfl (lv_at hl 2 rfl) ?_
        refine lv_iload X.1 X.2.1 dX6_take_45 (lv_at hl 4 rfl) ?_
        obtain ⟨q7, eq7, hf⟩ := si_ob hf
        refine si_cVi [.int x4] cal_X7_isOpen gm_RX6_51 X hw hA hl.1 (c_X7_isOpen l E F x4 S q7 eq7) si_cl7 rfl ⟨⟨rfl, rfl⟩, Nat.le_of_ble_eq_true rfl, Nat.le_of_ble_eq_true rfl⟩ rfl rfl (Nat.le_of_ble_eq_true rfl) ⟨Nat.zero_le _, Nat.zero_le _⟩ dX6_take_47 (fun H locs hw => ?_)
        refine lv_if_ne (tgt := 107) X.1 X.2.1 dX6_take_50 (by decide) (fun c50 => ?_) (fun c50 => ?_)
        · have hf := si_in c50 hf
          exact B107 _ _ _ _ _ _ hf hw (lv_sub hl [0, 1, 2, 3, 4] rfl)
        · have hf := si_ip c50 hf
          refine lv_aload_n X.1 X.2.1 dX6_take_53 rfl (lv_at hl 2 rfl) ?_
          refine si_getR (k' := 9) (d := 2) X hw si_cl7 2 (by decide) gf_RX6_55 rfl rfl rfl (by decide) rfl dX6_take_54 ?_
          refine lv_iload X.1 X.2.1 dX6_take_57 (lv_at hl 4 rfl) ?_
          obtain ⟨v8, ev8, hf⟩ := si_ob hf
          refine si_iald X hw rfl ev8 dX6_take_59 ?_
          refine lv_iload_n X.1 X.2.1 dX6_take_60 rfl (lv_at hl 3 rfl) ?_
          refine lv_icmp_gt (tgt := 107) X.1 X.2.1 dX6_take_61 (by decide) (fun c61 => ?_) (fun c61 => ?_)
          · have hf := si_ip c61 hf
            exact B107 _ _ _ _ _ _ hf hw (lv_sub hl [0, 1, 2, 3, 4] rfl)
          · have hf := si_in c61 hf
            refine lv_aload_n X.1 X.2.1 dX6_take_64 rfl (lv_at hl 2 rfl) ?_
            refine si_getR (k' := 8) (d := 1) X hw si_cl7 1 (by decide) gf_RX6_58 rfl rfl rfl (by decide) rfl dX6_take_65 ?_
            refine lv_iload X.1 X.2.1 dX6_take_68 (lv_at hl 4 rfl) ?_
            obtain ⟨v9, ev9, hf⟩ := si_ob hf
            refine si_iald X hw rfl ev9 dX6_take_70 ?_
            refine lv_istore (lv' := [(5, .int v9), (0, .ref (E.2.1 57)), (1, .ref (E.2.1 k1)), (2, .ref (E.2.1 7)), (3, .int x3), (4, .int x4)]) X.1 X.2.1 dX6_take_71 hl (by decide) rfl (fun ls hl => ?_)
            refine lv_aload_n X.1 X.2.1 dX6_take_73 rfl (lv_at hl 1 rfl) ?_
            refine si_getR (k' := 61) (d := 4) X hw si_cl6 3 (by decide) gf_RX6_21 rfl rfl rfl (by decide) rfl dX6_take_74 ?_
            refine lv_iload X.1 X.2.1 dX6_take_77 (lv_at hl 0 rfl) ?_
            refine lv_iload X.1 X.2.1 dX6_take_79 (lv_at hl 5 rfl) ?_
            obtain ⟨S10, eS10, hf⟩ := si_ob hf
            refine si_iast X hw rfl eS10 dX6_take_81 (fun H locs hw => ?_)
            refine lv_aload_n X.1 X.2.1 dX6_take_82 rfl (lv_at hl 1 rfl) ?_
            refine si_getR (k' := 62) (d := 5) X hw si_cl6 4 (by decide) gf_RX6_24 rfl rfl rfl (by decide) rfl dX6_take_83 ?_
            refine lv_iload X.1 X.2.1 dX6_take_86 (lv_at hl 0 rfl) ?_
            refine lv_dup2_11 X.1 X.2.1 dX6_take_88 rfl rfl ?_
            obtain ⟨v11, ev11, hf⟩ := si_ob hf
            refine si_iald X hw rfl ev11 dX6_take_89 ?_
            refine lv_aload_n X.1 X.2.1 dX6_take_90 rfl (lv_at hl 3 rfl) ?_
            refine si_getR (k' := 11) (d := 4) X hw si_cl7 4 (by decide) gf_RX6_61 rfl rfl rfl (by decide) rfl dX6_take_91 ?_
            refine lv_iload X.1 X.2.1 dX6_take_94 (lv_at hl 5 rfl) ?_
            obtain ⟨v12, ev12, hf⟩ := si_ob hf
            refine si_iald X hw rfl ev12 dX6_take_96 ?_
            refine lv_if_ne (tgt := 104) X.1 X.2.1 dX6_take_97 (by decide) (fun c97 => ?_) (fun c97 => ?_)
            · have hf := si_in c97 hf
              refine lv_iconst (v := 1) X.1 X.2.1 dX6_take_104 (by decide) ?_
              exact B105 _ _ _ _ _ _ _ _ _ hf hw (lv_sub hl [1, 2, 3, 4, 5] rfl)
            · have hf := si_ip c97 hf
              refine lv_iconst (v := 0) X.1 X.2.1 dX6_take_100 (by decide) ?_
              refine lv_goto (tgt := 105) X.1 X.2.1 dX6_take_101 (by decide) ?_
              exact B105 _ _ _ _ _ _ _ _ _ hf hw (lv_sub hl [1, 2, 3, 4, 5] rfl)
  unfold f_X6_take at hf
  refine lv_aload_n X.1 X.2.1 dX6_take_0 rfl (lv_at hl 0 rfl) ?_
  refine lv_aload_n X.1 X.2.1 dX6_take_1 rfl (lv_at hl 1 rfl) ?_
  refine si_getI X hw si_cl2 1 (by decide) gf_RX6_33 rfl hk1 rfl dX6_take_2 ?_
  obtain ⟨S13, eS13, hf⟩ := si_ob hf
  refine si_ptI X hw si_cl6 7 (by decide) gf_RX6_39 rfl rfl rfl rfl rfl eS13 dX6_take_5 (fun H locs hw => ?_)
  refine lv_aload_n X.1 X.2.1 dX6_take_8 rfl (lv_at hl 0 rfl) ?_
  refine si_getR (k' := 61) (d := 4) X hw si_cl6 3 (by decide) gf_RX6_21 rfl rfl rfl (by decide) rfl dX6_take_9 ?_
  refine lv_iconst (v := (-1)) X.1 X.2.1 dX6_take_12 (by decide) ?_
  obtain ⟨S14, eS14, hf⟩ := si_ob hf
  refine si_cSv [.ref (E.2.1 61), .int (-1)] cal_J7_fill_53178 gm_RX6_40 X hw hA hl.1 (c_J7_fill_53178 l E F 61 rfl (-1) S13 S14 eS14) ⟨⟨rfl, rfl⟩, Nat.le_of_ble_eq_true rfl, Nat.le_of_ble_eq_true rfl⟩ rfl rfl (Nat.le_of_ble_eq_true rfl) ⟨Nat.zero_le _, Nat.zero_le _⟩ dX6_take_13 (fun H locs hw => ?_)
  refine lv_aload_n X.1 X.2.1 dX6_take_16 rfl (lv_at hl 0 rfl) ?_
  refine si_getR (k' := 62) (d := 5) X hw si_cl6 4 (by decide) gf_RX6_24 rfl rfl rfl (by decide) rfl dX6_take_17 ?_
  refine lv_iconst (v := 0) X.1 X.2.1 dX6_take_20 (by decide) ?_
  obtain ⟨S15, eS15, hf⟩ := si_ob hf
  refine si_cSv [.ref (E.2.1 62), .int 0] cal_J7_fill_53178 gm_RX6_40 X hw hA hl.1 (c_J7_fill_53178 l E F 62 rfl 0 S14 S15 eS15) ⟨⟨rfl, rfl⟩, Nat.le_of_ble_eq_true rfl, Nat.le_of_ble_eq_true rfl⟩ rfl rfl (Nat.le_of_ble_eq_true rfl) ⟨Nat.zero_le _, Nat.zero_le _⟩ dX6_take_21 (fun H locs hw => ?_)
  refine lv_aload_n X.1 X.2.1 dX6_take_24 rfl (lv_at hl 0 rfl) ?_
  refine si_getR (k' := 63) (d := 6) X hw si_cl6 5 (by decide) gf_RX6_27 rfl rfl rfl (by decide) rfl dX6_take_25 ?_
  refine lv_iconst (v := 0) X.1 X.2.1 dX6_take_28 (by decide) ?_
  obtain ⟨S16, eS16, hf⟩ := si_ob hf
  refine si_cSv [.ref (E.2.1 63), .int 0] cal_J7_fill_53178 gm_RX6_40 X hw hA hl.1 (c_J7_fill_53178 l E F 63 rfl 0 S15 S16 eS16) ⟨⟨rfl, rfl⟩, Nat.le_of_ble_eq_true rfl, Nat.le_of_ble_eq_true rfl⟩ rfl rfl (Nat.le_of_ble_eq_true rfl) ⟨Nat.zero_le _, Nat.zero_le _⟩ dX6_take_29 (fun H locs hw => ?_)
  refine lv_iconst (v := 0) X.1 X.2.1 dX6_take_32 (by decide) ?_
  refine lv_istore (lv' := [(4, .int 0), (0, .ref (E.2.1 57)), (1, .ref (E.2.1 k1)), (2, .ref (E.2.1 7)), (3, .int x3)]) X.1 X.2.1 dX6_take_33 hl (by decide) rfl (fun ls hl => ?_)
  exact B35 F _ _ _ _ _ _ hf hw (lv_sub hl [1, 2, 3, 4, 0] rfl)
abbrev rm_X6_scalesIn : Room := { frames := 0, cells := 0, slots := 0, locals := 0 }
set_option maxHeartbeats 4000000 in
set_option maxRecDepth 100000 in
theorem c_X6_scalesIn (l : Launch) (E : si_Ev) (F : Nat) (x1 : Int32) (S : si_St) (o : Int32 × si_St) (hf : f_X6_scalesIn F x1 S = some o) : si_Mi l E yX6_scalesIn cX6_scalesIn 4 (some .int) rm_X6_scalesIn [.ref (E.2.1 57), .int x1] S o := by
  refine si_ofWi (plainFor_of_name (by decide +kernel)) (Nat.le_of_ble_eq_true rfl) ?_
  intro p e s m args below meth c ls Q A X hw hA hl hret
  have hl : lv_has ls 4 [(0, .ref (E.2.1 57)), (1, .int x1)] := hl
  have B4 : ∀ (n4 : Nat) (x1 : Int32) (x2 : Int32) (x3 : Int32) (S : si_St) (H : Heap) (locs : List Loc) (ls : Array Slot) , f_X6_scalesIn_l4 F n4 x1 x2 x3 S = some o → si_Ws E A s.heap S H locs → lv_has ls 4 [(0, .ref (E.2.1 57)), (1, .int x1), (2, .int x2), (3, .int x3)] → W p l e rm_X6_scalesIn s m args below meth c H locs 0 0 Q (F0 m 4 ls []) := by
    intro n4
    induction n4 with
    | zero => intro x1 x2 x3  S H locs ls  hf; cases hf
    | succ n4 ih4 =>
      have B28 : ∀ (x1 : Int32) (x2 : Int32) (x3 : Int32) (S : si_St) (H : Heap) (locs : List Loc) (ls : Array Slot) , f_X6_scalesIn_h28 F (f_X6_scalesIn_l4 F n4) x1 x2 x3 S = some o → si_Ws E A s.heap S H locs → lv_has ls 4 [(0, .ref (E.2.1 57)), (1, .int x1), (2, .int x2), (3, .int x3)] → W p l e rm_X6_scalesIn s m args below meth c H locs 0 0 Q (F0 m 28 ls []) := by
        intro x1 x2 x3  S H locs ls  hf hw hl
        unfold f_X6_scalesIn_h28 at hf
        obtain ⟨v1, ev1, hf⟩ := si_ob hf
        refine lv_iinc (v := v1) (lv' := [(3, .int v1), (0, .ref (E.2.1 57)), (1, .int x1), (2, .int x2)]) X.1 X.2.1 dX6_scalesIn_28 hl (k := 3) rfl (Option.some.inj ev1) (by decide) rfl (fun ls hl => ?_)
        refine lv_goto (tgt := 4) X.1 X.2.1 dX6_scalesIn_31 (by decide) ?_
        exact ih4 _ _ _ _ _ _ _ hf hw (lv_sub hl [1, 2, 3, 0] rfl)
      intro x1 x2 x3  S H locs ls  hf hw hl
      have hf : f_X6_scalesIn_h4 F (f_X6_scalesIn_l4 F n4) x1 x2 x3 S = some o := hf
      unfold f_X6_scalesIn_h4 at hf
      refine lv_iload_n X.1 X.2.1 dX6_scalesIn_4 rfl (lv_at hl 3 rfl) ?_
      refine lv_aload_n X.1 X.2.1 dX6_scalesIn_5 rfl (lv_at hl 0 rfl) ?_
      refine si_getI X hw si_cl6 7 (by decide) gf_RX6_39 rfl rfl rfl dX6_scalesIn_6 ?_
      refine lv_icmp_ge (tgt := 34) X.1 X.2.1 dX6_scalesIn_9 (by decide) (fun c9 => ?_) (fun c9 => ?_)
      · have hf := si_ip c9 hf
        refine lv_iload_n X.1 X.2.1 dX6_scalesIn_34 rfl (lv_at hl 2 rfl) ?_
        exact hret _ _ _ _ _ _ hf hw dX6_scalesIn_35
      · have hf := si_in c9 hf
        refine lv_aload_n X.1 X.2.1 dX6_scalesIn_12 rfl (lv_at hl 0 rfl) ?_
        refine si_getR (k' := 58) (d := 1) X hw si_cl6 0 (by decide) gf_RX6_9 rfl rfl rfl (by decide) rfl dX6_scalesIn_13 ?_
        refine lv_iload_n X.1 X.2.1 dX6_scalesIn_16 rfl (lv_at hl 3 rfl) ?_
        obtain ⟨v2, ev2, hf⟩ := si_ob hf
        refine si_iald X hw rfl ev2 dX6_scalesIn_17 ?_
        refine lv_iload_n X.1 X.2.1 dX6_scalesIn_18 rfl (lv_at hl 1 rfl) ?_
        refine lv_icmp_ne (tgt := 28) X.1 X.2.1 dX6_scalesIn_19 (by decide) (fun c19 => ?_) (fun c19 => ?_)
        · have hf := si_in c19 hf
          exact B28 _ _ _ _ _ _ _ hf hw (lv_sub hl [0, 1, 2, 3] rfl)
        · have hf := si_ip c19 hf
          refine lv_iload_n X.1 X.2.1 dX6_scalesIn_22 rfl (lv_at hl 2 rfl) ?_
          refine lv_iconst (v := 1) X.1 X.2.1 dX6_scalesIn_23 (by decide) ?_
          refine lv_iload_n X.1 X.2.1 dX6_scalesIn_24 rfl (lv_at hl 3 rfl) ?_
          refine lv_ishl X.1 X.2.1 dX6_scalesIn_25 ?_
          refine lv_ior X.1 X.2.1 dX6_scalesIn_26 ?_
          obtain ⟨v3, ev3, hf⟩ := si_ob hf
          refine si_nmI ev3 ?_
          refine lv_istore_n (lv' := [(2, .int v3), (0, .ref (E.2.1 57)), (1, .int x1), (3, .int x3)]) X.1 X.2.1 dX6_scalesIn_27 rfl hl (by decide) rfl (fun ls hl => ?_)
          exact B28 _ _ _ _ _ _ _ hf hw (lv_sub hl [1, 2, 0, 3] rfl)
  unfold f_X6_scalesIn at hf
  refine lv_iconst (v := 0) X.1 X.2.1 dX6_scalesIn_0 (by decide) ?_
  refine lv_istore_n (lv' := [(2, .int 0), (0, .ref (E.2.1 57)), (1, .int x1)]) X.1 X.2.1 dX6_scalesIn_1 rfl hl (by decide) rfl (fun ls hl => ?_)
  refine lv_iconst (v := 0) X.1 X.2.1 dX6_scalesIn_2 (by decide) ?_
  refine lv_istore_n (lv' := [(3, .int 0), (2, .int 0), (0, .ref (E.2.1 57)), (1, .int x1)]) X.1 X.2.1 dX6_scalesIn_3 rfl hl (by decide) rfl (fun ls hl => ?_)
  exact B4 F _ _ _ _ _ _ _ hf hw (lv_sub hl [2, 3, 1, 0] rfl)
abbrev rm_X6_traderAtMostRisk : Room := { frames := 1, cells := 0, slots := 0, locals := 23 }
set_option maxHeartbeats 4000000 in
set_option maxRecDepth 100000 in
theorem c_X6_traderAtMostRisk (l : Launch) (E : si_Ev) (F : Nat) (k1 : Nat) (hk1 : si_kd k1 = 2) (S : si_St) (o : Int32 × si_St) (hf : f_X6_traderAtMostRisk F k1 S = some o) : si_Mi l E yX6_traderAtMostRisk cX6_traderAtMostRisk 4 (some .int) rm_X6_traderAtMostRisk [.ref (E.2.1 57), .ref (E.2.1 k1)] S o := by
  refine si_ofWi (plainFor_of_name (by decide +kernel)) (Nat.le_of_ble_eq_true rfl) ?_
  intro p e s m args below meth c ls Q A X hw hA hl hret
  have hl : lv_has ls 4 [(0, .ref (E.2.1 57)), (1, .ref (E.2.1 k1))] := hl
  have B48 : ∀ (n48 : Nat) (x2 : Int32) (x3 : Int32) (S : si_St) (H : Heap) (locs : List Loc) (ls : Array Slot) , f_X6_traderAtMostRisk_l48 F k1 n48 x2 x3 S = some o → si_Ws E A s.heap S H locs → lv_has ls 4 [(0, .ref (E.2.1 57)), (1, .ref (E.2.1 k1)), (2, .int x2), (3, .int x3)] → W p l e rm_X6_traderAtMostRisk s m args below meth c H locs 0 0 Q (F0 m 48 ls []) := by
    intro n48
    induction n48 with
    | zero => intro x2 x3  S H locs ls  hf; cases hf
    | succ n48 ih48 =>
      have B73 : ∀ (x2 : Int32) (x3 : Int32) (S : si_St) (H : Heap) (locs : List Loc) (ls : Array Slot) , f_X6_traderAtMostRisk_h73 F k1 (f_X6_traderAtMostRisk_l48 F k1 n48) x2 x3 S = some o → si_Ws E A s.heap S H locs → lv_has ls 4 [(0, .ref (E.2.1 57)), (1, .ref (E.2.1 k1)), (2, .int x2), (3, .int x3)] → W p l e rm_X6_traderAtMostRisk s m args below meth c H locs 0 0 Q (F0 m 73 ls []) := by
        intro x2 x3  S H locs ls  hf hw hl
        unfold f_X6_traderAtMostRisk_h73 at hf
        obtain ⟨v1, ev1, hf⟩ := si_ob hf
        refine lv_iinc (v := v1) (lv' := [(3, .int v1), (0, .ref (E.2.1 57)), (1, .ref (E.2.1 k1)), (2, .int x2)]) X.1 X.2.1 dX6_traderAtMostRisk_73 hl (k := 3) rfl (Option.some.inj ev1) (by decide) rfl (fun ls hl => ?_)
        refine lv_goto (tgt := 48) X.1 X.2.1 dX6_traderAtMostRisk_76 (by decide) ?_
        exact ih48 _ _ _ _ _ _ hf hw (lv_sub hl [1, 2, 3, 0] rfl)
      intro x2 x3  S H locs ls  hf hw hl
      have hf : f_X6_traderAtMostRisk_h48 F k1 (f_X6_traderAtMostRisk_l48 F k1 n48) x2 x3 S = some o := hf
      unfold f_X6_traderAtMostRisk_h48 at hf
      refine lv_iload_n X.1 X.2.1 dX6_traderAtMostRisk_48 rfl (lv_at hl 3 rfl) ?_
      refine lv_aload_n X.1 X.2.1 dX6_traderAtMostRisk_49 rfl (lv_at hl 1 rfl) ?_
      refine si_getI X hw si_cl2 0 (by decide) gf_RX6_82 rfl hk1 rfl dX6_traderAtMostRisk_50 ?_
      refine lv_icmp_ge (tgt := 79) X.1 X.2.1 dX6_traderAtMostRisk_53 (by decide) (fun c53 => ?_) (fun c53 => ?_)
      · have hf := si_ip c53 hf
        refine lv_iload_n X.1 X.2.1 dX6_traderAtMostRisk_79 rfl (lv_at hl 2 rfl) ?_
        exact hret _ _ _ _ _ _ hf hw dX6_traderAtMostRisk_80
      · have hf := si_in c53 hf
        refine lv_aload_n X.1 X.2.1 dX6_traderAtMostRisk_56 rfl (lv_at hl 0 rfl) ?_
        refine si_getR (k' := 64) (d := 7) X hw si_cl6 6 (by decide) gf_RX6_30 rfl rfl rfl (by decide) rfl dX6_traderAtMostRisk_57 ?_
        refine lv_iload_n X.1 X.2.1 dX6_traderAtMostRisk_60 rfl (lv_at hl 3 rfl) ?_
        obtain ⟨v2, ev2, hf⟩ := si_ob hf
        refine si_iald X hw rfl ev2 dX6_traderAtMostRisk_61 ?_
        refine lv_aload_n X.1 X.2.1 dX6_traderAtMostRisk_62 rfl (lv_at hl 0 rfl) ?_
        refine si_getR (k' := 64) (d := 7) X hw si_cl6 6 (by decide) gf_RX6_30 rfl rfl rfl (by decide) rfl dX6_traderAtMostRisk_63 ?_
        refine lv_iload_n X.1 X.2.1 dX6_traderAtMostRisk_66 rfl (lv_at hl 2 rfl) ?_
        obtain ⟨v3, ev3, hf⟩ := si_ob hf
        refine si_iald X hw rfl ev3 dX6_traderAtMostRisk_67 ?_
        refine lv_icmp_le (tgt := 73) X.1 X.2.1 dX6_traderAtMostRisk_68 (by decide) (fun c68 => ?_) (fun c68 => ?_)
        · have hf := si_ip c68 hf
          exact B73 _ _ _ _ _ _ hf hw (lv_sub hl [0, 1, 2, 3] rfl)
        · have hf := si_in c68 hf
          refine lv_iload_n X.1 X.2.1 dX6_traderAtMostRisk_71 rfl (lv_at hl 3 rfl) ?_
          refine lv_istore_n (lv' := [(2, .int x3), (0, .ref (E.2.1 57)), (1, .ref (E.2.1 k1)), (3, .int x3)]) X.1 X.2.1 dX6_traderAtMostRisk_72 rfl hl (by decide) rfl (fun ls hl => ?_)
          exact B73 _ _ _ _ _ _ hf hw (lv_sub hl [1, 2, 0, 3] rfl)
  have B10 : ∀ (n10 : Nat) (x2 : Int32) (S : si_St) (H : Heap) (locs : List Loc) (ls : Array Slot) , f_X6_traderAtMostRisk_l10 F k1 n10 x2 S = some o → si_Ws E A s.heap S H locs → lv_has ls 4 [(0, .ref (E.2.1 57)), (1, .ref (E.2.1 k1)), (2, .int x2)] → W p l e rm_X6_traderAtMostRisk s m args below meth c H locs 0 0 Q (F0 m 10 ls []) := by
    intro n10
    induction n10 with
    | zero => intro x2  S H locs ls  hf; cases hf
    | succ n10 ih10 =>
      intro x2  S H locs ls  hf hw hl
      have hf : f_X6_traderAtMostRisk_h10 F k1 (f_X6_traderAtMostRisk_l10 F k1 n10) x2 S = some o := hf
      unfold f_X6_traderAtMostRisk_h10 at hf
      refine lv_iload_n X.1 X.2.1 dX6_traderAtMostRisk_10 rfl (lv_at hl 2 rfl) ?_
      refine lv_aload_n X.1 X.2.1 dX6_traderAtMostRisk_11 rfl (lv_at hl 0 rfl) ?_
      refine si_getI X hw si_cl6 7 (by decide) gf_RX6_39 rfl rfl rfl dX6_traderAtMostRisk_12 ?_
      refine lv_icmp_ge (tgt := 44) X.1 X.2.1 dX6_traderAtMostRisk_15 (by decide) (fun c15 => ?_) (fun c15 => ?_)
      · have hf := si_ip c15 hf
        refine lv_iconst (v := 0) X.1 X.2.1 dX6_traderAtMostRisk_44 (by decide) ?_
        refine lv_istore_n (lv' := [(2, .int 0), (0, .ref (E.2.1 57)), (1, .ref (E.2.1 k1))]) X.1 X.2.1 dX6_traderAtMostRisk_45 rfl hl (by decide) rfl (fun ls hl => ?_)
        refine lv_iconst (v := 1) X.1 X.2.1 dX6_traderAtMostRisk_46 (by decide) ?_
        refine lv_istore_n (lv' := [(3, .int 1), (2, .int 0), (0, .ref (E.2.1 57)), (1, .ref (E.2.1 k1))]) X.1 X.2.1 dX6_traderAtMostRisk_47 rfl hl (by decide) rfl (fun ls hl => ?_)
        exact B48 F _ _ _ _ _ _ hf hw (lv_sub hl [2, 3, 1, 0] rfl)
      · have hf := si_in c15 hf
        refine lv_aload_n X.1 X.2.1 dX6_traderAtMostRisk_18 rfl (lv_at hl 0 rfl) ?_
        refine si_getR (k' := 64) (d := 7) X hw si_cl6 6 (by decide) gf_RX6_30 rfl rfl rfl (by decide) rfl dX6_traderAtMostRisk_19 ?_
        refine lv_aload_n X.1 X.2.1 dX6_traderAtMostRisk_22 rfl (lv_at hl 1 rfl) ?_
        refine si_getR (k' := (k1 + 1)) (d := 1) X hw si_cl2 4 (by decide) gf_RX6_72 rfl hk1 rfl (by decide) rfl dX6_traderAtMostRisk_23 ?_
        refine lv_iload_n X.1 X.2.1 dX6_traderAtMostRisk_26 rfl (lv_at hl 2 rfl) ?_
        obtain ⟨v4, ev4, hf⟩ := si_ob hf
        refine si_iald X hw (sk_2_1 hk1) ev4 dX6_traderAtMostRisk_27 ?_
        refine lv_dup2_11 X.1 X.2.1 dX6_traderAtMostRisk_28 rfl rfl ?_
        obtain ⟨v5, ev5, hf⟩ := si_ob hf
        refine si_iald X hw rfl ev5 dX6_traderAtMostRisk_29 ?_
        refine lv_aload_n X.1 X.2.1 dX6_traderAtMostRisk_30 rfl (lv_at hl 0 rfl) ?_
        refine si_getR (k' := 60) (d := 3) X hw si_cl6 2 (by decide) gf_RX6_18 rfl rfl rfl (by decide) rfl dX6_traderAtMostRisk_31 ?_
        refine lv_iload_n X.1 X.2.1 dX6_traderAtMostRisk_34 rfl (lv_at hl 2 rfl) ?_
        obtain ⟨v6, ev6, hf⟩ := si_ob hf
        refine si_iald X hw rfl ev6 dX6_traderAtMostRisk_35 ?_
        refine lv_iadd X.1 X.2.1 dX6_traderAtMostRisk_36 ?_
        obtain ⟨S7, eS7, hf⟩ := si_ob hf
        refine si_iast X hw rfl eS7 dX6_traderAtMostRisk_37 (fun H locs hw => ?_)
        obtain ⟨v8, ev8, hf⟩ := si_ob hf
        refine lv_iinc (v := v8) (lv' := [(2, .int v8), (0, .ref (E.2.1 57)), (1, .ref (E.2.1 k1))]) X.1 X.2.1 dX6_traderAtMostRisk_38 hl (k := 2) rfl (Option.some.inj ev8) (by decide) rfl (fun ls hl => ?_)
        refine lv_goto (tgt := 10) X.1 X.2.1 dX6_traderAtMostRisk_41 (by decide) ?_
        exact ih10 _ _ _ _ _ hf hw (lv_sub hl [1, 2, 0] rfl)
  unfold f_X6_traderAtMostRisk at hf
  refine lv_aload_n X.1 X.2.1 dX6_traderAtMostRisk_0 rfl (lv_at hl 0 rfl) ?_
  refine si_getR (k' := 64) (d := 7) X hw si_cl6 6 (by decide) gf_RX6_30 rfl rfl rfl (by decide) rfl dX6_traderAtMostRisk_1 ?_
  refine lv_iconst (v := 0) X.1 X.2.1 dX6_traderAtMostRisk_4 (by decide) ?_
  obtain ⟨S9, eS9, hf⟩ := si_ob hf
  refine si_cSv [.ref (E.2.1 64), .int 0] cal_J7_fill_53178 gm_RX6_40 X hw hA hl.1 (c_J7_fill_53178 l E F 64 rfl 0 S S9 eS9) ⟨⟨rfl, rfl⟩, Nat.le_of_ble_eq_true rfl, Nat.le_of_ble_eq_true rfl⟩ rfl rfl (Nat.le_of_ble_eq_true rfl) ⟨Nat.zero_le _, Nat.zero_le _⟩ dX6_traderAtMostRisk_5 (fun H locs hw => ?_)
  refine lv_iconst (v := 0) X.1 X.2.1 dX6_traderAtMostRisk_8 (by decide) ?_
  refine lv_istore_n (lv' := [(2, .int 0), (0, .ref (E.2.1 57)), (1, .ref (E.2.1 k1))]) X.1 X.2.1 dX6_traderAtMostRisk_9 rfl hl (by decide) rfl (fun ls hl => ?_)
  exact B10 F _ _ _ _ _ hf hw (lv_sub hl [1, 2, 0] rfl)
abbrev rm_X6_scaleAt : Room := { frames := 0, cells := 0, slots := 0, locals := 0 }
set_option maxHeartbeats 4000000 in
set_option maxRecDepth 100000 in
theorem c_X6_scaleAt (l : Launch) (E : si_Ev) (F : Nat) (x1 : Int32) (x2 : Int32) (S : si_St) (o : Int32 × si_St) (hf : f_X6_scaleAt F x1 x2 S = some o) : si_Mi l E yX6_scaleAt cX6_scaleAt 5 (some .int) rm_X6_scaleAt [.ref (E.2.1 57), .int x1, .int x2] S o := by
  refine si_ofWi (plainFor_of_name (by decide +kernel)) (Nat.le_of_ble_eq_true rfl) ?_
  intro p e s m args below meth c ls Q A X hw hA hl hret
  have hl : lv_has ls 5 [(0, .ref (E.2.1 57)), (1, .int x1), (2, .int x2)] := hl
  have B5 : ∀ (n5 : Nat) (x2 : Int32) (x3 : Int32) (x4 : Int32) (S : si_St) (H : Heap) (locs : List Loc) (ls : Array Slot) , f_X6_scaleAt_l5 F n5 x2 x3 x4 S = some o → si_Ws E A s.heap S H locs → lv_has ls 5 [(0, .ref (E.2.1 57)), (2, .int x2), (3, .int x3), (4, .int x4)] → W p l e rm_X6_scaleAt s m args below meth c H locs 0 0 Q (F0 m 5 ls []) := by
    intro n5
    induction n5 with
    | zero => intro x2 x3 x4  S H locs ls  hf; cases hf
    | succ n5 ih5 =>
      have B47 : ∀ (x2 : Int32) (x3 : Int32) (x4 : Int32) (S : si_St) (H : Heap) (locs : List Loc) (ls : Array Slot) , f_X6_scaleAt_h47 F (f_X6_scaleAt_l5 F n5) x2 x3 x4 S = some o → si_Ws E A s.heap S H locs → lv_has ls 5 [(0, .ref (E.2.1 57)), (2, .int x2), (3, .int x3), (4, .int x4)] → W p l e rm_X6_scaleAt s m args below meth c H locs 0 0 Q (F0 m 47 ls []) := by
        intro x2 x3 x4  S H locs ls  hf hw hl
        unfold f_X6_scaleAt_h47 at hf
        obtain ⟨v1, ev1, hf⟩ := si_ob hf
        refine lv_iinc (v := v1) (lv' := [(4, .int v1), (0, .ref (E.2.1 57)), (2, .int x2), (3, .int x3)]) X.1 X.2.1 dX6_scaleAt_47 hl (k := 3) rfl (Option.some.inj ev1) (by decide) rfl (fun ls hl => ?_)
        refine lv_goto (tgt := 5) X.1 X.2.1 dX6_scaleAt_50 (by decide) ?_
        exact ih5 _ _ _ _ _ _ _ hf hw (lv_sub hl [1, 2, 3, 0] rfl)
      intro x2 x3 x4  S H locs ls  hf hw hl
      have hf : f_X6_scaleAt_h5 F (f_X6_scaleAt_l5 F n5) x2 x3 x4 S = some o := hf
      unfold f_X6_scaleAt_h5 at hf
      refine lv_iload X.1 X.2.1 dX6_scaleAt_5 (lv_at hl 3 rfl) ?_
      refine lv_aload_n X.1 X.2.1 dX6_scaleAt_7 rfl (lv_at hl 0 rfl) ?_
      refine si_getI X hw si_cl6 7 (by decide) gf_RX6_39 rfl rfl rfl dX6_scaleAt_8 ?_
      refine lv_icmp_ge (tgt := 53) X.1 X.2.1 dX6_scaleAt_11 (by decide) (fun c11 => ?_) (fun c11 => ?_)
      · have hf := si_ip c11 hf
        refine lv_bipush (v := (-2)) X.1 X.2.1 dX6_scaleAt_53 (by decide) ?_
        exact hret _ _ _ _ _ _ hf hw dX6_scaleAt_55
      · have hf := si_in c11 hf
        refine lv_iload_n X.1 X.2.1 dX6_scaleAt_14 rfl (lv_at hl 1 rfl) ?_
        refine lv_iload X.1 X.2.1 dX6_scaleAt_15 (lv_at hl 3 rfl) ?_
        refine lv_ishr X.1 X.2.1 dX6_scaleAt_17 ?_
        refine lv_iconst (v := 1) X.1 X.2.1 dX6_scaleAt_18 (by decide) ?_
        refine lv_iand X.1 X.2.1 dX6_scaleAt_19 ?_
        refine lv_if_ne (tgt := 47) X.1 X.2.1 dX6_scaleAt_20 (by decide) (fun c20 => ?_) (fun c20 => ?_)
        · have hf := si_in c20 hf
          exact B47 _ _ _ _ _ _ _ hf hw (lv_sub hl [0, 1, 2, 3] rfl)
        · have hf := si_ip c20 hf
          refine lv_iload_n X.1 X.2.1 dX6_scaleAt_23 rfl (lv_at hl 2 rfl) ?_
          refine lv_aload_n X.1 X.2.1 dX6_scaleAt_24 rfl (lv_at hl 0 rfl) ?_
          refine si_getR (k' := 60) (d := 3) X hw si_cl6 2 (by decide) gf_RX6_18 rfl rfl rfl (by decide) rfl dX6_scaleAt_25 ?_
          refine lv_iload X.1 X.2.1 dX6_scaleAt_28 (lv_at hl 3 rfl) ?_
          obtain ⟨v2, ev2, hf⟩ := si_ob hf
          refine si_iald X hw rfl ev2 dX6_scaleAt_30 ?_
          refine lv_icmp_ge (tgt := 37) X.1 X.2.1 dX6_scaleAt_31 (by decide) (fun c31 => ?_) (fun c31 => ?_)
          · have hf := si_ip c31 hf
            refine lv_iload_n X.1 X.2.1 dX6_scaleAt_37 rfl (lv_at hl 2 rfl) ?_
            refine lv_aload_n X.1 X.2.1 dX6_scaleAt_38 rfl (lv_at hl 0 rfl) ?_
            refine si_getR (k' := 60) (d := 3) X hw si_cl6 2 (by decide) gf_RX6_18 rfl rfl rfl (by decide) rfl dX6_scaleAt_39 ?_
            refine lv_iload X.1 X.2.1 dX6_scaleAt_42 (lv_at hl 3 rfl) ?_
            obtain ⟨v3, ev3, hf⟩ := si_ob hf
            refine si_iald X hw rfl ev3 dX6_scaleAt_44 ?_
            refine lv_isub X.1 X.2.1 dX6_scaleAt_45 ?_
            obtain ⟨v4, ev4, hf⟩ := si_ob hf
            refine si_nmI ev4 ?_
            refine lv_istore_n (lv' := [(3, .int v4), (0, .ref (E.2.1 57)), (2, .int x2), (4, .int x4)]) X.1 X.2.1 dX6_scaleAt_46 rfl hl (by decide) rfl (fun ls hl => ?_)
            exact B47 _ _ _ _ _ _ _ hf hw (lv_sub hl [1, 2, 0, 3] rfl)
          · have hf := si_in c31 hf
            refine lv_iload X.1 X.2.1 dX6_scaleAt_34 (lv_at hl 3 rfl) ?_
            exact hret _ _ _ _ _ _ hf hw dX6_scaleAt_36
  unfold f_X6_scaleAt at hf
  refine lv_iload_n X.1 X.2.1 dX6_scaleAt_0 rfl (lv_at hl 1 rfl) ?_
  refine lv_istore_n (lv' := [(3, .int x1), (0, .ref (E.2.1 57)), (1, .int x1), (2, .int x2)]) X.1 X.2.1 dX6_scaleAt_1 rfl hl (by decide) rfl (fun ls hl => ?_)
  refine lv_iconst (v := 0) X.1 X.2.1 dX6_scaleAt_2 (by decide) ?_
  refine lv_istore (lv' := [(4, .int 0), (3, .int x1), (0, .ref (E.2.1 57)), (1, .int x1), (2, .int x2)]) X.1 X.2.1 dX6_scaleAt_3 hl (by decide) rfl (fun ls hl => ?_)
  exact B5 F _ _ _ _ _ _ _ hf hw (lv_sub hl [2, 4, 1, 0] rfl)
abbrev rm_X6_draw : Room := { frames := 1, cells := 0, slots := 0, locals := 24 }
set_option maxHeartbeats 4000000 in
set_option maxRecDepth 100000 in
theorem c_X6_draw (l : Launch) (E : si_Ev) (F : Nat) (x1 : Int32) (x2 : Int32) (S : si_St) (o : Int32 × si_St) (hf : f_X6_draw F x1 x2 S = some o) : si_Mi l E yX6_draw cX6_draw 9 (some .int) rm_X6_draw [.ref (E.2.1 57), .int x1, .int x2] S o := by
  refine si_ofWi (plainFor_of_name (by decide +kernel)) (Nat.le_of_ble_eq_true rfl) ?_
  intro p e s m args below meth c ls Q A X hw hA hl hret
  have hl : lv_has ls 9 [(0, .ref (E.2.1 57)), (1, .int x1), (2, .int x2)] := hl
  have B123 : ∀ (x7 : Int32) (S : si_St) (H : Heap) (locs : List Loc) (ls : Array Slot) , f_X6_draw_h123 F x7 S = some o → si_Ws E A s.heap S H locs → lv_has ls 9 [(7, .int x7)] → W p l e rm_X6_draw s m args below meth c H locs 0 0 Q (F0 m 123 ls []) := by
    intro x7  S H locs ls  hf hw hl
    unfold f_X6_draw_h123 at hf
    refine lv_iload X.1 X.2.1 dX6_draw_123 (lv_at hl 0 rfl) ?_
    exact hret _ _ _ _ _ _ hf hw dX6_draw_125
  have B44 : ∀ (n44 : Nat) (x2 : Int32) (x3 : Int32) (x4 : Int64) (x6 : Int32) (x7 : Int32) (x8 : Int32) (S : si_St) (H : Heap) (locs : List Loc) (ls : Array Slot) , f_X6_draw_l44 F n44 x2 x3 x4 x6 x7 x8 S = some o → si_Ws E A s.heap S H locs → lv_has ls 9 [(0, .ref (E.2.1 57)), (2, .int x2), (3, .int x3), (4, .long x4), (6, .int x6), (7, .int x7), (8, .int x8)] → W p l e rm_X6_draw s m args below meth c H locs 0 0 Q (F0 m 44 ls []) := by
    intro n44
    induction n44 with
    | zero => intro x2 x3 x4 x6 x7 x8  S H locs ls  hf; cases hf
    | succ n44 ih44 =>
      intro x2 x3 x4 x6 x7 x8  S H locs ls  hf hw hl
      have hf : f_X6_draw_h44 F (f_X6_draw_l44 F n44) x2 x3 x4 x6 x7 x8 S = some o := hf
      unfold f_X6_draw_h44 at hf
      refine lv_iload X.1 X.2.1 dX6_draw_44 (lv_at hl 6 rfl) ?_
      refine lv_iload_n X.1 X.2.1 dX6_draw_46 rfl (lv_at hl 1 rfl) ?_
      refine lv_icmp_gt (tgt := 123) X.1 X.2.1 dX6_draw_47 (by decide) (fun c47 => ?_) (fun c47 => ?_)
      · have hf := si_ip c47 hf
        exact B123 _ _ _ _ _ hf hw (lv_sub hl [5] rfl)
      · have hf := si_in c47 hf
        refine lv_iload_n X.1 X.2.1 dX6_draw_50 rfl (lv_at hl 2 rfl) ?_
        refine lv_if_le (tgt := 123) X.1 X.2.1 dX6_draw_51 (by decide) (fun c51 => ?_) (fun c51 => ?_)
        · have hf := si_ip c51 hf
          exact B123 _ _ _ _ _ hf hw (lv_sub hl [5] rfl)
        · have hf := si_in c51 hf
          refine lv_lload X.1 X.2.1 dX6_draw_54 (lv_at hl 3 rfl) ?_
          refine lv_ldc2 (v := (1103515245 : Int64)) X.1 X.2.1 X.2.2.2.1 (si_wd X gk_RX6_85) dX6_draw_56 ?_
          refine lv_lmul X.1 X.2.1 dX6_draw_59 ?_
          refine lv_ldc2 (v := (12345 : Int64)) X.1 X.2.1 X.2.2.2.1 (si_wd X gk_RX6_87) dX6_draw_60 ?_
          refine lv_ladd X.1 X.2.1 dX6_draw_63 ?_
          refine lv_ldc2 (v := (2147483648 : Int64)) X.1 X.2.1 X.2.2.2.1 (si_wd X gk_RX6_89) dX6_draw_64 ?_
          refine lv_lrem X.1 X.2.1 dX6_draw_67 (by decide) ?_
          obtain ⟨v1, ev1, hf⟩ := si_ob hf
          refine si_nmJ ev1 ?_
          refine lv_lstore (lv' := [(4, .long v1), (0, .ref (E.2.1 57)), (2, .int x2), (3, .int x3), (6, .int x6), (7, .int x7), (8, .int x8)]) X.1 X.2.1 dX6_draw_68 hl (by decide) rfl (fun ls hl => ?_)
          refine lv_aload_n X.1 X.2.1 dX6_draw_70 rfl (lv_at hl 1 rfl) ?_
          refine lv_lload X.1 X.2.1 dX6_draw_71 (lv_at hl 0 rfl) ?_
          refine lv_ldc2 (v := (65536 : Int64)) X.1 X.2.1 X.2.2.2.1 (si_wd X gk_RX6_91) dX6_draw_73 ?_
          refine lv_ldiv X.1 X.2.1 dX6_draw_76 (by decide) ?_
          refine lv_iload_n X.1 X.2.1 dX6_draw_77 rfl (lv_at hl 3 rfl) ?_
          refine lv_i2l (v := (Int32.toInt64 x3)) X.1 X.2.1 dX6_draw_78 rfl ?_
          have d2 : ¬ (Int32.toInt64 x3) = 0 := fun h9 => by rw [if_pos h9] at hf; cases hf
          have hf := si_in d2 hf
          refine lv_lrem X.1 X.2.1 dX6_draw_79 d2 ?_
          refine lv_l2i (v := (Int64.toInt32 ((v1 / (65536 : Int64)) - (v1 / (65536 : Int64)) / (Int32.toInt64 x3) * (Int32.toInt64 x3)))) X.1 X.2.1 dX6_draw_80 rfl ?_
          refine lv_iload X.1 X.2.1 dX6_draw_81 (lv_at hl 4 rfl) ?_
          obtain ⟨q3, eq3, hf⟩ := si_ob hf
          refine si_cVi [.int (Int64.toInt32 ((v1 / (65536 : Int64)) - (v1 / (65536 : Int64)) / (Int32.toInt64 x3) * (Int32.toInt64 x3))), .int x6] cal_X6_scaleAt gm_RX6_93 X hw hA hl.1 (c_X6_scaleAt l E F (Int64.toInt32 ((v1 / (65536 : Int64)) - (v1 / (65536 : Int64)) / (Int32.toInt64 x3) * (Int32.toInt64 x3))) x6 S q3 eq3) si_cl6 rfl ⟨⟨rfl, rfl⟩, Nat.le_of_ble_eq_true rfl, Nat.le_of_ble_eq_true rfl⟩ rfl rfl (Nat.le_of_ble_eq_true rfl) ⟨Nat.zero_le _, Nat.zero_le _⟩ dX6_draw_83 (fun H locs hw => ?_)
          refine lv_istore (lv' := [(7, .int q3.1), (4, .long v1), (0, .ref (E.2.1 57)), (2, .int x2), (3, .int x3), (6, .int x6), (8, .int x8)]) X.1 X.2.1 dX6_draw_86 hl (by decide) rfl (fun ls hl => ?_)
          refine lv_iload X.1 X.2.1 dX6_draw_88 (lv_at hl 0 rfl) ?_
          refine lv_bipush (v := (-2)) X.1 X.2.1 dX6_draw_90 (by decide) ?_
          refine lv_icmp_ne (tgt := 98) X.1 X.2.1 dX6_draw_92 (by decide) (fun c92 => ?_) (fun c92 => ?_)
          · have hf := si_in c92 hf
            refine lv_iload X.1 X.2.1 dX6_draw_98 (lv_at hl 5 rfl) ?_
            refine lv_iconst (v := 1) X.1 X.2.1 dX6_draw_100 (by decide) ?_
            refine lv_iload X.1 X.2.1 dX6_draw_101 (lv_at hl 0 rfl) ?_
            refine lv_ishl X.1 X.2.1 dX6_draw_103 ?_
            refine lv_ior X.1 X.2.1 dX6_draw_104 ?_
            obtain ⟨v4, ev4, hf⟩ := si_ob hf
            refine si_nmI ev4 ?_
            refine lv_istore (lv' := [(6, .int v4), (7, .int q3.1), (4, .long v1), (0, .ref (E.2.1 57)), (2, .int x2), (3, .int x3), (8, .int x8)]) X.1 X.2.1 dX6_draw_105 hl (by decide) rfl (fun ls hl => ?_)
            refine lv_iload_n X.1 X.2.1 dX6_draw_107 rfl (lv_at hl 5 rfl) ?_
            refine lv_aload_n X.1 X.2.1 dX6_draw_108 rfl (lv_at hl 3 rfl) ?_
            refine si_getR (k' := 60) (d := 3) X hw si_cl6 2 (by decide) gf_RX6_18 rfl rfl rfl (by decide) rfl dX6_draw_109 ?_
            refine lv_iload X.1 X.2.1 dX6_draw_112 (lv_at hl 1 rfl) ?_
            obtain ⟨v5, ev5, hf⟩ := si_ob hf
            refine si_iald X hw rfl ev5 dX6_draw_114 ?_
            refine lv_isub X.1 X.2.1 dX6_draw_115 ?_
            obtain ⟨v6, ev6, hf⟩ := si_ob hf
            refine si_nmI ev6 ?_
            refine lv_istore_n (lv' := [(3, .int v6), (6, .int v4), (7, .int q3.1), (4, .long v1), (0, .ref (E.2.1 57)), (2, .int x2), (8, .int x8)]) X.1 X.2.1 dX6_draw_116 rfl hl (by decide) rfl (fun ls hl => ?_)
            obtain ⟨v7, ev7, hf⟩ := si_ob hf
            refine lv_iinc (v := v7) (lv' := [(8, .int v7), (3, .int v6), (6, .int v4), (7, .int q3.1), (4, .long v1), (0, .ref (E.2.1 57)), (2, .int x2)]) X.1 X.2.1 dX6_draw_117 hl (k := 6) rfl (Option.some.inj ev7) (by decide) rfl (fun ls hl => ?_)
            refine lv_goto (tgt := 44) X.1 X.2.1 dX6_draw_120 (by decide) ?_
            exact ih44 _ _ _ _ _ _ _ _ _ _ hf hw (lv_sub hl [5, 6, 1, 4, 2, 3, 0] rfl)
          · have hf := si_ip c92 hf
            refine lv_bipush (v := (-2)) X.1 X.2.1 dX6_draw_95 (by decide) ?_
            exact hret _ _ _ _ _ _ hf hw dX6_draw_97
  have B5 : ∀ (n5 : Nat) (x1 : Int32) (x2 : Int32) (x3 : Int32) (x4 : Int32) (S : si_St) (H : Heap) (locs : List Loc) (ls : Array Slot) , f_X6_draw_l5 F n5 x1 x2 x3 x4 S = some o → si_Ws E A s.heap S H locs → lv_has ls 9 [(0, .ref (E.2.1 57)), (1, .int x1), (2, .int x2), (3, .int x3), (4, .int x4)] → W p l e rm_X6_draw s m args below meth c H locs 0 0 Q (F0 m 5 ls []) := by
    intro n5
    induction n5 with
    | zero => intro x1 x2 x3 x4  S H locs ls  hf; cases hf
    | succ n5 ih5 =>
      intro x1 x2 x3 x4  S H locs ls  hf hw hl
      have hf : f_X6_draw_h5 F (f_X6_draw_l5 F n5) x1 x2 x3 x4 S = some o := hf
      unfold f_X6_draw_h5 at hf
      refine lv_iload X.1 X.2.1 dX6_draw_5 (lv_at hl 4 rfl) ?_
      refine lv_aload_n X.1 X.2.1 dX6_draw_7 rfl (lv_at hl 0 rfl) ?_
      refine si_getI X hw si_cl6 7 (by decide) gf_RX6_39 rfl rfl rfl dX6_draw_8 ?_
      refine lv_icmp_ge (tgt := 30) X.1 X.2.1 dX6_draw_11 (by decide) (fun c11 => ?_) (fun c11 => ?_)
      · have hf := si_ip c11 hf
        refine lv_iload_n X.1 X.2.1 dX6_draw_30 rfl (lv_at hl 1 rfl) ?_
        refine lv_i2l (v := (Int32.toInt64 x1)) X.1 X.2.1 dX6_draw_31 rfl ?_
        obtain ⟨v8, ev8, hf⟩ := si_ob hf
        refine si_nmJ ev8 ?_
        refine lv_lstore (lv' := [(4, .long v8), (0, .ref (E.2.1 57)), (1, .int x1), (2, .int x2), (3, .int x3)]) X.1 X.2.1 dX6_draw_32 hl (by decide) rfl (fun ls hl => ?_)
        refine lv_iconst (v := 0) X.1 X.2.1 dX6_draw_34 (by decide) ?_
        refine lv_istore (lv' := [(6, .int 0), (4, .long v8), (0, .ref (E.2.1 57)), (1, .int x1), (2, .int x2), (3, .int x3)]) X.1 X.2.1 dX6_draw_35 hl (by decide) rfl (fun ls hl => ?_)
        refine lv_bipush (v := (-2)) X.1 X.2.1 dX6_draw_37 (by decide) ?_
        refine lv_istore (lv' := [(7, .int (-2)), (6, .int 0), (4, .long v8), (0, .ref (E.2.1 57)), (1, .int x1), (2, .int x2), (3, .int x3)]) X.1 X.2.1 dX6_draw_39 hl (by decide) rfl (fun ls hl => ?_)
        refine lv_iconst (v := 0) X.1 X.2.1 dX6_draw_41 (by decide) ?_
        refine lv_istore (lv' := [(8, .int 0), (7, .int (-2)), (6, .int 0), (4, .long v8), (0, .ref (E.2.1 57)), (1, .int x1), (2, .int x2), (3, .int x3)]) X.1 X.2.1 dX6_draw_42 hl (by decide) rfl (fun ls hl => ?_)
        exact B44 F _ _ _ _ _ _ _ _ _ _ hf hw (lv_sub hl [4, 6, 7, 3, 2, 1, 0] rfl)
      · have hf := si_in c11 hf
        refine lv_iload_n X.1 X.2.1 dX6_draw_14 rfl (lv_at hl 3 rfl) ?_
        refine lv_aload_n X.1 X.2.1 dX6_draw_15 rfl (lv_at hl 0 rfl) ?_
        refine si_getR (k' := 60) (d := 3) X hw si_cl6 2 (by decide) gf_RX6_18 rfl rfl rfl (by decide) rfl dX6_draw_16 ?_
        refine lv_iload X.1 X.2.1 dX6_draw_19 (lv_at hl 4 rfl) ?_
        obtain ⟨v9, ev9, hf⟩ := si_ob hf
        refine si_iald X hw rfl ev9 dX6_draw_21 ?_
        refine lv_iadd X.1 X.2.1 dX6_draw_22 ?_
        obtain ⟨v10, ev10, hf⟩ := si_ob hf
        refine si_nmI ev10 ?_
        refine lv_istore_n (lv' := [(3, .int v10), (0, .ref (E.2.1 57)), (1, .int x1), (2, .int x2), (4, .int x4)]) X.1 X.2.1 dX6_draw_23 rfl hl (by decide) rfl (fun ls hl => ?_)
        obtain ⟨v11, ev11, hf⟩ := si_ob hf
        refine lv_iinc (v := v11) (lv' := [(4, .int v11), (3, .int v10), (0, .ref (E.2.1 57)), (1, .int x1), (2, .int x2)]) X.1 X.2.1 dX6_draw_24 hl (k := 4) rfl (Option.some.inj ev11) (by decide) rfl (fun ls hl => ?_)
        refine lv_goto (tgt := 5) X.1 X.2.1 dX6_draw_27 (by decide) ?_
        exact ih5 _ _ _ _ _ _ _ _ hf hw (lv_sub hl [2, 3, 4, 1, 0] rfl)
  unfold f_X6_draw at hf
  refine lv_iconst (v := 0) X.1 X.2.1 dX6_draw_0 (by decide) ?_
  refine lv_istore_n (lv' := [(3, .int 0), (0, .ref (E.2.1 57)), (1, .int x1), (2, .int x2)]) X.1 X.2.1 dX6_draw_1 rfl hl (by decide) rfl (fun ls hl => ?_)
  refine lv_iconst (v := 0) X.1 X.2.1 dX6_draw_2 (by decide) ?_
  refine lv_istore (lv' := [(4, .int 0), (3, .int 0), (0, .ref (E.2.1 57)), (1, .int x1), (2, .int x2)]) X.1 X.2.1 dX6_draw_3 hl (by decide) rfl (fun ls hl => ?_)
  exact B5 F _ _ _ _ _ _ _ _ hf hw (lv_sub hl [2, 3, 4, 1, 0] rfl)

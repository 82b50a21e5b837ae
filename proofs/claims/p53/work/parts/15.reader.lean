theorem dX3_addBytes_0 : decode cX3_addBytes 0 = .ok (.bipush 24, 2) := by decide +kernel
theorem dX3_addBytes_2 : decode cX3_addBytes 2 = .ok (.istore_n 2, 1) := by decide +kernel
theorem dX3_addBytes_3 : decode cX3_addBytes 3 = .ok (.iload_n 2, 1) := by decide +kernel
theorem dX3_addBytes_4 : decode cX3_addBytes 4 = .ok (.ifCond .lt 42, 3) := by decide +kernel
theorem dX3_addBytes_7 : decode cX3_addBytes 7 = .ok (.aload_n 0, 1) := by decide +kernel
theorem dX3_addBytes_8 : decode cX3_addBytes 8 = .ok (.getfield 19, 3) := by decide +kernel
theorem dX3_addBytes_11 : decode cX3_addBytes 11 = .ok (.sipush 800, 3) := by decide +kernel
theorem dX3_addBytes_14 : decode cX3_addBytes 14 = .ok (.if_icmp .ge 32, 3) := by decide +kernel
theorem dX3_addBytes_17 : decode cX3_addBytes 17 = .ok (.aload_n 0, 1) := by decide +kernel
theorem dX3_addBytes_18 : decode cX3_addBytes 18 = .ok (.getfield 9, 3) := by decide +kernel
theorem dX3_addBytes_21 : decode cX3_addBytes 21 = .ok (.aload_n 0, 1) := by decide +kernel
theorem dX3_addBytes_22 : decode cX3_addBytes 22 = .ok (.getfield 19, 3) := by decide +kernel
theorem dX3_addBytes_25 : decode cX3_addBytes 25 = .ok (.iload_n 1, 1) := by decide +kernel
theorem dX3_addBytes_26 : decode cX3_addBytes 26 = .ok (.iload_n 2, 1) := by decide +kernel
theorem dX3_addBytes_27 : decode cX3_addBytes 27 = .ok (.iushr, 1) := by decide +kernel
theorem dX3_addBytes_28 : decode cX3_addBytes 28 = .ok (.i2b, 1) := by decide +kernel
theorem dX3_addBytes_29 : decode cX3_addBytes 29 = .ok (.bastore, 1) := by decide +kernel
theorem dX3_addBytes_30 : decode cX3_addBytes 30 = .ok (.aload_n 0, 1) := by decide +kernel
theorem dX3_addBytes_31 : decode cX3_addBytes 31 = .ok (.dup, 1) := by decide +kernel
theorem dX3_addBytes_32 : decode cX3_addBytes 32 = .ok (.getfield 19, 3) := by decide +kernel
theorem dX3_addBytes_35 : decode cX3_addBytes 35 = .ok (.iconst 1, 1) := by decide +kernel
theorem dX3_addBytes_36 : decode cX3_addBytes 36 = .ok (.iadd, 1) := by decide +kernel
theorem dX3_addBytes_37 : decode cX3_addBytes 37 = .ok (.putfield 19, 3) := by decide +kernel
theorem dX3_addBytes_40 : decode cX3_addBytes 40 = .ok (.iinc 2 (-8), 3) := by decide +kernel
theorem dX3_addBytes_43 : decode cX3_addBytes 43 = .ok (.goto (-40), 3) := by decide +kernel
theorem dX3_addBytes_46 : decode cX3_addBytes 46 = .ok (.return_, 1) := by decide +kernel
theorem dX3_isWord_0 : decode cX3_isWord 0 = .ok (.aload_n 0, 1) := by decide +kernel
theorem dX3_isWord_1 : decode cX3_isWord 1 = .ok (.getfield 39, 3) := by decide +kernel
theorem dX3_isWord_4 : decode cX3_isWord 4 = .ok (.iconst 1, 1) := by decide +kernel
theorem dX3_isWord_5 : decode cX3_isWord 5 = .ok (.if_icmp .ne 19, 3) := by decide +kernel
theorem dX3_isWord_8 : decode cX3_isWord 8 = .ok (.aload_n 0, 1) := by decide +kernel
theorem dX3_isWord_9 : decode cX3_isWord 9 = .ok (.getfield 33, 3) := by decide +kernel
theorem dX3_isWord_12 : decode cX3_isWord 12 = .ok (.aload_n 0, 1) := by decide +kernel
theorem dX3_isWord_13 : decode cX3_isWord 13 = .ok (.getfield 133, 3) := by decide +kernel
theorem dX3_isWord_16 : decode cX3_isWord 16 = .ok (.isub, 1) := by decide +kernel
theorem dX3_isWord_17 : decode cX3_isWord 17 = .ok (.aload_n 1, 1) := by decide +kernel
theorem dX3_isWord_18 : decode cX3_isWord 18 = .ok (.invokevirtual 146, 3) := by decide +kernel
theorem dX3_isWord_21 : decode cX3_isWord 21 = .ok (.if_icmp .eq 5, 3) := by decide +kernel
theorem dX3_isWord_24 : decode cX3_isWord 24 = .ok (.iconst 0, 1) := by decide +kernel
theorem dX3_isWord_25 : decode cX3_isWord 25 = .ok (.ireturn, 1) := by decide +kernel
theorem dX3_isWord_26 : decode cX3_isWord 26 = .ok (.iconst 0, 1) := by decide +kernel
theorem dX3_isWord_27 : decode cX3_isWord 27 = .ok (.istore_n 2, 1) := by decide +kernel
theorem dX3_isWord_28 : decode cX3_isWord 28 = .ok (.iload_n 2, 1) := by decide +kernel
theorem dX3_isWord_29 : decode cX3_isWord 29 = .ok (.aload_n 1, 1) := by decide +kernel
theorem dX3_isWord_30 : decode cX3_isWord 30 = .ok (.invokevirtual 146, 3) := by decide +kernel
theorem dX3_isWord_33 : decode cX3_isWord 33 = .ok (.if_icmp .ge 30, 3) := by decide +kernel
theorem dX3_isWord_36 : decode cX3_isWord 36 = .ok (.aload_n 0, 1) := by decide +kernel
theorem dX3_isWord_37 : decode cX3_isWord 37 = .ok (.getfield 9, 3) := by decide +kernel
theorem dX3_isWord_40 : decode cX3_isWord 40 = .ok (.aload_n 0, 1) := by decide +kernel
theorem dX3_isWord_41 : decode cX3_isWord 41 = .ok (.getfield 133, 3) := by decide +kernel
theorem dX3_isWord_44 : decode cX3_isWord 44 = .ok (.iload_n 2, 1) := by decide +kernel
theorem dX3_isWord_45 : decode cX3_isWord 45 = .ok (.iadd, 1) := by decide +kernel
theorem dX3_isWord_46 : decode cX3_isWord 46 = .ok (.baload, 1) := by decide +kernel
theorem dX3_isWord_47 : decode cX3_isWord 47 = .ok (.aload_n 1, 1) := by decide +kernel
theorem dX3_isWord_48 : decode cX3_isWord 48 = .ok (.iload_n 2, 1) := by decide +kernel
theorem dX3_isWord_49 : decode cX3_isWord 49 = .ok (.invokevirtual 151, 3) := by decide +kernel
theorem dX3_isWord_52 : decode cX3_isWord 52 = .ok (.if_icmp .eq 5, 3) := by decide +kernel
theorem dX3_isWord_55 : decode cX3_isWord 55 = .ok (.iconst 0, 1) := by decide +kernel
theorem dX3_isWord_56 : decode cX3_isWord 56 = .ok (.ireturn, 1) := by decide +kernel
theorem dX3_isWord_57 : decode cX3_isWord 57 = .ok (.iinc 2 1, 3) := by decide +kernel
theorem dX3_isWord_60 : decode cX3_isWord 60 = .ok (.goto (-32), 3) := by decide +kernel
theorem dX3_isWord_63 : decode cX3_isWord 63 = .ok (.iconst 1, 1) := by decide +kernel
theorem dX3_isWord_64 : decode cX3_isWord 64 = .ok (.ireturn, 1) := by decide +kernel
theorem dX3_passRun_0 : decode cX3_passRun 0 = .ok (.aload_n 0, 1) := by decide +kernel
theorem dX3_passRun_1 : decode cX3_passRun 1 = .ok (.getfield 33, 3) := by decide +kernel
theorem dX3_passRun_4 : decode cX3_passRun 4 = .ok (.aload_n 0, 1) := by decide +kernel
theorem dX3_passRun_5 : decode cX3_passRun 5 = .ok (.getfield 30, 3) := by decide +kernel
theorem dX3_passRun_8 : decode cX3_passRun 8 = .ok (.if_icmp .ge 42, 3) := by decide +kernel
theorem dX3_passRun_11 : decode cX3_passRun 11 = .ok (.aload_n 0, 1) := by decide +kernel
theorem dX3_passRun_12 : decode cX3_passRun 12 = .ok (.getfield 9, 3) := by decide +kernel
theorem dX3_passRun_15 : decode cX3_passRun 15 = .ok (.aload_n 0, 1) := by decide +kernel
theorem dX3_passRun_16 : decode cX3_passRun 16 = .ok (.getfield 33, 3) := by decide +kernel
theorem dX3_passRun_19 : decode cX3_passRun 19 = .ok (.baload, 1) := by decide +kernel
theorem dX3_passRun_20 : decode cX3_passRun 20 = .ok (.iload_n 1, 1) := by decide +kernel
theorem dX3_passRun_21 : decode cX3_passRun 21 = .ok (.if_icmp .lt 29, 3) := by decide +kernel
theorem dX3_passRun_24 : decode cX3_passRun 24 = .ok (.aload_n 0, 1) := by decide +kernel
theorem dX3_passRun_25 : decode cX3_passRun 25 = .ok (.getfield 9, 3) := by decide +kernel
theorem dX3_passRun_28 : decode cX3_passRun 28 = .ok (.aload_n 0, 1) := by decide +kernel
theorem dX3_passRun_29 : decode cX3_passRun 29 = .ok (.getfield 33, 3) := by decide +kernel
theorem dX3_passRun_32 : decode cX3_passRun 32 = .ok (.baload, 1) := by decide +kernel
theorem dX3_passRun_33 : decode cX3_passRun 33 = .ok (.iload_n 2, 1) := by decide +kernel
theorem dX3_passRun_34 : decode cX3_passRun 34 = .ok (.if_icmp .gt 16, 3) := by decide +kernel
theorem dX3_passRun_37 : decode cX3_passRun 37 = .ok (.aload_n 0, 1) := by decide +kernel
theorem dX3_passRun_38 : decode cX3_passRun 38 = .ok (.dup, 1) := by decide +kernel
theorem dX3_passRun_39 : decode cX3_passRun 39 = .ok (.getfield 33, 3) := by decide +kernel
theorem dX3_passRun_42 : decode cX3_passRun 42 = .ok (.iconst 1, 1) := by decide +kernel
theorem dX3_passRun_43 : decode cX3_passRun 43 = .ok (.iadd, 1) := by decide +kernel
theorem dX3_passRun_44 : decode cX3_passRun 44 = .ok (.putfield 33, 3) := by decide +kernel
theorem dX3_passRun_47 : decode cX3_passRun 47 = .ok (.goto (-47), 3) := by decide +kernel
theorem dX3_passRun_50 : decode cX3_passRun 50 = .ok (.return_, 1) := by decide +kernel
theorem dX3_advance_0 : decode cX3_advance 0 = .ok (.aload_n 0, 1) := by decide +kernel
theorem dX3_advance_1 : decode cX3_advance 1 = .ok (.getfield 33, 3) := by decide +kernel
theorem dX3_advance_4 : decode cX3_advance 4 = .ok (.aload_n 0, 1) := by decide +kernel
theorem dX3_advance_5 : decode cX3_advance 5 = .ok (.getfield 30, 3) := by decide +kernel
theorem dX3_advance_8 : decode cX3_advance 8 = .ok (.if_icmp .ge 44, 3) := by decide +kernel
theorem dX3_advance_11 : decode cX3_advance 11 = .ok (.aload_n 0, 1) := by decide +kernel
theorem dX3_advance_12 : decode cX3_advance 12 = .ok (.getfield 9, 3) := by decide +kernel
theorem dX3_advance_15 : decode cX3_advance 15 = .ok (.aload_n 0, 1) := by decide +kernel
theorem dX3_advance_16 : decode cX3_advance 16 = .ok (.getfield 33, 3) := by decide +kernel
theorem dX3_advance_19 : decode cX3_advance 19 = .ok (.baload, 1) := by decide +kernel
theorem dX3_advance_20 : decode cX3_advance 20 = .ok (.bipush 32, 2) := by decide +kernel
theorem dX3_advance_22 : decode cX3_advance 22 = .ok (.if_icmp .eq 17, 3) := by decide +kernel
theorem dX3_advance_25 : decode cX3_advance 25 = .ok (.aload_n 0, 1) := by decide +kernel
theorem dX3_advance_26 : decode cX3_advance 26 = .ok (.getfield 9, 3) := by decide +kernel
theorem dX3_advance_29 : decode cX3_advance 29 = .ok (.aload_n 0, 1) := by decide +kernel
theorem dX3_advance_30 : decode cX3_advance 30 = .ok (.getfield 33, 3) := by decide +kernel
theorem dX3_advance_33 : decode cX3_advance 33 = .ok (.baload, 1) := by decide +kernel
theorem dX3_advance_34 : decode cX3_advance 34 = .ok (.bipush 10, 2) := by decide +kernel
theorem dX3_advance_36 : decode cX3_advance 36 = .ok (.if_icmp .ne 16, 3) := by decide +kernel
theorem dX3_advance_39 : decode cX3_advance 39 = .ok (.aload_n 0, 1) := by decide +kernel
theorem dX3_advance_40 : decode cX3_advance 40 = .ok (.dup, 1) := by decide +kernel
theorem dX3_advance_41 : decode cX3_advance 41 = .ok (.getfield 33, 3) := by decide +kernel
theorem dX3_advance_44 : decode cX3_advance 44 = .ok (.iconst 1, 1) := by decide +kernel
theorem dX3_advance_45 : decode cX3_advance 45 = .ok (.iadd, 1) := by decide +kernel
theorem dX3_advance_46 : decode cX3_advance 46 = .ok (.putfield 33, 3) := by decide +kernel
theorem dX3_advance_49 : decode cX3_advance 49 = .ok (.goto (-49), 3) := by decide +kernel
theorem dX3_advance_52 : decode cX3_advance 52 = .ok (.aload_n 0, 1) := by decide +kernel
theorem dX3_advance_53 : decode cX3_advance 53 = .ok (.aload_n 0, 1) := by decide +kernel
theorem dX3_advance_54 : decode cX3_advance 54 = .ok (.getfield 33, 3) := by decide +kernel
theorem dX3_advance_57 : decode cX3_advance 57 = .ok (.putfield 133, 3) := by decide +kernel
theorem dX3_advance_60 : decode cX3_advance 60 = .ok (.aload_n 0, 1) := by decide +kernel
theorem dX3_advance_61 : decode cX3_advance 61 = .ok (.getfield 33, 3) := by decide +kernel
theorem dX3_advance_64 : decode cX3_advance 64 = .ok (.aload_n 0, 1) := by decide +kernel
theorem dX3_advance_65 : decode cX3_advance 65 = .ok (.getfield 30, 3) := by decide +kernel
theorem dX3_advance_68 : decode cX3_advance 68 = .ok (.if_icmp .lt 9, 3) := by decide +kernel
theorem dX3_advance_71 : decode cX3_advance 71 = .ok (.aload_n 0, 1) := by decide +kernel
theorem dX3_advance_72 : decode cX3_advance 72 = .ok (.iconst 0, 1) := by decide +kernel
theorem dX3_advance_73 : decode cX3_advance 73 = .ok (.putfield 39, 3) := by decide +kernel
theorem dX3_advance_76 : decode cX3_advance 76 = .ok (.return_, 1) := by decide +kernel
theorem dX3_advance_77 : decode cX3_advance 77 = .ok (.aload_n 0, 1) := by decide +kernel
theorem dX3_advance_78 : decode cX3_advance 78 = .ok (.getfield 9, 3) := by decide +kernel
theorem dX3_advance_81 : decode cX3_advance 81 = .ok (.aload_n 0, 1) := by decide +kernel
theorem dX3_advance_82 : decode cX3_advance 82 = .ok (.getfield 33, 3) := by decide +kernel
theorem dX3_advance_85 : decode cX3_advance 85 = .ok (.baload, 1) := by decide +kernel
theorem dX3_advance_86 : decode cX3_advance 86 = .ok (.istore_n 1, 1) := by decide +kernel
theorem dX3_advance_87 : decode cX3_advance 87 = .ok (.iload_n 1, 1) := by decide +kernel
theorem dX3_advance_88 : decode cX3_advance 88 = .ok (.bipush 97, 2) := by decide +kernel
theorem dX3_advance_90 : decode cX3_advance 90 = .ok (.if_icmp .lt 43, 3) := by decide +kernel
theorem dX3_advance_93 : decode cX3_advance 93 = .ok (.iload_n 1, 1) := by decide +kernel
theorem dX3_advance_94 : decode cX3_advance 94 = .ok (.bipush 122, 2) := by decide +kernel
theorem dX3_advance_96 : decode cX3_advance 96 = .ok (.if_icmp .gt 37, 3) := by decide +kernel
theorem dX3_advance_99 : decode cX3_advance 99 = .ok (.aload_n 0, 1) := by decide +kernel
theorem dX3_advance_100 : decode cX3_advance 100 = .ok (.bipush 97, 2) := by decide +kernel
theorem dX3_advance_102 : decode cX3_advance 102 = .ok (.bipush 122, 2) := by decide +kernel
theorem dX3_advance_104 : decode cX3_advance 104 = .ok (.invokevirtual 155, 3) := by decide +kernel
theorem dX3_advance_107 : decode cX3_advance 107 = .ok (.aload_n 0, 1) := by decide +kernel
theorem dX3_advance_108 : decode cX3_advance 108 = .ok (.aload_n 0, 1) := by decide +kernel
theorem dX3_advance_109 : decode cX3_advance 109 = .ok (.getfield 33, 3) := by decide +kernel
theorem dX3_advance_112 : decode cX3_advance 112 = .ok (.aload_n 0, 1) := by decide +kernel
theorem dX3_advance_113 : decode cX3_advance 113 = .ok (.getfield 133, 3) := by decide +kernel
theorem dX3_advance_116 : decode cX3_advance 116 = .ok (.isub, 1) := by decide +kernel
theorem dX3_advance_117 : decode cX3_advance 117 = .ok (.bipush 8, 2) := by decide +kernel
theorem dX3_advance_119 : decode cX3_advance 119 = .ok (.if_icmp .gt 7, 3) := by decide +kernel
theorem dX3_advance_122 : decode cX3_advance 122 = .ok (.iconst 1, 1) := by decide +kernel
theorem dX3_advance_123 : decode cX3_advance 123 = .ok (.goto 4, 3) := by decide +kernel
theorem dX3_advance_126 : decode cX3_advance 126 = .ok (.iconst 4, 1) := by decide +kernel
theorem dX3_advance_127 : decode cX3_advance 127 = .ok (.putfield 39, 3) := by decide +kernel
theorem dX3_advance_130 : decode cX3_advance 130 = .ok (.goto 74, 3) := by decide +kernel
theorem dX3_advance_133 : decode cX3_advance 133 = .ok (.iload_n 1, 1) := by decide +kernel
theorem dX3_advance_134 : decode cX3_advance 134 = .ok (.bipush 48, 2) := by decide +kernel
theorem dX3_advance_136 : decode cX3_advance 136 = .ok (.if_icmp .lt 43, 3) := by decide +kernel
theorem dX3_advance_139 : decode cX3_advance 139 = .ok (.iload_n 1, 1) := by decide +kernel
theorem dX3_advance_140 : decode cX3_advance 140 = .ok (.bipush 57, 2) := by decide +kernel
theorem dX3_advance_142 : decode cX3_advance 142 = .ok (.if_icmp .gt 37, 3) := by decide +kernel
theorem dX3_advance_145 : decode cX3_advance 145 = .ok (.aload_n 0, 1) := by decide +kernel
theorem dX3_advance_146 : decode cX3_advance 146 = .ok (.bipush 48, 2) := by decide +kernel
theorem dX3_advance_148 : decode cX3_advance 148 = .ok (.bipush 57, 2) := by decide +kernel
theorem dX3_advance_150 : decode cX3_advance 150 = .ok (.invokevirtual 155, 3) := by decide +kernel
theorem dX3_advance_153 : decode cX3_advance 153 = .ok (.aload_n 0, 1) := by decide +kernel
theorem dX3_advance_154 : decode cX3_advance 154 = .ok (.aload_n 0, 1) := by decide +kernel
theorem dX3_advance_155 : decode cX3_advance 155 = .ok (.getfield 33, 3) := by decide +kernel
theorem dX3_advance_158 : decode cX3_advance 158 = .ok (.aload_n 0, 1) := by decide +kernel
theorem dX3_advance_159 : decode cX3_advance 159 = .ok (.getfield 133, 3) := by decide +kernel
theorem dX3_advance_162 : decode cX3_advance 162 = .ok (.isub, 1) := by decide +kernel
theorem dX3_advance_163 : decode cX3_advance 163 = .ok (.bipush 6, 2) := by decide +kernel
theorem dX3_advance_165 : decode cX3_advance 165 = .ok (.if_icmp .gt 7, 3) := by decide +kernel
theorem dX3_advance_168 : decode cX3_advance 168 = .ok (.iconst 2, 1) := by decide +kernel
theorem dX3_advance_169 : decode cX3_advance 169 = .ok (.goto 4, 3) := by decide +kernel
theorem dX3_advance_172 : decode cX3_advance 172 = .ok (.iconst 4, 1) := by decide +kernel
theorem dX3_advance_173 : decode cX3_advance 173 = .ok (.putfield 39, 3) := by decide +kernel
theorem dX3_advance_176 : decode cX3_advance 176 = .ok (.goto 28, 3) := by decide +kernel
theorem dX3_advance_179 : decode cX3_advance 179 = .ok (.aload_n 0, 1) := by decide +kernel
theorem dX3_advance_180 : decode cX3_advance 180 = .ok (.dup, 1) := by decide +kernel
theorem dX3_advance_181 : decode cX3_advance 181 = .ok (.getfield 33, 3) := by decide +kernel
theorem dX3_advance_184 : decode cX3_advance 184 = .ok (.iconst 1, 1) := by decide +kernel
theorem dX3_advance_185 : decode cX3_advance 185 = .ok (.iadd, 1) := by decide +kernel
theorem dX3_advance_186 : decode cX3_advance 186 = .ok (.putfield 33, 3) := by decide +kernel
theorem dX3_advance_189 : decode cX3_advance 189 = .ok (.aload_n 0, 1) := by decide +kernel
theorem dX3_advance_190 : decode cX3_advance 190 = .ok (.iload_n 1, 1) := by decide +kernel
theorem dX3_advance_191 : decode cX3_advance 191 = .ok (.bipush 59, 2) := by decide +kernel
theorem dX3_advance_193 : decode cX3_advance 193 = .ok (.if_icmp .ne 7, 3) := by decide +kernel
theorem dX3_advance_196 : decode cX3_advance 196 = .ok (.iconst 3, 1) := by decide +kernel
theorem dX3_advance_197 : decode cX3_advance 197 = .ok (.goto 4, 3) := by decide +kernel
theorem dX3_advance_200 : decode cX3_advance 200 = .ok (.iconst 4, 1) := by decide +kernel
theorem dX3_advance_201 : decode cX3_advance 201 = .ok (.putfield 39, 3) := by decide +kernel
theorem dX3_advance_204 : decode cX3_advance 204 = .ok (.return_, 1) := by decide +kernel
theorem dX3_failAt_0 : decode cX3_failAt 0 = .ok (.aload_n 0, 1) := by decide +kernel
theorem dX3_failAt_1 : decode cX3_failAt 1 = .ok (.getfield 27, 3) := by decide +kernel
theorem dX3_failAt_4 : decode cX3_failAt 4 = .ok (.ifCond .ne 13, 3) := by decide +kernel
theorem dX3_failAt_7 : decode cX3_failAt 7 = .ok (.aload_n 0, 1) := by decide +kernel
theorem dX3_failAt_8 : decode cX3_failAt 8 = .ok (.iload_n 1, 1) := by decide +kernel
theorem dX3_failAt_9 : decode cX3_failAt 9 = .ok (.putfield 27, 3) := by decide +kernel
theorem dX3_failAt_12 : decode cX3_failAt 12 = .ok (.aload_n 0, 1) := by decide +kernel
theorem dX3_failAt_13 : decode cX3_failAt 13 = .ok (.iload_n 2, 1) := by decide +kernel
theorem dX3_failAt_14 : decode cX3_failAt 14 = .ok (.putfield 15, 3) := by decide +kernel
theorem dX3_failAt_17 : decode cX3_failAt 17 = .ok (.return_, 1) := by decide +kernel
theorem dX3_fail_0 : decode cX3_fail 0 = .ok (.aload_n 0, 1) := by decide +kernel
theorem dX3_fail_1 : decode cX3_fail 1 = .ok (.iload_n 1, 1) := by decide +kernel
theorem dX3_fail_2 : decode cX3_fail 2 = .ok (.aload_n 0, 1) := by decide +kernel
theorem dX3_fail_3 : decode cX3_fail 3 = .ok (.getfield 133, 3) := by decide +kernel
theorem dX3_fail_6 : decode cX3_fail 6 = .ok (.invokevirtual 139, 3) := by decide +kernel
theorem dX3_fail_9 : decode cX3_fail 9 = .ok (.return_, 1) := by decide +kernel
theorem dX3_takeSemicolon_0 : decode cX3_takeSemicolon 0 = .ok (.aload_n 0, 1) := by decide +kernel
theorem dX3_takeSemicolon_1 : decode cX3_takeSemicolon 1 = .ok (.getfield 27, 3) := by decide +kernel
theorem dX3_takeSemicolon_4 : decode cX3_takeSemicolon 4 = .ok (.ifCond .eq 4, 3) := by decide +kernel
theorem dX3_takeSemicolon_7 : decode cX3_takeSemicolon 7 = .ok (.return_, 1) := by decide +kernel
theorem dX3_takeSemicolon_8 : decode cX3_takeSemicolon 8 = .ok (.aload_n 0, 1) := by decide +kernel
theorem dX3_takeSemicolon_9 : decode cX3_takeSemicolon 9 = .ok (.getfield 39, 3) := by decide +kernel
theorem dX3_takeSemicolon_12 : decode cX3_takeSemicolon 12 = .ok (.iconst 3, 1) := by decide +kernel
theorem dX3_takeSemicolon_13 : decode cX3_takeSemicolon 13 = .ok (.if_icmp .ne 10, 3) := by decide +kernel
theorem dX3_takeSemicolon_16 : decode cX3_takeSemicolon 16 = .ok (.aload_n 0, 1) := by decide +kernel
theorem dX3_takeSemicolon_17 : decode cX3_takeSemicolon 17 = .ok (.invokevirtual 36, 3) := by decide +kernel
theorem dX3_takeSemicolon_20 : decode cX3_takeSemicolon 20 = .ok (.goto 8, 3) := by decide +kernel
theorem dX3_takeSemicolon_23 : decode cX3_takeSemicolon 23 = .ok (.aload_n 0, 1) := by decide +kernel
theorem dX3_takeSemicolon_24 : decode cX3_takeSemicolon 24 = .ok (.iconst 1, 1) := by decide +kernel
theorem dX3_takeSemicolon_25 : decode cX3_takeSemicolon 25 = .ok (.invokevirtual 79, 3) := by decide +kernel
theorem dX3_takeSemicolon_28 : decode cX3_takeSemicolon 28 = .ok (.return_, 1) := by decide +kernel
theorem dX3_numberOfToken_0 : decode cX3_numberOfToken 0 = .ok (.iconst 0, 1) := by decide +kernel
theorem dX3_numberOfToken_1 : decode cX3_numberOfToken 1 = .ok (.istore_n 1, 1) := by decide +kernel
theorem dX3_numberOfToken_2 : decode cX3_numberOfToken 2 = .ok (.aload_n 0, 1) := by decide +kernel
theorem dX3_numberOfToken_3 : decode cX3_numberOfToken 3 = .ok (.getfield 133, 3) := by decide +kernel
theorem dX3_numberOfToken_6 : decode cX3_numberOfToken 6 = .ok (.istore_n 2, 1) := by decide +kernel
theorem dX3_numberOfToken_7 : decode cX3_numberOfToken 7 = .ok (.iload_n 2, 1) := by decide +kernel
theorem dX3_numberOfToken_8 : decode cX3_numberOfToken 8 = .ok (.aload_n 0, 1) := by decide +kernel
theorem dX3_numberOfToken_9 : decode cX3_numberOfToken 9 = .ok (.getfield 33, 3) := by decide +kernel
theorem dX3_numberOfToken_12 : decode cX3_numberOfToken 12 = .ok (.if_icmp .ge 24, 3) := by decide +kernel
theorem dX3_numberOfToken_15 : decode cX3_numberOfToken 15 = .ok (.iload_n 1, 1) := by decide +kernel
theorem dX3_numberOfToken_16 : decode cX3_numberOfToken 16 = .ok (.bipush 10, 2) := by decide +kernel
theorem dX3_numberOfToken_18 : decode cX3_numberOfToken 18 = .ok (.imul, 1) := by decide +kernel
theorem dX3_numberOfToken_19 : decode cX3_numberOfToken 19 = .ok (.aload_n 0, 1) := by decide +kernel
theorem dX3_numberOfToken_20 : decode cX3_numberOfToken 20 = .ok (.getfield 9, 3) := by decide +kernel
theorem dX3_numberOfToken_23 : decode cX3_numberOfToken 23 = .ok (.iload_n 2, 1) := by decide +kernel
theorem dX3_numberOfToken_24 : decode cX3_numberOfToken 24 = .ok (.baload, 1) := by decide +kernel
theorem dX3_numberOfToken_25 : decode cX3_numberOfToken 25 = .ok (.bipush 48, 2) := by decide +kernel
theorem dX3_numberOfToken_27 : decode cX3_numberOfToken 27 = .ok (.isub, 1) := by decide +kernel
theorem dX3_numberOfToken_28 : decode cX3_numberOfToken 28 = .ok (.iadd, 1) := by decide +kernel
theorem dX3_numberOfToken_29 : decode cX3_numberOfToken 29 = .ok (.istore_n 1, 1) := by decide +kernel
theorem dX3_numberOfToken_30 : decode cX3_numberOfToken 30 = .ok (.iinc 2 1, 3) := by decide +kernel
theorem dX3_numberOfToken_33 : decode cX3_numberOfToken 33 = .ok (.goto (-26), 3) := by decide +kernel
theorem dX3_numberOfToken_36 : decode cX3_numberOfToken 36 = .ok (.iload_n 1, 1) := by decide +kernel
theorem dX3_numberOfToken_37 : decode cX3_numberOfToken 37 = .ok (.ireturn, 1) := by decide +kernel
theorem dX3_takeNumber_0 : decode cX3_takeNumber 0 = .ok (.aload_n 0, 1) := by decide +kernel
theorem dX3_takeNumber_1 : decode cX3_takeNumber 1 = .ok (.getfield 27, 3) := by decide +kernel
theorem dX3_takeNumber_4 : decode cX3_takeNumber 4 = .ok (.ifCond .eq 5, 3) := by decide +kernel
theorem dX3_takeNumber_7 : decode cX3_takeNumber 7 = .ok (.iconst 0, 1) := by decide +kernel
theorem dX3_takeNumber_8 : decode cX3_takeNumber 8 = .ok (.ireturn, 1) := by decide +kernel
theorem dX3_takeNumber_9 : decode cX3_takeNumber 9 = .ok (.aload_n 0, 1) := by decide +kernel
theorem dX3_takeNumber_10 : decode cX3_takeNumber 10 = .ok (.getfield 39, 3) := by decide +kernel
theorem dX3_takeNumber_13 : decode cX3_takeNumber 13 = .ok (.iconst 2, 1) := by decide +kernel
theorem dX3_takeNumber_14 : decode cX3_takeNumber 14 = .ok (.if_icmp .eq 10, 3) := by decide +kernel
theorem dX3_takeNumber_17 : decode cX3_takeNumber 17 = .ok (.aload_n 0, 1) := by decide +kernel
theorem dX3_takeNumber_18 : decode cX3_takeNumber 18 = .ok (.iconst 1, 1) := by decide +kernel
theorem dX3_takeNumber_19 : decode cX3_takeNumber 19 = .ok (.invokevirtual 79, 3) := by decide +kernel
theorem dX3_takeNumber_22 : decode cX3_takeNumber 22 = .ok (.iconst 0, 1) := by decide +kernel
theorem dX3_takeNumber_23 : decode cX3_takeNumber 23 = .ok (.ireturn, 1) := by decide +kernel
theorem dX3_takeNumber_24 : decode cX3_takeNumber 24 = .ok (.aload_n 0, 1) := by decide +kernel
theorem dX3_takeNumber_25 : decode cX3_takeNumber 25 = .ok (.invokevirtual 142, 3) := by decide +kernel
theorem dX3_takeNumber_28 : decode cX3_takeNumber 28 = .ok (.istore_n 3, 1) := by decide +kernel
theorem dX3_takeNumber_29 : decode cX3_takeNumber 29 = .ok (.iload_n 3, 1) := by decide +kernel
theorem dX3_takeNumber_30 : decode cX3_takeNumber 30 = .ok (.iload_n 1, 1) := by decide +kernel
theorem dX3_takeNumber_31 : decode cX3_takeNumber 31 = .ok (.if_icmp .lt 8, 3) := by decide +kernel
theorem dX3_takeNumber_34 : decode cX3_takeNumber 34 = .ok (.iload_n 3, 1) := by decide +kernel
theorem dX3_takeNumber_35 : decode cX3_takeNumber 35 = .ok (.iload_n 2, 1) := by decide +kernel
theorem dX3_takeNumber_36 : decode cX3_takeNumber 36 = .ok (.if_icmp .le 10, 3) := by decide +kernel
theorem dX3_takeNumber_39 : decode cX3_takeNumber 39 = .ok (.aload_n 0, 1) := by decide +kernel
theorem dX3_takeNumber_40 : decode cX3_takeNumber 40 = .ok (.iconst 3, 1) := by decide +kernel
theorem dX3_takeNumber_41 : decode cX3_takeNumber 41 = .ok (.invokevirtual 79, 3) := by decide +kernel
theorem dX3_takeNumber_44 : decode cX3_takeNumber 44 = .ok (.iconst 0, 1) := by decide +kernel
theorem dX3_takeNumber_45 : decode cX3_takeNumber 45 = .ok (.ireturn, 1) := by decide +kernel
theorem dX3_takeNumber_46 : decode cX3_takeNumber 46 = .ok (.aload_n 0, 1) := by decide +kernel
theorem dX3_takeNumber_47 : decode cX3_takeNumber 47 = .ok (.invokevirtual 36, 3) := by decide +kernel
theorem dX3_takeNumber_50 : decode cX3_takeNumber 50 = .ok (.iload_n 3, 1) := by decide +kernel
theorem dX3_takeNumber_51 : decode cX3_takeNumber 51 = .ok (.ireturn, 1) := by decide +kernel
theorem dX3_takeKeyword_0 : decode cX3_takeKeyword 0 = .ok (.iload_n 1, 1) := by decide +kernel
theorem dX3_takeKeyword_1 : decode cX3_takeKeyword 1 = .ok (.iload_n 2, 1) := by decide +kernel
theorem dX3_takeKeyword_2 : decode cX3_takeKeyword 2 = .ok (.if_icmp .lt 11, 3) := by decide +kernel
theorem dX3_takeKeyword_5 : decode cX3_takeKeyword 5 = .ok (.aload_n 0, 1) := by decide +kernel
theorem dX3_takeKeyword_6 : decode cX3_takeKeyword 6 = .ok (.iconst 4, 1) := by decide +kernel
theorem dX3_takeKeyword_7 : decode cX3_takeKeyword 7 = .ok (.invokevirtual 79, 3) := by decide +kernel
theorem dX3_takeKeyword_10 : decode cX3_takeKeyword 10 = .ok (.goto 7, 3) := by decide +kernel
theorem dX3_takeKeyword_13 : decode cX3_takeKeyword 13 = .ok (.aload_n 0, 1) := by decide +kernel
theorem dX3_takeKeyword_14 : decode cX3_takeKeyword 14 = .ok (.invokevirtual 36, 3) := by decide +kernel
theorem dX3_takeKeyword_17 : decode cX3_takeKeyword 17 = .ok (.return_, 1) := by decide +kernel
theorem dX3_readTerm_0 : decode cX3_readTerm 0 = .ok (.aload_n 0, 1) := by decide +kernel
theorem dX3_readTerm_1 : decode cX3_readTerm 1 = .ok (.invokevirtual 36, 3) := by decide +kernel
theorem dX3_readTerm_4 : decode cX3_readTerm 4 = .ok (.aload_n 0, 1) := by decide +kernel
theorem dX3_readTerm_5 : decode cX3_readTerm 5 = .ok (.getfield 133, 3) := by decide +kernel
theorem dX3_readTerm_8 : decode cX3_readTerm 8 = .ok (.istore_n 2, 1) := by decide +kernel
theorem dX3_readTerm_9 : decode cX3_readTerm 9 = .ok (.aload_n 0, 1) := by decide +kernel
theorem dX3_readTerm_10 : decode cX3_readTerm 10 = .ok (.iconst 0, 1) := by decide +kernel
theorem dX3_readTerm_11 : decode cX3_readTerm 11 = .ok (.iconst 2, 1) := by decide +kernel
theorem dX3_readTerm_12 : decode cX3_readTerm 12 = .ok (.invokevirtual 89, 3) := by decide +kernel
theorem dX3_readTerm_15 : decode cX3_readTerm 15 = .ok (.istore_n 3, 1) := by decide +kernel
theorem dX3_readTerm_16 : decode cX3_readTerm 16 = .ok (.aload_n 0, 1) := by decide +kernel
theorem dX3_readTerm_17 : decode cX3_readTerm 17 = .ok (.getfield 27, 3) := by decide +kernel
theorem dX3_readTerm_20 : decode cX3_readTerm 20 = .ok (.ifCond .ne 18, 3) := by decide +kernel
theorem dX3_readTerm_23 : decode cX3_readTerm 23 = .ok (.aload_n 1, 1) := by decide +kernel
theorem dX3_readTerm_24 : decode cX3_readTerm 24 = .ok (.getfield 136, 3) := by decide +kernel
theorem dX3_readTerm_27 : decode cX3_readTerm 27 = .ok (.iload_n 3, 1) := by decide +kernel
theorem dX3_readTerm_28 : decode cX3_readTerm 28 = .ok (.iaload, 1) := by decide +kernel
theorem dX3_readTerm_29 : decode cX3_readTerm 29 = .ok (.ifCond .eq 9, 3) := by decide +kernel
theorem dX3_readTerm_32 : decode cX3_readTerm 32 = .ok (.aload_n 0, 1) := by decide +kernel
theorem dX3_readTerm_33 : decode cX3_readTerm 33 = .ok (.iconst 2, 1) := by decide +kernel
theorem dX3_readTerm_34 : decode cX3_readTerm 34 = .ok (.iload_n 2, 1) := by decide +kernel
theorem dX3_readTerm_35 : decode cX3_readTerm 35 = .ok (.invokevirtual 139, 3) := by decide +kernel
theorem dX3_readTerm_38 : decode cX3_readTerm 38 = .ok (.aload_n 0, 1) := by decide +kernel
theorem dX3_readTerm_39 : decode cX3_readTerm 39 = .ok (.iconst 1, 1) := by decide +kernel
theorem dX3_readTerm_40 : decode cX3_readTerm 40 = .ok (.iconst 5, 1) := by decide +kernel
theorem dX3_readTerm_41 : decode cX3_readTerm 41 = .ok (.invokevirtual 89, 3) := by decide +kernel
theorem dX3_readTerm_44 : decode cX3_readTerm 44 = .ok (.istore 4, 2) := by decide +kernel
theorem dX3_readTerm_46 : decode cX3_readTerm 46 = .ok (.aload_n 0, 1) := by decide +kernel
theorem dX3_readTerm_47 : decode cX3_readTerm 47 = .ok (.getfield 27, 3) := by decide +kernel
theorem dX3_readTerm_50 : decode cX3_readTerm 50 = .ok (.ifCond .ne 11, 3) := by decide +kernel
theorem dX3_readTerm_53 : decode cX3_readTerm 53 = .ok (.aload_n 1, 1) := by decide +kernel
theorem dX3_readTerm_54 : decode cX3_readTerm 54 = .ok (.getfield 136, 3) := by decide +kernel
theorem dX3_readTerm_57 : decode cX3_readTerm 57 = .ok (.iload_n 3, 1) := by decide +kernel
theorem dX3_readTerm_58 : decode cX3_readTerm 58 = .ok (.iload 4, 2) := by decide +kernel
theorem dX3_readTerm_60 : decode cX3_readTerm 60 = .ok (.iastore, 1) := by decide +kernel
theorem dX3_readTerm_61 : decode cX3_readTerm 61 = .ok (.return_, 1) := by decide +kernel
theorem dX3_readSet_0 : decode cX3_readSet 0 = .ok (.aload_n 0, 1) := by decide +kernel
theorem dX3_readSet_1 : decode cX3_readSet 1 = .ok (.aload_n 1, 1) := by decide +kernel
theorem dX3_readSet_2 : decode cX3_readSet 2 = .ok (.getfield 122, 3) := by decide +kernel
theorem dX3_readSet_5 : decode cX3_readSet 5 = .ok (.iconst 4, 1) := by decide +kernel
theorem dX3_readSet_6 : decode cX3_readSet 6 = .ok (.invokevirtual 55, 3) := by decide +kernel
theorem dX3_readSet_9 : decode cX3_readSet 9 = .ok (.aload_n 0, 1) := by decide +kernel
theorem dX3_readSet_10 : decode cX3_readSet 10 = .ok (.iconst 2, 1) := by decide +kernel
theorem dX3_readSet_11 : decode cX3_readSet 11 = .ok (.bipush 12, 2) := by decide +kernel
theorem dX3_readSet_13 : decode cX3_readSet 13 = .ok (.invokevirtual 89, 3) := by decide +kernel
theorem dX3_readSet_16 : decode cX3_readSet 16 = .ok (.istore_n 2, 1) := by decide +kernel
theorem dX3_readSet_17 : decode cX3_readSet 17 = .ok (.aload_n 0, 1) := by decide +kernel
theorem dX3_readSet_18 : decode cX3_readSet 18 = .ok (.getfield 27, 3) := by decide +kernel
theorem dX3_readSet_21 : decode cX3_readSet 21 = .ok (.ifCond .ne 16, 3) := by decide +kernel
theorem dX3_readSet_24 : decode cX3_readSet 24 = .ok (.aload_n 0, 1) := by decide +kernel
theorem dX3_readSet_25 : decode cX3_readSet 25 = .ok (.ldc 125, 2) := by decide +kernel
theorem dX3_readSet_27 : decode cX3_readSet 27 = .ok (.invokevirtual 48, 3) := by decide +kernel
theorem dX3_readSet_30 : decode cX3_readSet 30 = .ok (.ifCond .eq 7, 3) := by decide +kernel
theorem dX3_readSet_33 : decode cX3_readSet 33 = .ok (.iconst 1, 1) := by decide +kernel
theorem dX3_readSet_34 : decode cX3_readSet 34 = .ok (.goto 4, 3) := by decide +kernel
theorem dX3_readSet_37 : decode cX3_readSet 37 = .ok (.iconst 0, 1) := by decide +kernel
theorem dX3_readSet_38 : decode cX3_readSet 38 = .ok (.istore_n 3, 1) := by decide +kernel
theorem dX3_readSet_39 : decode cX3_readSet 39 = .ok (.iload_n 3, 1) := by decide +kernel
theorem dX3_readSet_40 : decode cX3_readSet 40 = .ok (.ifCond .eq 7, 3) := by decide +kernel
theorem dX3_readSet_43 : decode cX3_readSet 43 = .ok (.aload_n 0, 1) := by decide +kernel
theorem dX3_readSet_44 : decode cX3_readSet 44 = .ok (.invokevirtual 36, 3) := by decide +kernel
theorem dX3_readSet_47 : decode cX3_readSet 47 = .ok (.aload_n 0, 1) := by decide +kernel
theorem dX3_readSet_48 : decode cX3_readSet 48 = .ok (.getfield 27, 3) := by decide +kernel
theorem dX3_readSet_51 : decode cX3_readSet 51 = .ok (.ifCond .ne 41, 3) := by decide +kernel
theorem dX3_readSet_54 : decode cX3_readSet 54 = .ok (.aload_n 1, 1) := by decide +kernel
theorem dX3_readSet_55 : decode cX3_readSet 55 = .ok (.getfield 127, 3) := by decide +kernel
theorem dX3_readSet_58 : decode cX3_readSet 58 = .ok (.aload_n 1, 1) := by decide +kernel
theorem dX3_readSet_59 : decode cX3_readSet 59 = .ok (.getfield 122, 3) := by decide +kernel
theorem dX3_readSet_62 : decode cX3_readSet 62 = .ok (.iload_n 2, 1) := by decide +kernel
theorem dX3_readSet_63 : decode cX3_readSet 63 = .ok (.iastore, 1) := by decide +kernel
theorem dX3_readSet_64 : decode cX3_readSet 64 = .ok (.aload_n 1, 1) := by decide +kernel
theorem dX3_readSet_65 : decode cX3_readSet 65 = .ok (.getfield 130, 3) := by decide +kernel
theorem dX3_readSet_68 : decode cX3_readSet 68 = .ok (.aload_n 1, 1) := by decide +kernel
theorem dX3_readSet_69 : decode cX3_readSet 69 = .ok (.getfield 122, 3) := by decide +kernel
theorem dX3_readSet_72 : decode cX3_readSet 72 = .ok (.iload_n 3, 1) := by decide +kernel
theorem dX3_readSet_73 : decode cX3_readSet 73 = .ok (.ifCond .eq 7, 3) := by decide +kernel
theorem dX3_readSet_76 : decode cX3_readSet 76 = .ok (.iconst 1, 1) := by decide +kernel
theorem dX3_readSet_77 : decode cX3_readSet 77 = .ok (.goto 4, 3) := by decide +kernel
theorem dX3_readSet_80 : decode cX3_readSet 80 = .ok (.iconst 0, 1) := by decide +kernel
theorem dX3_readSet_81 : decode cX3_readSet 81 = .ok (.iastore, 1) := by decide +kernel
theorem dX3_readSet_82 : decode cX3_readSet 82 = .ok (.aload_n 1, 1) := by decide +kernel
theorem dX3_readSet_83 : decode cX3_readSet 83 = .ok (.dup, 1) := by decide +kernel
theorem dX3_readSet_84 : decode cX3_readSet 84 = .ok (.getfield 122, 3) := by decide +kernel
theorem dX3_readSet_87 : decode cX3_readSet 87 = .ok (.iconst 1, 1) := by decide +kernel
theorem dX3_readSet_88 : decode cX3_readSet 88 = .ok (.iadd, 1) := by decide +kernel
theorem dX3_readSet_89 : decode cX3_readSet 89 = .ok (.putfield 122, 3) := by decide +kernel
theorem dX3_readSet_92 : decode cX3_readSet 92 = .ok (.return_, 1) := by decide +kernel
theorem dX3_readMass_0 : decode cX3_readMass 0 = .ok (.aload_n 0, 1) := by decide +kernel
theorem dX3_readMass_1 : decode cX3_readMass 1 = .ok (.aload_n 1, 1) := by decide +kernel
theorem dX3_readMass_2 : decode cX3_readMass 2 = .ok (.getfield 107, 3) := by decide +kernel
theorem dX3_readMass_5 : decode cX3_readMass 5 = .ok (.bipush 10, 2) := by decide +kernel
theorem dX3_readMass_7 : decode cX3_readMass 7 = .ok (.invokevirtual 55, 3) := by decide +kernel
theorem dX3_readMass_10 : decode cX3_readMass 10 = .ok (.aload_n 0, 1) := by decide +kernel
theorem dX3_readMass_11 : decode cX3_readMass 11 = .ok (.iconst 1, 1) := by decide +kernel
theorem dX3_readMass_12 : decode cX3_readMass 12 = .ok (.ldc 93, 2) := by decide +kernel
theorem dX3_readMass_14 : decode cX3_readMass 14 = .ok (.invokevirtual 89, 3) := by decide +kernel
theorem dX3_readMass_17 : decode cX3_readMass 17 = .ok (.istore_n 2, 1) := by decide +kernel
theorem dX3_readMass_18 : decode cX3_readMass 18 = .ok (.aload_n 0, 1) := by decide +kernel
theorem dX3_readMass_19 : decode cX3_readMass 19 = .ok (.getfield 27, 3) := by decide +kernel
theorem dX3_readMass_22 : decode cX3_readMass 22 = .ok (.ifCond .ne 29, 3) := by decide +kernel
theorem dX3_readMass_25 : decode cX3_readMass 25 = .ok (.aload_n 0, 1) := by decide +kernel
theorem dX3_readMass_26 : decode cX3_readMass 26 = .ok (.ldc 110, 2) := by decide +kernel
theorem dX3_readMass_28 : decode cX3_readMass 28 = .ok (.invokevirtual 48, 3) := by decide +kernel
theorem dX3_readMass_31 : decode cX3_readMass 31 = .ok (.ifCond .eq 20, 3) := by decide +kernel
theorem dX3_readMass_34 : decode cX3_readMass 34 = .ok (.aload_n 0, 1) := by decide +kernel
theorem dX3_readMass_35 : decode cX3_readMass 35 = .ok (.invokevirtual 36, 3) := by decide +kernel
theorem dX3_readMass_38 : decode cX3_readMass 38 = .ok (.iload_n 2, 1) := by decide +kernel
theorem dX3_readMass_39 : decode cX3_readMass 39 = .ok (.aload_n 0, 1) := by decide +kernel
theorem dX3_readMass_40 : decode cX3_readMass 40 = .ok (.iconst 0, 1) := by decide +kernel
theorem dX3_readMass_41 : decode cX3_readMass 41 = .ok (.bipush 99, 2) := by decide +kernel
theorem dX3_readMass_43 : decode cX3_readMass 43 = .ok (.invokevirtual 89, 3) := by decide +kernel
theorem dX3_readMass_46 : decode cX3_readMass 46 = .ok (.iadd, 1) := by decide +kernel
theorem dX3_readMass_47 : decode cX3_readMass 47 = .ok (.istore_n 2, 1) := by decide +kernel
theorem dX3_readMass_48 : decode cX3_readMass 48 = .ok (.goto 39, 3) := by decide +kernel
theorem dX3_readMass_51 : decode cX3_readMass 51 = .ok (.aload_n 0, 1) := by decide +kernel
theorem dX3_readMass_52 : decode cX3_readMass 52 = .ok (.getfield 27, 3) := by decide +kernel
theorem dX3_readMass_55 : decode cX3_readMass 55 = .ok (.ifCond .ne 32, 3) := by decide +kernel
theorem dX3_readMass_58 : decode cX3_readMass 58 = .ok (.aload_n 0, 1) := by decide +kernel
theorem dX3_readMass_59 : decode cX3_readMass 59 = .ok (.ldc 112, 2) := by decide +kernel
theorem dX3_readMass_61 : decode cX3_readMass 61 = .ok (.invokevirtual 48, 3) := by decide +kernel
theorem dX3_readMass_64 : decode cX3_readMass 64 = .ok (.ifCond .eq 23, 3) := by decide +kernel
theorem dX3_readMass_67 : decode cX3_readMass 67 = .ok (.aload_n 0, 1) := by decide +kernel
theorem dX3_readMass_68 : decode cX3_readMass 68 = .ok (.invokevirtual 36, 3) := by decide +kernel
theorem dX3_readMass_71 : decode cX3_readMass 71 = .ok (.iload_n 2, 1) := by decide +kernel
theorem dX3_readMass_72 : decode cX3_readMass 72 = .ok (.aload_n 0, 1) := by decide +kernel
theorem dX3_readMass_73 : decode cX3_readMass 73 = .ok (.iconst 0, 1) := by decide +kernel
theorem dX3_readMass_74 : decode cX3_readMass 74 = .ok (.bipush 99, 2) := by decide +kernel
theorem dX3_readMass_76 : decode cX3_readMass 76 = .ok (.iload_n 2, 1) := by decide +kernel
theorem dX3_readMass_77 : decode cX3_readMass 77 = .ok (.iconst 1, 1) := by decide +kernel
theorem dX3_readMass_78 : decode cX3_readMass 78 = .ok (.isub, 1) := by decide +kernel
theorem dX3_readMass_79 : decode cX3_readMass 79 = .ok (.invokestatic 114, 3) := by decide +kernel
theorem dX3_readMass_82 : decode cX3_readMass 82 = .ok (.invokevirtual 89, 3) := by decide +kernel
theorem dX3_readMass_85 : decode cX3_readMass 85 = .ok (.isub, 1) := by decide +kernel
theorem dX3_readMass_86 : decode cX3_readMass 86 = .ok (.istore_n 2, 1) := by decide +kernel
theorem dX3_readMass_87 : decode cX3_readMass 87 = .ok (.aload_n 0, 1) := by decide +kernel
theorem dX3_readMass_88 : decode cX3_readMass 88 = .ok (.getfield 27, 3) := by decide +kernel
theorem dX3_readMass_91 : decode cX3_readMass 91 = .ok (.ifCond .ne 23, 3) := by decide +kernel
theorem dX3_readMass_94 : decode cX3_readMass 94 = .ok (.aload_n 1, 1) := by decide +kernel
theorem dX3_readMass_95 : decode cX3_readMass 95 = .ok (.getfield 119, 3) := by decide +kernel
theorem dX3_readMass_98 : decode cX3_readMass 98 = .ok (.aload_n 1, 1) := by decide +kernel
theorem dX3_readMass_99 : decode cX3_readMass 99 = .ok (.getfield 107, 3) := by decide +kernel
theorem dX3_readMass_102 : decode cX3_readMass 102 = .ok (.iload_n 2, 1) := by decide +kernel
theorem dX3_readMass_103 : decode cX3_readMass 103 = .ok (.iastore, 1) := by decide +kernel
theorem dX3_readMass_104 : decode cX3_readMass 104 = .ok (.aload_n 1, 1) := by decide +kernel
theorem dX3_readMass_105 : decode cX3_readMass 105 = .ok (.dup, 1) := by decide +kernel
theorem dX3_readMass_106 : decode cX3_readMass 106 = .ok (.getfield 107, 3) := by decide +kernel
theorem dX3_readMass_109 : decode cX3_readMass 109 = .ok (.iconst 1, 1) := by decide +kernel
theorem dX3_readMass_110 : decode cX3_readMass 110 = .ok (.iadd, 1) := by decide +kernel
theorem dX3_readMass_111 : decode cX3_readMass 111 = .ok (.putfield 107, 3) := by decide +kernel
theorem dX3_readMass_114 : decode cX3_readMass 114 = .ok (.return_, 1) := by decide +kernel
theorem dX3_readScale_0 : decode cX3_readScale 0 = .ok (.aload_n 0, 1) := by decide +kernel
theorem dX3_readScale_1 : decode cX3_readScale 1 = .ok (.aload_n 1, 1) := by decide +kernel
theorem dX3_readScale_2 : decode cX3_readScale 2 = .ok (.getfield 86, 3) := by decide +kernel
theorem dX3_readScale_5 : decode cX3_readScale 5 = .ok (.bipush 24, 2) := by decide +kernel
theorem dX3_readScale_7 : decode cX3_readScale 7 = .ok (.invokevirtual 55, 3) := by decide +kernel
theorem dX3_readScale_10 : decode cX3_readScale 10 = .ok (.aload_n 0, 1) := by decide +kernel
theorem dX3_readScale_11 : decode cX3_readScale 11 = .ok (.iconst 0, 1) := by decide +kernel
theorem dX3_readScale_12 : decode cX3_readScale 12 = .ok (.aload_n 1, 1) := by decide +kernel
theorem dX3_readScale_13 : decode cX3_readScale 13 = .ok (.getfield 52, 3) := by decide +kernel
theorem dX3_readScale_16 : decode cX3_readScale 16 = .ok (.iconst 1, 1) := by decide +kernel
theorem dX3_readScale_17 : decode cX3_readScale 17 = .ok (.isub, 1) := by decide +kernel
theorem dX3_readScale_18 : decode cX3_readScale 18 = .ok (.invokevirtual 89, 3) := by decide +kernel
theorem dX3_readScale_21 : decode cX3_readScale 21 = .ok (.istore_n 2, 1) := by decide +kernel
theorem dX3_readScale_22 : decode cX3_readScale 22 = .ok (.aload_n 0, 1) := by decide +kernel
theorem dX3_readScale_23 : decode cX3_readScale 23 = .ok (.iconst 0, 1) := by decide +kernel
theorem dX3_readScale_24 : decode cX3_readScale 24 = .ok (.iconst 2, 1) := by decide +kernel
theorem dX3_readScale_25 : decode cX3_readScale 25 = .ok (.invokevirtual 89, 3) := by decide +kernel
theorem dX3_readScale_28 : decode cX3_readScale 28 = .ok (.istore_n 3, 1) := by decide +kernel
theorem dX3_readScale_29 : decode cX3_readScale 29 = .ok (.aload_n 0, 1) := by decide +kernel
theorem dX3_readScale_30 : decode cX3_readScale 30 = .ok (.iconst 1, 1) := by decide +kernel
theorem dX3_readScale_31 : decode cX3_readScale 31 = .ok (.sipush 1000, 3) := by decide +kernel
theorem dX3_readScale_34 : decode cX3_readScale 34 = .ok (.invokevirtual 89, 3) := by decide +kernel
theorem dX3_readScale_37 : decode cX3_readScale 37 = .ok (.istore 4, 2) := by decide +kernel
theorem dX3_readScale_39 : decode cX3_readScale 39 = .ok (.aload_n 0, 1) := by decide +kernel
theorem dX3_readScale_40 : decode cX3_readScale 40 = .ok (.bipush 20, 2) := by decide +kernel
theorem dX3_readScale_42 : decode cX3_readScale 42 = .ok (.iload 4, 2) := by decide +kernel
theorem dX3_readScale_44 : decode cX3_readScale 44 = .ok (.imul, 1) := by decide +kernel
theorem dX3_readScale_45 : decode cX3_readScale 45 = .ok (.ldc 93, 2) := by decide +kernel
theorem dX3_readScale_47 : decode cX3_readScale 47 = .ok (.invokevirtual 89, 3) := by decide +kernel
theorem dX3_readScale_50 : decode cX3_readScale 50 = .ok (.istore 5, 2) := by decide +kernel
theorem dX3_readScale_52 : decode cX3_readScale 52 = .ok (.aload_n 0, 1) := by decide +kernel
theorem dX3_readScale_53 : decode cX3_readScale 53 = .ok (.getfield 27, 3) := by decide +kernel
theorem dX3_readScale_56 : decode cX3_readScale 56 = .ok (.ifCond .ne 55, 3) := by decide +kernel
theorem dX3_readScale_59 : decode cX3_readScale 59 = .ok (.aload_n 1, 1) := by decide +kernel
theorem dX3_readScale_60 : decode cX3_readScale 60 = .ok (.getfield 94, 3) := by decide +kernel
theorem dX3_readScale_63 : decode cX3_readScale 63 = .ok (.aload_n 1, 1) := by decide +kernel
theorem dX3_readScale_64 : decode cX3_readScale 64 = .ok (.getfield 86, 3) := by decide +kernel
theorem dX3_readScale_67 : decode cX3_readScale 67 = .ok (.iload_n 2, 1) := by decide +kernel
theorem dX3_readScale_68 : decode cX3_readScale 68 = .ok (.iastore, 1) := by decide +kernel
theorem dX3_readScale_69 : decode cX3_readScale 69 = .ok (.aload_n 1, 1) := by decide +kernel
theorem dX3_readScale_70 : decode cX3_readScale 70 = .ok (.getfield 98, 3) := by decide +kernel
theorem dX3_readScale_73 : decode cX3_readScale 73 = .ok (.aload_n 1, 1) := by decide +kernel
theorem dX3_readScale_74 : decode cX3_readScale 74 = .ok (.getfield 86, 3) := by decide +kernel
theorem dX3_readScale_77 : decode cX3_readScale 77 = .ok (.iload_n 3, 1) := by decide +kernel
theorem dX3_readScale_78 : decode cX3_readScale 78 = .ok (.iastore, 1) := by decide +kernel
theorem dX3_readScale_79 : decode cX3_readScale 79 = .ok (.aload_n 1, 1) := by decide +kernel
theorem dX3_readScale_80 : decode cX3_readScale 80 = .ok (.getfield 101, 3) := by decide +kernel
theorem dX3_readScale_83 : decode cX3_readScale 83 = .ok (.aload_n 1, 1) := by decide +kernel
theorem dX3_readScale_84 : decode cX3_readScale 84 = .ok (.getfield 86, 3) := by decide +kernel
theorem dX3_readScale_87 : decode cX3_readScale 87 = .ok (.iload 4, 2) := by decide +kernel
theorem dX3_readScale_89 : decode cX3_readScale 89 = .ok (.iastore, 1) := by decide +kernel
theorem dX3_readScale_90 : decode cX3_readScale 90 = .ok (.aload_n 1, 1) := by decide +kernel
theorem dX3_readScale_91 : decode cX3_readScale 91 = .ok (.getfield 104, 3) := by decide +kernel
theorem dX3_readScale_94 : decode cX3_readScale 94 = .ok (.aload_n 1, 1) := by decide +kernel
theorem dX3_readScale_95 : decode cX3_readScale 95 = .ok (.getfield 86, 3) := by decide +kernel
theorem dX3_readScale_98 : decode cX3_readScale 98 = .ok (.iload 5, 2) := by decide +kernel
theorem dX3_readScale_100 : decode cX3_readScale 100 = .ok (.iastore, 1) := by decide +kernel
theorem dX3_readScale_101 : decode cX3_readScale 101 = .ok (.aload_n 1, 1) := by decide +kernel
theorem dX3_readScale_102 : decode cX3_readScale 102 = .ok (.dup, 1) := by decide +kernel
theorem dX3_readScale_103 : decode cX3_readScale 103 = .ok (.getfield 86, 3) := by decide +kernel
theorem dX3_readScale_106 : decode cX3_readScale 106 = .ok (.iconst 1, 1) := by decide +kernel
theorem dX3_readScale_107 : decode cX3_readScale 107 = .ok (.iadd, 1) := by decide +kernel
theorem dX3_readScale_108 : decode cX3_readScale 108 = .ok (.putfield 86, 3) := by decide +kernel
theorem dX3_readScale_111 : decode cX3_readScale 111 = .ok (.return_, 1) := by decide +kernel
theorem dX3_readStatement_0 : decode cX3_readStatement 0 = .ok (.aload_n 0, 1) := by decide +kernel
theorem dX3_readStatement_1 : decode cX3_readStatement 1 = .ok (.ldc 46, 2) := by decide +kernel
theorem dX3_readStatement_3 : decode cX3_readStatement 3 = .ok (.invokevirtual 48, 3) := by decide +kernel
theorem dX3_readStatement_6 : decode cX3_readStatement 6 = .ok (.ifCond .eq 26, 3) := by decide +kernel
theorem dX3_readStatement_9 : decode cX3_readStatement 9 = .ok (.aload_n 0, 1) := by decide +kernel
theorem dX3_readStatement_10 : decode cX3_readStatement 10 = .ok (.aload_n 1, 1) := by decide +kernel
theorem dX3_readStatement_11 : decode cX3_readStatement 11 = .ok (.getfield 52, 3) := by decide +kernel
theorem dX3_readStatement_14 : decode cX3_readStatement 14 = .ok (.bipush 8, 2) := by decide +kernel
theorem dX3_readStatement_16 : decode cX3_readStatement 16 = .ok (.invokevirtual 55, 3) := by decide +kernel
theorem dX3_readStatement_19 : decode cX3_readStatement 19 = .ok (.aload_n 1, 1) := by decide +kernel
theorem dX3_readStatement_20 : decode cX3_readStatement 20 = .ok (.dup, 1) := by decide +kernel
theorem dX3_readStatement_21 : decode cX3_readStatement 21 = .ok (.getfield 52, 3) := by decide +kernel
theorem dX3_readStatement_24 : decode cX3_readStatement 24 = .ok (.iconst 1, 1) := by decide +kernel
theorem dX3_readStatement_25 : decode cX3_readStatement 25 = .ok (.iadd, 1) := by decide +kernel
theorem dX3_readStatement_26 : decode cX3_readStatement 26 = .ok (.putfield 52, 3) := by decide +kernel
theorem dX3_readStatement_29 : decode cX3_readStatement 29 = .ok (.goto 76, 3) := by decide +kernel
theorem dX3_readStatement_32 : decode cX3_readStatement 32 = .ok (.aload_n 0, 1) := by decide +kernel
theorem dX3_readStatement_33 : decode cX3_readStatement 33 = .ok (.ldc 59, 2) := by decide +kernel
theorem dX3_readStatement_35 : decode cX3_readStatement 35 = .ok (.invokevirtual 48, 3) := by decide +kernel
theorem dX3_readStatement_38 : decode cX3_readStatement 38 = .ok (.ifCond .eq 11, 3) := by decide +kernel
theorem dX3_readStatement_41 : decode cX3_readStatement 41 = .ok (.aload_n 0, 1) := by decide +kernel
theorem dX3_readStatement_42 : decode cX3_readStatement 42 = .ok (.aload_n 1, 1) := by decide +kernel
theorem dX3_readStatement_43 : decode cX3_readStatement 43 = .ok (.invokevirtual 61, 3) := by decide +kernel
theorem dX3_readStatement_46 : decode cX3_readStatement 46 = .ok (.goto 59, 3) := by decide +kernel
theorem dX3_readStatement_49 : decode cX3_readStatement 49 = .ok (.aload_n 0, 1) := by decide +kernel
theorem dX3_readStatement_50 : decode cX3_readStatement 50 = .ok (.ldc 64, 2) := by decide +kernel
theorem dX3_readStatement_52 : decode cX3_readStatement 52 = .ok (.invokevirtual 48, 3) := by decide +kernel
theorem dX3_readStatement_55 : decode cX3_readStatement 55 = .ok (.ifCond .eq 11, 3) := by decide +kernel
theorem dX3_readStatement_58 : decode cX3_readStatement 58 = .ok (.aload_n 0, 1) := by decide +kernel
theorem dX3_readStatement_59 : decode cX3_readStatement 59 = .ok (.aload_n 1, 1) := by decide +kernel
theorem dX3_readStatement_60 : decode cX3_readStatement 60 = .ok (.invokevirtual 66, 3) := by decide +kernel
theorem dX3_readStatement_63 : decode cX3_readStatement 63 = .ok (.goto 42, 3) := by decide +kernel
theorem dX3_readStatement_66 : decode cX3_readStatement 66 = .ok (.aload_n 0, 1) := by decide +kernel
theorem dX3_readStatement_67 : decode cX3_readStatement 67 = .ok (.ldc 69, 2) := by decide +kernel
theorem dX3_readStatement_69 : decode cX3_readStatement 69 = .ok (.invokevirtual 48, 3) := by decide +kernel
theorem dX3_readStatement_72 : decode cX3_readStatement 72 = .ok (.ifCond .eq 11, 3) := by decide +kernel
theorem dX3_readStatement_75 : decode cX3_readStatement 75 = .ok (.aload_n 0, 1) := by decide +kernel
theorem dX3_readStatement_76 : decode cX3_readStatement 76 = .ok (.aload_n 1, 1) := by decide +kernel
theorem dX3_readStatement_77 : decode cX3_readStatement 77 = .ok (.invokevirtual 71, 3) := by decide +kernel
theorem dX3_readStatement_80 : decode cX3_readStatement 80 = .ok (.goto 25, 3) := by decide +kernel
theorem dX3_readStatement_83 : decode cX3_readStatement 83 = .ok (.aload_n 0, 1) := by decide +kernel
theorem dX3_readStatement_84 : decode cX3_readStatement 84 = .ok (.ldc 74, 2) := by decide +kernel
theorem dX3_readStatement_86 : decode cX3_readStatement 86 = .ok (.invokevirtual 48, 3) := by decide +kernel
theorem dX3_readStatement_89 : decode cX3_readStatement 89 = .ok (.ifCond .eq 11, 3) := by decide +kernel
theorem dX3_readStatement_92 : decode cX3_readStatement 92 = .ok (.aload_n 0, 1) := by decide +kernel
theorem dX3_readStatement_93 : decode cX3_readStatement 93 = .ok (.aload_n 1, 1) := by decide +kernel
theorem dX3_readStatement_94 : decode cX3_readStatement 94 = .ok (.invokevirtual 76, 3) := by decide +kernel
theorem dX3_readStatement_97 : decode cX3_readStatement 97 = .ok (.goto 8, 3) := by decide +kernel
theorem dX3_readStatement_100 : decode cX3_readStatement 100 = .ok (.aload_n 0, 1) := by decide +kernel
theorem dX3_readStatement_101 : decode cX3_readStatement 101 = .ok (.iconst 1, 1) := by decide +kernel
theorem dX3_readStatement_102 : decode cX3_readStatement 102 = .ok (.invokevirtual 79, 3) := by decide +kernel
theorem dX3_readStatement_105 : decode cX3_readStatement 105 = .ok (.aload_n 0, 1) := by decide +kernel
theorem dX3_readStatement_106 : decode cX3_readStatement 106 = .ok (.invokevirtual 83, 3) := by decide +kernel
theorem dX3_readStatement_109 : decode cX3_readStatement 109 = .ok (.return_, 1) := by decide +kernel
theorem dX3_readMarket_0 : decode cX3_readMarket 0 = .ok (.aload_n 2, 1) := by decide +kernel
theorem dX3_readMarket_1 : decode cX3_readMarket 1 = .ok (.invokevirtual 22, 3) := by decide +kernel
theorem dX3_readMarket_4 : decode cX3_readMarket 4 = .ok (.aload_n 0, 1) := by decide +kernel
theorem dX3_readMarket_5 : decode cX3_readMarket 5 = .ok (.iconst 0, 1) := by decide +kernel
theorem dX3_readMarket_6 : decode cX3_readMarket 6 = .ok (.putfield 27, 3) := by decide +kernel
theorem dX3_readMarket_9 : decode cX3_readMarket 9 = .ok (.aload_n 0, 1) := by decide +kernel
theorem dX3_readMarket_10 : decode cX3_readMarket 10 = .ok (.bipush (-2), 2) := by decide +kernel
theorem dX3_readMarket_12 : decode cX3_readMarket 12 = .ok (.putfield 15, 3) := by decide +kernel
theorem dX3_readMarket_15 : decode cX3_readMarket 15 = .ok (.aload_n 0, 1) := by decide +kernel
theorem dX3_readMarket_16 : decode cX3_readMarket 16 = .ok (.iload_n 1, 1) := by decide +kernel
theorem dX3_readMarket_17 : decode cX3_readMarket 17 = .ok (.putfield 30, 3) := by decide +kernel
theorem dX3_readMarket_20 : decode cX3_readMarket 20 = .ok (.aload_n 0, 1) := by decide +kernel
theorem dX3_readMarket_21 : decode cX3_readMarket 21 = .ok (.iconst 0, 1) := by decide +kernel
theorem dX3_readMarket_22 : decode cX3_readMarket 22 = .ok (.putfield 33, 3) := by decide +kernel
theorem dX3_readMarket_25 : decode cX3_readMarket 25 = .ok (.aload_n 0, 1) := by decide +kernel
theorem dX3_readMarket_26 : decode cX3_readMarket 26 = .ok (.invokevirtual 36, 3) := by decide +kernel
theorem dX3_readMarket_29 : decode cX3_readMarket 29 = .ok (.iconst 0, 1) := by decide +kernel
theorem dX3_readMarket_30 : decode cX3_readMarket 30 = .ok (.istore_n 3, 1) := by decide +kernel
theorem dX3_readMarket_31 : decode cX3_readMarket 31 = .ok (.iload_n 3, 1) := by decide +kernel
theorem dX3_readMarket_32 : decode cX3_readMarket 32 = .ok (.iload_n 1, 1) := by decide +kernel
theorem dX3_readMarket_33 : decode cX3_readMarket 33 = .ok (.if_icmp .ge 28, 3) := by decide +kernel
theorem dX3_readMarket_36 : decode cX3_readMarket 36 = .ok (.aload_n 0, 1) := by decide +kernel
theorem dX3_readMarket_37 : decode cX3_readMarket 37 = .ok (.getfield 39, 3) := by decide +kernel
theorem dX3_readMarket_40 : decode cX3_readMarket 40 = .ok (.ifCond .eq 21, 3) := by decide +kernel
theorem dX3_readMarket_43 : decode cX3_readMarket 43 = .ok (.aload_n 0, 1) := by decide +kernel
theorem dX3_readMarket_44 : decode cX3_readMarket 44 = .ok (.getfield 27, 3) := by decide +kernel
theorem dX3_readMarket_47 : decode cX3_readMarket 47 = .ok (.ifCond .ne 14, 3) := by decide +kernel
theorem dX3_readMarket_50 : decode cX3_readMarket 50 = .ok (.aload_n 0, 1) := by decide +kernel
theorem dX3_readMarket_51 : decode cX3_readMarket 51 = .ok (.aload_n 2, 1) := by decide +kernel
theorem dX3_readMarket_52 : decode cX3_readMarket 52 = .ok (.invokevirtual 42, 3) := by decide +kernel
theorem dX3_readMarket_55 : decode cX3_readMarket 55 = .ok (.iinc 3 1, 3) := by decide +kernel
theorem dX3_readMarket_58 : decode cX3_readMarket 58 = .ok (.goto (-27), 3) := by decide +kernel
theorem dX3_readMarket_61 : decode cX3_readMarket 61 = .ok (.aload_n 0, 1) := by decide +kernel
theorem dX3_readMarket_62 : decode cX3_readMarket 62 = .ok (.getfield 27, 3) := by decide +kernel
theorem dX3_readMarket_65 : decode cX3_readMarket 65 = .ok (.ireturn, 1) := by decide +kernel
def f_X3_addBytes_h46 (F : Nat) (S : si_St) : Option (si_St) :=
  some S
def f_X3_addBytes_h3 (F : Nat) (r3 : Int32 → Int32 → si_St → Option (si_St)) (x1 : Int32) (x2 : Int32) (S : si_St) : Option (si_St) :=
  if x2 < 0 then (f_X3_addBytes_h46 F S) else (if 800 ≤ (S.1 1 1) then (f_X3_addBytes_h46 F S) else (Option.bind (si_wr S 2 (S.1 1 1) (vp_nar .byte (si_i2b (si_ushr x1 x2)))) fun S1 => Option.bind (si_pt S1 1 1 ((S1.1 1 1) + 1)) fun S2 => Option.bind (some (x2 + (-8))) fun v3 => r3 x1 v3 S2))
def f_X3_addBytes_l3 (F : Nat) : Nat → Int32 → Int32 → si_St → Option (si_St)
 | 0 => fun _ _ _ => none
 | n + 1 => fun x1 x2 S => f_X3_addBytes_h3 F (f_X3_addBytes_l3 F n) x1 x2 S
def f_X3_addBytes (F : Nat) (x1 : Int32) (S : si_St) : Option (si_St) :=
  f_X3_addBytes_l3 F F x1 24 S
def f_X3_isWord_h24 (F : Nat) (g1 : Nat) (S : si_St) : Option (Int32 × si_St) :=
  Option.bind (si_bz 0) fun v1 => some (v1, S)
def f_X3_isWord_h28 (F : Nat) (g1 : Nat) (r28 : Int32 → si_St → Option (Int32 × si_St)) (x2 : Int32) (S : si_St) : Option (Int32 × si_St) :=
  Option.bind (f_J0_length_8abf5 F g1 S) fun q2 => if q2.1 ≤ x2 then (Option.bind (si_bz 1) fun v3 => some (v3, q2.2)) else (Option.bind (si_rd q2.2 2 ((q2.2.1 1 5) + x2)) fun v4 => Option.bind (f_J0_charAt_5068e F g1 x2 q2.2) fun q5 => if v4 = q5.1 then (Option.bind (some (x2 + 1)) fun v6 => r28 v6 q5.2) else (Option.bind (si_bz 0) fun v7 => some (v7, q5.2)))
def f_X3_isWord_l28 (F : Nat) (g1 : Nat) : Nat → Int32 → si_St → Option (Int32 × si_St)
 | 0 => fun _ _ => none
 | n + 1 => fun x2 S => f_X3_isWord_h28 F g1 (f_X3_isWord_l28 F g1 n) x2 S
def f_X3_isWord (F : Nat) (g1 : Nat) (S : si_St) : Option (Int32 × si_St) :=
  if (S.1 1 7) = 1 then (Option.bind (f_J0_length_8abf5 F g1 S) fun q8 => if ((S.1 1 6) - (S.1 1 5)) = q8.1 then (f_X3_isWord_l28 F g1 F 0 q8.2) else (f_X3_isWord_h24 F g1 q8.2)) else (f_X3_isWord_h24 F g1 S)
def f_X3_passRun_h50 (F : Nat) (S : si_St) : Option (si_St) :=
  some S
def f_X3_passRun_h0 (F : Nat) (r0 : Int32 → Int32 → si_St → Option (si_St)) (x1 : Int32) (x2 : Int32) (S : si_St) : Option (si_St) :=
  if (S.1 1 4) ≤ (S.1 1 6) then (f_X3_passRun_h50 F S) else (Option.bind (si_rd S 2 (S.1 1 6)) fun v1 => if v1 < x1 then (f_X3_passRun_h50 F S) else (Option.bind (si_rd S 2 (S.1 1 6)) fun v2 => if x2 < v2 then (f_X3_passRun_h50 F S) else (Option.bind (si_pt S 1 6 ((S.1 1 6) + 1)) fun S3 => r0 x1 x2 S3)))
def f_X3_passRun_l0 (F : Nat) : Nat → Int32 → Int32 → si_St → Option (si_St)
 | 0 => fun _ _ _ => none
 | n + 1 => fun x1 x2 S => f_X3_passRun_h0 F (f_X3_passRun_l0 F n) x1 x2 S
def f_X3_passRun (F : Nat) (x1 : Int32) (x2 : Int32) (S : si_St) : Option (si_St) :=
  f_X3_passRun_l0 F F x1 x2 S
def f_X3_advance_h204 (F : Nat) (S : si_St) : Option (si_St) :=
  some S
def f_X3_advance_h201 (F : Nat) (t0 : Int32) (S : si_St) : Option (si_St) :=
  Option.bind (si_pt S 1 7 t0) fun S1 => f_X3_advance_h204 F S1
def f_X3_advance_h179 (F : Nat) (x1 : Int32) (S : si_St) : Option (si_St) :=
  Option.bind (si_pt S 1 6 ((S.1 1 6) + 1)) fun S2 => if x1 = 59 then (f_X3_advance_h201 F 3 S2) else (f_X3_advance_h201 F 4 S2)
def f_X3_advance_h173 (F : Nat) (t0 : Int32) (S : si_St) : Option (si_St) :=
  Option.bind (si_pt S 1 7 t0) fun S3 => f_X3_advance_h204 F S3
def f_X3_advance_h133 (F : Nat) (x1 : Int32) (S : si_St) : Option (si_St) :=
  if x1 < 48 then (f_X3_advance_h179 F x1 S) else (if 57 < x1 then (f_X3_advance_h179 F x1 S) else (Option.bind (f_X3_passRun F 48 57 S) fun S4 => if 6 < ((S4.1 1 6) - (S4.1 1 5)) then (f_X3_advance_h173 F 4 S4) else (f_X3_advance_h173 F 2 S4)))
def f_X3_advance_h127 (F : Nat) (t0 : Int32) (S : si_St) : Option (si_St) :=
  Option.bind (si_pt S 1 7 t0) fun S5 => f_X3_advance_h204 F S5
def f_X3_advance_h52 (F : Nat) (S : si_St) : Option (si_St) :=
  Option.bind (si_pt S 1 5 (S.1 1 6)) fun S6 => if (S6.1 1 6) < (S6.1 1 4) then (Option.bind (si_rd S6 2 (S6.1 1 6)) fun v7 => if v7 < 97 then (f_X3_advance_h133 F v7 S6) else (if 122 < v7 then (f_X3_advance_h133 F v7 S6) else (Option.bind (f_X3_passRun F 97 122 S6) fun S8 => if 8 < ((S8.1 1 6) - (S8.1 1 5)) then (f_X3_advance_h127 F 4 S8) else (f_X3_advance_h127 F 1 S8)))) else (Option.bind (si_pt S6 1 7 0) fun S9 => some S9)
def f_X3_advance_h39 (F : Nat) (r0 : si_St → Option (si_St)) (S : si_St) : Option (si_St) :=
  Option.bind (si_pt S 1 6 ((S.1 1 6) + 1)) fun S10 => r0 S10
def f_X3_advance_h0 (F : Nat) (r0 : si_St → Option (si_St)) (S : si_St) : Option (si_St) :=
  if (S.1 1 4) ≤ (S.1 1 6) then (f_X3_advance_h52 F S) else (Option.bind (si_rd S 2 (S.1 1 6)) fun v11 => if v11 = 32 then (f_X3_advance_h39 F r0 S) else (Option.bind (si_rd S 2 (S.1 1 6)) fun v12 => if v12 = 10 then (f_X3_advance_h39 F r0 S) else (f_X3_advance_h52 F S)))
def f_X3_advance_l0 (F : Nat) : Nat → si_St → Option (si_St)
 | 0 => fun _ => none
 | n + 1 => fun S => f_X3_advance_h0 F (f_X3_advance_l0 F n) S
def f_X3_advance (F : Nat) (S : si_St) : Option (si_St) :=
  f_X3_advance_l0 F F S
def f_X3_failAt_h17 (F : Nat) (S : si_St) : Option (si_St) :=
  some S
def f_X3_failAt (F : Nat) (x1 : Int32) (x2 : Int32) (S : si_St) : Option (si_St) :=
  if (S.1 1 3) = 0 then (Option.bind (si_pt S 1 3 x1) fun S1 => Option.bind (si_pt S1 1 2 x2) fun S2 => f_X3_failAt_h17 F S2) else (f_X3_failAt_h17 F S)
def f_X3_fail (F : Nat) (x1 : Int32) (S : si_St) : Option (si_St) :=
  Option.bind (f_X3_failAt F x1 (S.1 1 5) S) fun S1 => some S1
def f_X3_takeSemicolon_h28 (F : Nat) (S : si_St) : Option (si_St) :=
  some S
def f_X3_takeSemicolon (F : Nat) (S : si_St) : Option (si_St) :=
  if (S.1 1 3) = 0 then (if (S.1 1 7) = 3 then (Option.bind (f_X3_advance F S) fun S2 => f_X3_takeSemicolon_h28 F S2) else (Option.bind (f_X3_fail F 1 S) fun S1 => f_X3_takeSemicolon_h28 F S1)) else (some S)
def f_X3_numberOfToken_h7 (F : Nat) (r7 : Int32 → Int32 → si_St → Option (Int32 × si_St)) (x1 : Int32) (x2 : Int32) (S : si_St) : Option (Int32 × si_St) :=
  if (S.1 1 6) ≤ x2 then (some (x1, S)) else (Option.bind (si_rd S 2 x2) fun v1 => Option.bind (some ((x1 * 10) + (v1 - 48))) fun v2 => Option.bind (some (x2 + 1)) fun v3 => r7 v2 v3 S)
def f_X3_numberOfToken_l7 (F : Nat) : Nat → Int32 → Int32 → si_St → Option (Int32 × si_St)
 | 0 => fun _ _ _ => none
 | n + 1 => fun x1 x2 S => f_X3_numberOfToken_h7 F (f_X3_numberOfToken_l7 F n) x1 x2 S
def f_X3_numberOfToken (F : Nat) (S : si_St) : Option (Int32 × si_St) :=
  Option.bind (some (S.1 1 5)) fun v4 => f_X3_numberOfToken_l7 F F 0 v4 S
def f_X3_takeNumber_h39 (F : Nat) (S : si_St) : Option (Int32 × si_St) :=
  Option.bind (f_X3_fail F 3 S) fun S1 => some (0, S1)
def f_X3_takeNumber (F : Nat) (x1 : Int32) (x2 : Int32) (S : si_St) : Option (Int32 × si_St) :=
  if (S.1 1 3) = 0 then (if (S.1 1 7) = 2 then (Option.bind (f_X3_numberOfToken F S) fun q2 => if q2.1 < x1 then (f_X3_takeNumber_h39 F q2.2) else (if q2.1 ≤ x2 then (Option.bind (f_X3_advance F q2.2) fun S3 => some (q2.1, S3)) else (f_X3_takeNumber_h39 F q2.2))) else (Option.bind (f_X3_fail F 1 S) fun S4 => some (0, S4))) else (some (0, S))
def f_X3_takeKeyword_h17 (F : Nat) (S : si_St) : Option (si_St) :=
  some S
def f_X3_takeKeyword (F : Nat) (x1 : Int32) (x2 : Int32) (S : si_St) : Option (si_St) :=
  if x1 < x2 then (Option.bind (f_X3_advance F S) fun S1 => f_X3_takeKeyword_h17 F S1) else (Option.bind (f_X3_fail F 4 S) fun S2 => f_X3_takeKeyword_h17 F S2)
def f_X3_readTerm_h61 (F : Nat) (k1 : Nat) (S : si_St) : Option (si_St) :=
  some S
def f_X3_readTerm_h38 (F : Nat) (k1 : Nat) (x3 : Int32) (S : si_St) : Option (si_St) :=
  Option.bind (f_X3_takeNumber F 1 5 S) fun q1 => if (q1.2.1 1 3) = 0 then (Option.bind (si_wr q1.2 (k1 + 8) x3 q1.1) fun S2 => f_X3_readTerm_h61 F k1 S2) else (f_X3_readTerm_h61 F k1 q1.2)
def f_X3_readTerm (F : Nat) (k1 : Nat) (S : si_St) : Option (si_St) :=
  Option.bind (f_X3_advance F S) fun S3 => Option.bind (some (S3.1 1 5)) fun v4 => Option.bind (f_X3_takeNumber F 0 2 S3) fun q5 => if (q5.2.1 1 3) = 0 then (Option.bind (si_rd q5.2 (k1 + 8) q5.1) fun v6 => if v6 = 0 then (f_X3_readTerm_h38 F k1 q5.1 q5.2) else (Option.bind (f_X3_failAt F 2 v4 q5.2) fun S7 => f_X3_readTerm_h38 F k1 q5.1 S7)) else (f_X3_readTerm_h38 F k1 q5.1 q5.2)
def f_X3_readSet_h92 (F : Nat) (k1 : Nat) (S : si_St) : Option (si_St) :=
  some S
def f_X3_readSet_h81 (F : Nat) (k1 : Nat) (t0 : Int32) (t1 : Int32) (S : si_St) : Option (si_St) :=
  Option.bind (si_wr S (k1 + 7) t1 t0) fun S1 => Option.bind (si_pt S1 k1 3 ((S1.1 k1 3) + 1)) fun S2 => f_X3_readSet_h92 F k1 S2
def f_X3_readSet_h47 (F : Nat) (k1 : Nat) (x2 : Int32) (x3 : Int32) (S : si_St) : Option (si_St) :=
  if (S.1 1 3) = 0 then (Option.bind (si_wr S (k1 + 6) (S.1 k1 3) x2) fun S3 => if x3 = 0 then (f_X3_readSet_h81 F k1 0 (S3.1 k1 3) S3) else (f_X3_readSet_h81 F k1 1 (S3.1 k1 3) S3)) else (f_X3_readSet_h92 F k1 S)
def f_X3_readSet_h38 (F : Nat) (k1 : Nat) (x2 : Int32) (t0 : Int32) (S : si_St) : Option (si_St) :=
  if t0 = 0 then (f_X3_readSet_h47 F k1 x2 t0 S) else (Option.bind (f_X3_advance F S) fun S4 => f_X3_readSet_h47 F k1 x2 t0 S4)
def f_X3_readSet_h37 (F : Nat) (k1 : Nat) (x2 : Int32) (S : si_St) : Option (si_St) :=
  f_X3_readSet_h38 F k1 x2 0 S
def f_X3_readSet (F : Nat) (k1 : Nat) (S : si_St) : Option (si_St) :=
  Option.bind (f_X3_takeKeyword F (S.1 k1 3) 4 S) fun S5 => Option.bind (f_X3_takeNumber F 2 12 S5) fun q6 => if (q6.2.1 1 3) = 0 then (Option.bind (f_X3_isWord F 7 q6.2) fun q7 => if q7.1 = 0 then (f_X3_readSet_h37 F k1 q6.1 q7.2) else (f_X3_readSet_h38 F k1 q6.1 1 q7.2)) else (f_X3_readSet_h37 F k1 q6.1 q6.2)
def f_X3_readMass_h114 (F : Nat) (k1 : Nat) (S : si_St) : Option (si_St) :=
  some S
def f_X3_readMass_h87 (F : Nat) (k1 : Nat) (x2 : Int32) (S : si_St) : Option (si_St) :=
  if (S.1 1 3) = 0 then (Option.bind (si_wr S (k1 + 5) (S.1 k1 2) x2) fun S1 => Option.bind (si_pt S1 k1 2 ((S1.1 k1 2) + 1)) fun S2 => f_X3_readMass_h114 F k1 S2) else (f_X3_readMass_h114 F k1 S)
def f_X3_readMass_h51 (F : Nat) (k1 : Nat) (x2 : Int32) (S : si_St) : Option (si_St) :=
  if (S.1 1 3) = 0 then (Option.bind (f_X3_isWord F 6 S) fun q3 => if q3.1 = 0 then (f_X3_readMass_h87 F k1 x2 q3.2) else (Option.bind (f_X3_advance F q3.2) fun S4 => Option.bind (f_X3_takeNumber F 0 (si_min 99 (x2 - 1)) S4) fun q5 => Option.bind (some (x2 - q5.1)) fun v6 => f_X3_readMass_h87 F k1 v6 q5.2)) else (f_X3_readMass_h87 F k1 x2 S)
def f_X3_readMass (F : Nat) (k1 : Nat) (S : si_St) : Option (si_St) :=
  Option.bind (f_X3_takeKeyword F (S.1 k1 2) 10 S) fun S7 => Option.bind (f_X3_takeNumber F 1 999999 S7) fun q8 => if (q8.2.1 1 3) = 0 then (Option.bind (f_X3_isWord F 5 q8.2) fun q9 => if q9.1 = 0 then (f_X3_readMass_h51 F k1 q8.1 q9.2) else (Option.bind (f_X3_advance F q9.2) fun S10 => Option.bind (f_X3_takeNumber F 0 99 S10) fun q11 => Option.bind (some (q8.1 + q11.1)) fun v12 => f_X3_readMass_h87 F k1 v12 q11.2)) else (f_X3_readMass_h51 F k1 q8.1 q8.2)
def f_X3_readScale_h111 (F : Nat) (k1 : Nat) (S : si_St) : Option (si_St) :=
  some S
def f_X3_readScale (F : Nat) (k1 : Nat) (S : si_St) : Option (si_St) :=
  Option.bind (f_X3_takeKeyword F (S.1 k1 1) 24 S) fun S1 => Option.bind (f_X3_takeNumber F 0 ((S1.1 k1 0) - 1) S1) fun q2 => Option.bind (f_X3_takeNumber F 0 2 q2.2) fun q3 => Option.bind (f_X3_takeNumber F 1 1000 q3.2) fun q4 => Option.bind (f_X3_takeNumber F (20 * q4.1) 999999 q4.2) fun q5 => if (q5.2.1 1 3) = 0 then (Option.bind (si_wr q5.2 (k1 + 1) (q5.2.1 k1 1) q2.1) fun S6 => Option.bind (si_wr S6 (k1 + 2) (S6.1 k1 1) q3.1) fun S7 => Option.bind (si_wr S7 (k1 + 3) (S7.1 k1 1) q4.1) fun S8 => Option.bind (si_wr S8 (k1 + 4) (S8.1 k1 1) q5.1) fun S9 => Option.bind (si_pt S9 k1 1 ((S9.1 k1 1) + 1)) fun S10 => f_X3_readScale_h111 F k1 S10) else (f_X3_readScale_h111 F k1 q5.2)
def f_X3_readStatement_h105 (F : Nat) (k1 : Nat) (S : si_St) : Option (si_St) :=
  Option.bind (f_X3_takeSemicolon F S) fun S1 => some S1
def f_X3_readStatement (F : Nat) (k1 : Nat) (S : si_St) : Option (si_St) :=
  Option.bind (f_X3_isWord F 0 S) fun q2 => if q2.1 = 0 then (Option.bind (f_X3_isWord F 1 q2.2) fun q3 => if q3.1 = 0 then (Option.bind (f_X3_isWord F 2 q3.2) fun q4 => if q4.1 = 0 then (Option.bind (f_X3_isWord F 3 q4.2) fun q5 => if q5.1 = 0 then (Option.bind (f_X3_isWord F 4 q5.2) fun q6 => if q6.1 = 0 then (Option.bind (f_X3_fail F 1 q6.2) fun S7 => f_X3_readStatement_h105 F k1 S7) else (Option.bind (f_X3_readTerm F k1 q6.2) fun S8 => f_X3_readStatement_h105 F k1 S8)) else (Option.bind (f_X3_readSet F k1 q5.2) fun S9 => f_X3_readStatement_h105 F k1 S9)) else (Option.bind (f_X3_readMass F k1 q4.2) fun S10 => f_X3_readStatement_h105 F k1 S10)) else (Option.bind (f_X3_readScale F k1 q3.2) fun S11 => f_X3_readStatement_h105 F k1 S11)) else (Option.bind (f_X3_takeKeyword F (q2.2.1 k1 0) 8 q2.2) fun S12 => Option.bind (si_pt S12 k1 0 ((S12.1 k1 0) + 1)) fun S13 => f_X3_readStatement_h105 F k1 S13)
def f_X3_readMarket_h61 (F : Nat) (k2 : Nat) (S : si_St) : Option (Int32 × si_St) :=
  some ((S.1 1 3), S)
def f_X3_readMarket_h31 (F : Nat) (k2 : Nat) (r31 : Int32 → Int32 → si_St → Option (Int32 × si_St)) (x1 : Int32) (x3 : Int32) (S : si_St) : Option (Int32 × si_St) :=
  if x1 ≤ x3 then (f_X3_readMarket_h61 F k2 S) else (if (S.1 1 7) = 0 then (f_X3_readMarket_h61 F k2 S) else (if (S.1 1 3) = 0 then (Option.bind (f_X3_readStatement F k2 S) fun S1 => Option.bind (some (x3 + 1)) fun v2 => r31 x1 v2 S1) else (f_X3_readMarket_h61 F k2 S)))
def f_X3_readMarket_l31 (F : Nat) (k2 : Nat) : Nat → Int32 → Int32 → si_St → Option (Int32 × si_St)
 | 0 => fun _ _ _ => none
 | n + 1 => fun x1 x3 S => f_X3_readMarket_h31 F k2 (f_X3_readMarket_l31 F k2 n) x1 x3 S
def f_X3_readMarket (F : Nat) (k2 : Nat) (x1 : Int32) (S : si_St) : Option (Int32 × si_St) :=
  Option.bind (f_X2_clear F k2 S) fun S3 => Option.bind (si_pt S3 1 3 0) fun S4 => Option.bind (si_pt S4 1 2 (-2)) fun S5 => Option.bind (si_pt S5 1 4 x1) fun S6 => Option.bind (si_pt S6 1 6 0) fun S7 => Option.bind (f_X3_advance F S7) fun S8 => f_X3_readMarket_l31 F k2 F x1 0 S8
abbrev rm_X3_addBytes : Room := { frames := 0, cells := 0, slots := 0, locals := 0 }
set_option maxHeartbeats 4000000 in
set_option maxRecDepth 100000 in
theorem c_X3_addBytes (l : Launch) (E : si_Ev) (F : Nat) (x1 : Int32) (S : si_St) (o : si_St) (hf : f_X3_addBytes F x1 S = some o) : si_Mv l E yX3_addBytes cX3_addBytes 3 rm_X3_addBytes [.ref (E.2.1 1), .int x1] S o := by
  refine si_ofWv (plainFor_of_name (by decide +kernel)) (Nat.le_of_ble_eq_true rfl) ?_
  intro p e s m args below meth c ls Q A X hw hA hl hret
  have hl : lv_has ls 3 [(0, .ref (E.2.1 1)), (1, .int x1)] := hl
  have B46 : ∀ (S : si_St) (H : Heap) (locs : List Loc) (ls : Array Slot), f_X3_addBytes_h46 F S = some o → si_Ws E A s.heap S H locs → lv_has ls 3 [] → W p l e rm_X3_addBytes s m args below meth c H locs 0 0 Q (F0 m 46 ls []) := by
    intro   S H locs ls hf hw hl
    unfold f_X3_addBytes_h46 at hf
    exact hret _ _ _ _ _ hf hw dX3_addBytes_46
  have B3 : ∀ (n3 : Nat) (x1 : Int32) (x2 : Int32) (S : si_St) (H : Heap) (locs : List Loc) (ls : Array Slot), f_X3_addBytes_l3 F n3 x1 x2 S = some o → si_Ws E A s.heap S H locs → lv_has ls 3 [(0, .ref (E.2.1 1)), (1, .int x1), (2, .int x2)] → W p l e rm_X3_addBytes s m args below meth c H locs 0 0 Q (F0 m 3 ls []) := by
    intro n3
    induction n3 with
    | zero => intro x1 x2  S H locs ls hf; cases hf
    | succ n3 ih3 =>
      intro x1 x2  S H locs ls hf hw hl
      have hf : f_X3_addBytes_h3 F (f_X3_addBytes_l3 F n3) x1 x2 S = some o := hf
      unfold f_X3_addBytes_h3 at hf
      refine lv_iload_n X.1 X.2.1 dX3_addBytes_3 rfl (lv_at hl 2 rfl) ?_
      refine lv_if_lt (tgt := 46) X.1 X.2.1 dX3_addBytes_4 (by decide) (fun c4 => ?_) (fun c4 => ?_)
      · have hf := si_ip c4 hf
        exact B46 _ _ _ _ hf hw (lv_sub hl [] rfl)
      · have hf := si_in c4 hf
        refine lv_aload_n X.1 X.2.1 dX3_addBytes_7 rfl (lv_at hl 0 rfl) ?_
        refine si_getI X hw si_cl3 1 (by decide) gf_RX3_19 rfl rfl rfl dX3_addBytes_8 ?_
        refine lv_sipush (v := 800) X.1 X.2.1 dX3_addBytes_11 (by decide) ?_
        refine lv_icmp_ge (tgt := 46) X.1 X.2.1 dX3_addBytes_14 (by decide) (fun c14 => ?_) (fun c14 => ?_)
        · have hf := si_ip c14 hf
          exact B46 _ _ _ _ hf hw (lv_sub hl [] rfl)
        · have hf := si_in c14 hf
          refine lv_aload_n X.1 X.2.1 dX3_addBytes_17 rfl (lv_at hl 0 rfl) ?_
          refine si_getR (k' := 2) (d := 1) X hw si_cl3 0 (by decide) gf_RX3_9 rfl rfl rfl (by decide) rfl dX3_addBytes_18 ?_
          refine lv_aload_n X.1 X.2.1 dX3_addBytes_21 rfl (lv_at hl 0 rfl) ?_
          refine si_getI X hw si_cl3 1 (by decide) gf_RX3_19 rfl rfl rfl dX3_addBytes_22 ?_
          refine lv_iload_n X.1 X.2.1 dX3_addBytes_25 rfl (lv_at hl 1 rfl) ?_
          refine lv_iload_n X.1 X.2.1 dX3_addBytes_26 rfl (lv_at hl 2 rfl) ?_
          refine lv_iushr (v := (si_ushr x1 x2)) X.1 X.2.1 dX3_addBytes_27 rfl ?_
          refine lv_i2b (v := (si_i2b (si_ushr x1 x2))) X.1 X.2.1 dX3_addBytes_28 rfl ?_
          obtain ⟨S1, eS1, hf⟩ := si_ob hf
          refine si_bast X hw rfl eS1 dX3_addBytes_29 (fun H locs hw => ?_)
          refine lv_aload_n X.1 X.2.1 dX3_addBytes_30 rfl (lv_at hl 0 rfl) ?_
          refine lv_dup X.1 X.2.1 dX3_addBytes_31 rfl ?_
          refine si_getI X hw si_cl3 1 (by decide) gf_RX3_19 rfl rfl rfl dX3_addBytes_32 ?_
          refine lv_iconst (v := 1) X.1 X.2.1 dX3_addBytes_35 (by decide) ?_
          refine lv_iadd X.1 X.2.1 dX3_addBytes_36 ?_
          obtain ⟨S2, eS2, hf⟩ := si_ob hf
          refine si_ptI X hw si_cl3 1 (by decide) gf_RX3_19 rfl rfl rfl rfl rfl eS2 dX3_addBytes_37 (fun H locs hw => ?_)
          obtain ⟨v3, ev3, hf⟩ := si_ob hf
          refine lv_iinc (v := v3) (lv' := [(2, .int v3), (0, .ref (E.2.1 1)), (1, .int x1)]) X.1 X.2.1 dX3_addBytes_40 hl (k := 2) rfl (Option.some.inj ev3) (by decide) rfl (fun ls hl => ?_)
          refine lv_goto (tgt := 3) X.1 X.2.1 dX3_addBytes_43 (by decide) ?_
          exact ih3 _ _ _ _ _ _ hf hw (lv_sub hl [1, 2, 0] rfl)
  unfold f_X3_addBytes at hf
  refine lv_bipush (v := 24) X.1 X.2.1 dX3_addBytes_0 (by decide) ?_
  refine lv_istore_n (lv' := [(2, .int 24), (0, .ref (E.2.1 1)), (1, .int x1)]) X.1 X.2.1 dX3_addBytes_2 rfl hl (by decide) rfl (fun ls hl => ?_)
  exact B3 F _ _ _ _ _ _ hf hw (lv_sub hl [1, 2, 0] rfl)
abbrev rm_X3_isWord : Room := { frames := 4, cells := 0, slots := 0, locals := 85 }
set_option maxHeartbeats 4000000 in
set_option maxRecDepth 100000 in
theorem c_X3_isWord (l : Launch) (E : si_Ev) (F : Nat) (g1 : Nat) (hg1 : g1 < 17) (S : si_St) (o : Int32 × si_St) (hf : f_X3_isWord F g1 S = some o) : si_Mi l E yX3_isWord cX3_isWord 3 (some .boolean) rm_X3_isWord [.ref (E.2.1 1), .ref (E.2.2.2.1 g1)] S o := by
  refine si_ofWz (plainFor_of_name (by decide +kernel)) (Nat.le_of_ble_eq_true rfl) ?_
  intro p e s m args below meth c ls Q A X hw hA hl hret
  have hl : lv_has ls 3 [(0, .ref (E.2.1 1)), (1, .ref (E.2.2.2.1 g1))] := hl
  have B24 : ∀ (S : si_St) (H : Heap) (locs : List Loc) (ls : Array Slot), f_X3_isWord_h24 F g1 S = some o → si_Ws E A s.heap S H locs → lv_has ls 3 [] → W p l e rm_X3_isWord s m args below meth c H locs 0 0 Q (F0 m 24 ls []) := by
    intro   S H locs ls hf hw hl
    unfold f_X3_isWord_h24 at hf
    refine lv_iconst (v := 0) X.1 X.2.1 dX3_isWord_24 (by decide) ?_
    obtain ⟨v1, ev1, hf⟩ := si_ob hf
    exact hret _ _ _ _ _ _ (si_bzf ev1 hf) (si_nz (si_bz_inv ev1).1) hw dX3_isWord_25
  have B28 : ∀ (n28 : Nat) (x2 : Int32) (S : si_St) (H : Heap) (locs : List Loc) (ls : Array Slot), f_X3_isWord_l28 F g1 n28 x2 S = some o → si_Ws E A s.heap S H locs → lv_has ls 3 [(0, .ref (E.2.1 1)), (1, .ref (E.2.2.2.1 g1)), (2, .int x2)] → W p l e rm_X3_isWord s m args below meth c H locs 0 0 Q (F0 m 28 ls []) := by
    intro n28
    induction n28 with
    | zero => intro x2  S H locs ls hf; cases hf
    | succ n28 ih28 =>
      intro x2  S H locs ls hf hw hl
      have hf : f_X3_isWord_h28 F g1 (f_X3_isWord_l28 F g1 n28) x2 S = some o := hf
      unfold f_X3_isWord_h28 at hf
      refine lv_iload_n X.1 X.2.1 dX3_isWord_28 rfl (lv_at hl 2 rfl) ?_
      refine lv_aload_n X.1 X.2.1 dX3_isWord_29 rfl (lv_at hl 1 rfl) ?_
      obtain ⟨q2, eq2, hf⟩ := si_ob hf
      refine si_cVS [] cal_J0_length_8abf5 gm_RX3_146 X hw hA hl.1 (c_J0_length_8abf5 l E F g1 hg1 S q2 eq2) hg1 ⟨⟨rfl, rfl⟩, Nat.le_of_ble_eq_true rfl, Nat.le_of_ble_eq_true rfl⟩ rfl rfl (Nat.le_of_ble_eq_true rfl) ⟨Nat.zero_le _, Nat.zero_le _⟩ dX3_isWord_30 (fun H locs hw => ?_)
      refine lv_icmp_ge (tgt := 63) X.1 X.2.1 dX3_isWord_33 (by decide) (fun c33 => ?_) (fun c33 => ?_)
      · have hf := si_ip c33 hf
        refine lv_iconst (v := 1) X.1 X.2.1 dX3_isWord_63 (by decide) ?_
        obtain ⟨v3, ev3, hf⟩ := si_ob hf
        exact hret _ _ _ _ _ _ (si_bzf ev3 hf) (si_nz (si_bz_inv ev3).1) hw dX3_isWord_64
      · have hf := si_in c33 hf
        refine lv_aload_n X.1 X.2.1 dX3_isWord_36 rfl (lv_at hl 0 rfl) ?_
        refine si_getR (k' := 2) (d := 1) X hw si_cl3 0 (by decide) gf_RX3_9 rfl rfl rfl (by decide) rfl dX3_isWord_37 ?_
        refine lv_aload_n X.1 X.2.1 dX3_isWord_40 rfl (lv_at hl 0 rfl) ?_
        refine si_getI X hw si_cl3 5 (by decide) gf_RX3_133 rfl rfl rfl dX3_isWord_41 ?_
        refine lv_iload_n X.1 X.2.1 dX3_isWord_44 rfl (lv_at hl 2 rfl) ?_
        refine lv_iadd X.1 X.2.1 dX3_isWord_45 ?_
        obtain ⟨v4, ev4, hf⟩ := si_ob hf
        refine si_bald X hw rfl ev4 dX3_isWord_46 ?_
        refine lv_aload_n X.1 X.2.1 dX3_isWord_47 rfl (lv_at hl 1 rfl) ?_
        refine lv_iload_n X.1 X.2.1 dX3_isWord_48 rfl (lv_at hl 2 rfl) ?_
        obtain ⟨q5, eq5, hf⟩ := si_ob hf
        refine si_cVS [.int x2] cal_J0_charAt_5068e gm_RX3_151 X hw hA hl.1 (c_J0_charAt_5068e l E F g1 hg1 x2 q2.2 q5 eq5) hg1 ⟨⟨rfl, rfl⟩, Nat.le_of_ble_eq_true rfl, Nat.le_of_ble_eq_true rfl⟩ rfl rfl (Nat.le_of_ble_eq_true rfl) ⟨Nat.zero_le _, Nat.zero_le _⟩ dX3_isWord_49 (fun H locs hw => ?_)
        refine lv_icmp_eq (tgt := 57) X.1 X.2.1 dX3_isWord_52 (by decide) (fun c52 => ?_) (fun c52 => ?_)
        · have hf := si_ip c52 hf
          obtain ⟨v6, ev6, hf⟩ := si_ob hf
          refine lv_iinc (v := v6) (lv' := [(2, .int v6), (0, .ref (E.2.1 1)), (1, .ref (E.2.2.2.1 g1))]) X.1 X.2.1 dX3_isWord_57 hl (k := 2) rfl (Option.some.inj ev6) (by decide) rfl (fun ls hl => ?_)
          refine lv_goto (tgt := 28) X.1 X.2.1 dX3_isWord_60 (by decide) ?_
          exact ih28 _ _ _ _ _ hf hw (lv_sub hl [1, 2, 0] rfl)
        · have hf := si_in c52 hf
          refine lv_iconst (v := 0) X.1 X.2.1 dX3_isWord_55 (by decide) ?_
          obtain ⟨v7, ev7, hf⟩ := si_ob hf
          exact hret _ _ _ _ _ _ (si_bzf ev7 hf) (si_nz (si_bz_inv ev7).1) hw dX3_isWord_56
  unfold f_X3_isWord at hf
  refine lv_aload_n X.1 X.2.1 dX3_isWord_0 rfl (lv_at hl 0 rfl) ?_
  refine si_getI X hw si_cl3 7 (by decide) gf_RX3_39 rfl rfl rfl dX3_isWord_1 ?_
  refine lv_iconst (v := 1) X.1 X.2.1 dX3_isWord_4 (by decide) ?_
  refine lv_icmp_ne (tgt := 24) X.1 X.2.1 dX3_isWord_5 (by decide) (fun c5 => ?_) (fun c5 => ?_)
  · have hf := si_in c5 hf
    exact B24 _ _ _ _ hf hw (lv_sub hl [] rfl)
  · have hf := si_ip c5 hf
    refine lv_aload_n X.1 X.2.1 dX3_isWord_8 rfl (lv_at hl 0 rfl) ?_
    refine si_getI X hw si_cl3 6 (by decide) gf_RX3_33 rfl rfl rfl dX3_isWord_9 ?_
    refine lv_aload_n X.1 X.2.1 dX3_isWord_12 rfl (lv_at hl 0 rfl) ?_
    refine si_getI X hw si_cl3 5 (by decide) gf_RX3_133 rfl rfl rfl dX3_isWord_13 ?_
    refine lv_isub X.1 X.2.1 dX3_isWord_16 ?_
    refine lv_aload_n X.1 X.2.1 dX3_isWord_17 rfl (lv_at hl 1 rfl) ?_
    obtain ⟨q8, eq8, hf⟩ := si_ob hf
    refine si_cVS [] cal_J0_length_8abf5 gm_RX3_146 X hw hA hl.1 (c_J0_length_8abf5 l E F g1 hg1 S q8 eq8) hg1 ⟨⟨rfl, rfl⟩, Nat.le_of_ble_eq_true rfl, Nat.le_of_ble_eq_true rfl⟩ rfl rfl (Nat.le_of_ble_eq_true rfl) ⟨Nat.zero_le _, Nat.zero_le _⟩ dX3_isWord_18 (fun H locs hw => ?_)
    refine lv_icmp_eq (tgt := 26) X.1 X.2.1 dX3_isWord_21 (by decide) (fun c21 => ?_) (fun c21 => ?_)
    · have hf := si_ip c21 hf
      refine lv_iconst (v := 0) X.1 X.2.1 dX3_isWord_26 (by decide) ?_
      refine lv_istore_n (lv' := [(2, .int 0), (0, .ref (E.2.1 1)), (1, .ref (E.2.2.2.1 g1))]) X.1 X.2.1 dX3_isWord_27 rfl hl (by decide) rfl (fun ls hl => ?_)
      exact B28 F _ _ _ _ _ hf hw (lv_sub hl [1, 2, 0] rfl)
    · have hf := si_in c21 hf
      exact B24 _ _ _ _ hf hw (lv_sub hl [] rfl)
abbrev rm_X3_passRun : Room := { frames := 0, cells := 0, slots := 0, locals := 0 }
set_option maxHeartbeats 4000000 in
set_option maxRecDepth 100000 in
theorem c_X3_passRun (l : Launch) (E : si_Ev) (F : Nat) (x1 : Int32) (x2 : Int32) (S : si_St) (o : si_St) (hf : f_X3_passRun F x1 x2 S = some o) : si_Mv l E yX3_passRun cX3_passRun 3 rm_X3_passRun [.ref (E.2.1 1), .int x1, .int x2] S o := by
  refine si_ofWv (plainFor_of_name (by decide +kernel)) (Nat.le_of_ble_eq_true rfl) ?_
  intro p e s m args below meth c ls Q A X hw hA hl hret
  have hl : lv_has ls 3 [(0, .ref (E.2.1 1)), (1, .int x1), (2, .int x2)] := hl
  have B50 : ∀ (S : si_St) (H : Heap) (locs : List Loc) (ls : Array Slot), f_X3_passRun_h50 F S = some o → si_Ws E A s.heap S H locs → lv_has ls 3 [] → W p l e rm_X3_passRun s m args below meth c H locs 0 0 Q (F0 m 50 ls []) := by
    intro   S H locs ls hf hw hl
    unfold f_X3_passRun_h50 at hf
    exact hret _ _ _ _ _ hf hw dX3_passRun_50
  have B0 : ∀ (n0 : Nat) (x1 : Int32) (x2 : Int32) (S : si_St) (H : Heap) (locs : List Loc) (ls : Array Slot), f_X3_passRun_l0 F n0 x1 x2 S = some o → si_Ws E A s.heap S H locs → lv_has ls 3 [(0, .ref (E.2.1 1)), (1, .int x1), (2, .int x2)] → W p l e rm_X3_passRun s m args below meth c H locs 0 0 Q (F0 m 0 ls []) := by
    intro n0
    induction n0 with
    | zero => intro x1 x2  S H locs ls hf; cases hf
    | succ n0 ih0 =>
      intro x1 x2  S H locs ls hf hw hl
      have hf : f_X3_passRun_h0 F (f_X3_passRun_l0 F n0) x1 x2 S = some o := hf
      unfold f_X3_passRun_h0 at hf
      refine lv_aload_n X.1 X.2.1 dX3_passRun_0 rfl (lv_at hl 0 rfl) ?_
      refine si_getI X hw si_cl3 6 (by decide) gf_RX3_33 rfl rfl rfl dX3_passRun_1 ?_
      refine lv_aload_n X.1 X.2.1 dX3_passRun_4 rfl (lv_at hl 0 rfl) ?_
      refine si_getI X hw si_cl3 4 (by decide) gf_RX3_30 rfl rfl rfl dX3_passRun_5 ?_
      refine lv_icmp_ge (tgt := 50) X.1 X.2.1 dX3_passRun_8 (by decide) (fun c8 => ?_) (fun c8 => ?_)
      · have hf := si_ip c8 hf
        exact B50 _ _ _ _ hf hw (lv_sub hl [] rfl)
      · have hf := si_in c8 hf
        refine lv_aload_n X.1 X.2.1 dX3_passRun_11 rfl (lv_at hl 0 rfl) ?_
        refine si_getR (k' := 2) (d := 1) X hw si_cl3 0 (by decide) gf_RX3_9 rfl rfl rfl (by decide) rfl dX3_passRun_12 ?_
        refine lv_aload_n X.1 X.2.1 dX3_passRun_15 rfl (lv_at hl 0 rfl) ?_
        refine si_getI X hw si_cl3 6 (by decide) gf_RX3_33 rfl rfl rfl dX3_passRun_16 ?_
        obtain ⟨v1, ev1, hf⟩ := si_ob hf
        refine si_bald X hw rfl ev1 dX3_passRun_19 ?_
        refine lv_iload_n X.1 X.2.1 dX3_passRun_20 rfl (lv_at hl 1 rfl) ?_
        refine lv_icmp_lt (tgt := 50) X.1 X.2.1 dX3_passRun_21 (by decide) (fun c21 => ?_) (fun c21 => ?_)
        · have hf := si_ip c21 hf
          exact B50 _ _ _ _ hf hw (lv_sub hl [] rfl)
        · have hf := si_in c21 hf
          refine lv_aload_n X.1 X.2.1 dX3_passRun_24 rfl (lv_at hl 0 rfl) ?_
          refine si_getR (k' := 2) (d := 1) X hw si_cl3 0 (by decide) gf_RX3_9 rfl rfl rfl (by decide) rfl dX3_passRun_25 ?_
          refine lv_aload_n X.1 X.2.1 dX3_passRun_28 rfl (lv_at hl 0 rfl) ?_
          refine si_getI X hw si_cl3 6 (by decide) gf_RX3_33 rfl rfl rfl dX3_passRun_29 ?_
          obtain ⟨v2, ev2, hf⟩ := si_ob hf
          refine si_bald X hw rfl ev2 dX3_passRun_32 ?_
          refine lv_iload_n X.1 X.2.1 dX3_passRun_33 rfl (lv_at hl 2 rfl) ?_
          refine lv_icmp_gt (tgt := 50) X.1 X.2.1 dX3_passRun_34 (by decide) (fun c34 => ?_) (fun c34 => ?_)
          · have hf := si_ip c34 hf
            exact B50 _ _ _ _ hf hw (lv_sub hl [] rfl)
          · have hf := si_in c34 hf
            refine lv_aload_n X.1 X.2.1 dX3_passRun_37 rfl (lv_at hl 0 rfl) ?_
            refine lv_dup X.1 X.2.1 dX3_passRun_38 rfl ?_
            refine si_getI X hw si_cl3 6 (by decide) gf_RX3_33 rfl rfl rfl dX3_passRun_39 ?_
            refine lv_iconst (v := 1) X.1 X.2.1 dX3_passRun_42 (by decide) ?_
            refine lv_iadd X.1 X.2.1 dX3_passRun_43 ?_
            obtain ⟨S3, eS3, hf⟩ := si_ob hf
            refine si_ptI X hw si_cl3 6 (by decide) gf_RX3_33 rfl rfl rfl rfl rfl eS3 dX3_passRun_44 (fun H locs hw => ?_)
            refine lv_goto (tgt := 0) X.1 X.2.1 dX3_passRun_47 (by decide) ?_
            exact ih0 _ _ _ _ _ _ hf hw (lv_sub hl [0, 1, 2] rfl)
  unfold f_X3_passRun at hf
  exact B0 F _ _ _ _ _ _ hf hw (lv_sub hl [0, 1, 2] rfl)
abbrev rm_X3_advance : Room := { frames := 1, cells := 0, slots := 0, locals := 22 }
set_option maxHeartbeats 4000000 in
set_option maxRecDepth 100000 in
theorem c_X3_advance (l : Launch) (E : si_Ev) (F : Nat) (S : si_St) (o : si_St) (hf : f_X3_advance F S = some o) : si_Mv l E yX3_advance cX3_advance 2 rm_X3_advance [.ref (E.2.1 1)] S o := by
  refine si_ofWv (plainFor_of_name (by decide +kernel)) (Nat.le_of_ble_eq_true rfl) ?_
  intro p e s m args below meth c ls Q A X hw hA hl hret
  have hl : lv_has ls 2 [(0, .ref (E.2.1 1))] := hl
  have B204 : ∀ (S : si_St) (H : Heap) (locs : List Loc) (ls : Array Slot), f_X3_advance_h204 F S = some o → si_Ws E A s.heap S H locs → lv_has ls 2 [] → W p l e rm_X3_advance s m args below meth c H locs 0 0 Q (F0 m 204 ls []) := by
    intro   S H locs ls hf hw hl
    unfold f_X3_advance_h204 at hf
    exact hret _ _ _ _ _ hf hw dX3_advance_204
  have B201 : ∀ (t0 : Int32) (S : si_St) (H : Heap) (locs : List Loc) (ls : Array Slot), f_X3_advance_h201 F t0 S = some o → si_Ws E A s.heap S H locs → lv_has ls 2 [] → W p l e rm_X3_advance s m args below meth c H locs 0 0 Q (F0 m 201 ls [.int t0, .ref (E.2.1 1)]) := by
    intro t0  S H locs ls hf hw hl
    unfold f_X3_advance_h201 at hf
    obtain ⟨S1, eS1, hf⟩ := si_ob hf
    refine si_ptI X hw si_cl3 7 (by decide) gf_RX3_39 rfl rfl rfl rfl rfl eS1 dX3_advance_201 (fun H locs hw => ?_)
    exact B204 _ _ _ _ hf hw (lv_sub hl [] rfl)
  have B179 : ∀ (x1 : Int32) (S : si_St) (H : Heap) (locs : List Loc) (ls : Array Slot), f_X3_advance_h179 F x1 S = some o → si_Ws E A s.heap S H locs → lv_has ls 2 [(0, .ref (E.2.1 1)), (1, .int x1)] → W p l e rm_X3_advance s m args below meth c H locs 0 0 Q (F0 m 179 ls []) := by
    intro x1  S H locs ls hf hw hl
    unfold f_X3_advance_h179 at hf
    refine lv_aload_n X.1 X.2.1 dX3_advance_179 rfl (lv_at hl 0 rfl) ?_
    refine lv_dup X.1 X.2.1 dX3_advance_180 rfl ?_
    refine si_getI X hw si_cl3 6 (by decide) gf_RX3_33 rfl rfl rfl dX3_advance_181 ?_
    refine lv_iconst (v := 1) X.1 X.2.1 dX3_advance_184 (by decide) ?_
    refine lv_iadd X.1 X.2.1 dX3_advance_185 ?_
    obtain ⟨S2, eS2, hf⟩ := si_ob hf
    refine si_ptI X hw si_cl3 6 (by decide) gf_RX3_33 rfl rfl rfl rfl rfl eS2 dX3_advance_186 (fun H locs hw => ?_)
    refine lv_aload_n X.1 X.2.1 dX3_advance_189 rfl (lv_at hl 0 rfl) ?_
    refine lv_iload_n X.1 X.2.1 dX3_advance_190 rfl (lv_at hl 1 rfl) ?_
    refine lv_bipush (v := 59) X.1 X.2.1 dX3_advance_191 (by decide) ?_
    refine lv_icmp_ne (tgt := 200) X.1 X.2.1 dX3_advance_193 (by decide) (fun c193 => ?_) (fun c193 => ?_)
    · have hf := si_in c193 hf
      refine lv_iconst (v := 4) X.1 X.2.1 dX3_advance_200 (by decide) ?_
      exact B201 _ _ _ _ _ hf hw (lv_sub hl [] rfl)
    · have hf := si_ip c193 hf
      refine lv_iconst (v := 3) X.1 X.2.1 dX3_advance_196 (by decide) ?_
      refine lv_goto (tgt := 201) X.1 X.2.1 dX3_advance_197 (by decide) ?_
      exact B201 _ _ _ _ _ hf hw (lv_sub hl [] rfl)
  have B173 : ∀ (t0 : Int32) (S : si_St) (H : Heap) (locs : List Loc) (ls : Array Slot), f_X3_advance_h173 F t0 S = some o → si_Ws E A s.heap S H locs → lv_has ls 2 [] → W p l e rm_X3_advance s m args below meth c H locs 0 0 Q (F0 m 173 ls [.int t0, .ref (E.2.1 1)]) := by
    intro t0  S H locs ls hf hw hl
    unfold f_X3_advance_h173 at hf
    obtain ⟨S3, eS3, hf⟩ := si_ob hf
    refine si_ptI X hw si_cl3 7 (by decide) gf_RX3_39 rfl rfl rfl rfl rfl eS3 dX3_advance_173 (fun H locs hw => ?_)
    refine lv_goto (tgt := 204) X.1 X.2.1 dX3_advance_176 (by decide) ?_
    exact B204 _ _ _ _ hf hw (lv_sub hl [] rfl)
  have B133 : ∀ (x1 : Int32) (S : si_St) (H : Heap) (locs : List Loc) (ls : Array Slot), f_X3_advance_h133 F x1 S = some o → si_Ws E A s.heap S H locs → lv_has ls 2 [(0, .ref (E.2.1 1)), (1, .int x1)] → W p l e rm_X3_advance s m args below meth c H locs 0 0 Q (F0 m 133 ls []) := by
    intro x1  S H locs ls hf hw hl
    unfold f_X3_advance_h133 at hf
    refine lv_iload_n X.1 X.2.1 dX3_advance_133 rfl (lv_at hl 1 rfl) ?_
    refine lv_bipush (v := 48) X.1 X.2.1 dX3_advance_134 (by decide) ?_
    refine lv_icmp_lt (tgt := 179) X.1 X.2.1 dX3_advance_136 (by decide) (fun c136 => ?_) (fun c136 => ?_)
    · have hf := si_ip c136 hf
      exact B179 _ _ _ _ _ hf hw (lv_sub hl [0, 1] rfl)
    · have hf := si_in c136 hf
      refine lv_iload_n X.1 X.2.1 dX3_advance_139 rfl (lv_at hl 1 rfl) ?_
      refine lv_bipush (v := 57) X.1 X.2.1 dX3_advance_140 (by decide) ?_
      refine lv_icmp_gt (tgt := 179) X.1 X.2.1 dX3_advance_142 (by decide) (fun c142 => ?_) (fun c142 => ?_)
      · have hf := si_ip c142 hf
        exact B179 _ _ _ _ _ hf hw (lv_sub hl [0, 1] rfl)
      · have hf := si_in c142 hf
        refine lv_aload_n X.1 X.2.1 dX3_advance_145 rfl (lv_at hl 0 rfl) ?_
        refine lv_bipush (v := 48) X.1 X.2.1 dX3_advance_146 (by decide) ?_
        refine lv_bipush (v := 57) X.1 X.2.1 dX3_advance_148 (by decide) ?_
        obtain ⟨S4, eS4, hf⟩ := si_ob hf
        refine si_cVv [.int 48, .int 57] cal_X3_passRun gm_RX3_155 X hw hA hl.1 (c_X3_passRun l E F 48 57 S S4 eS4) si_cl3 rfl ⟨⟨rfl, rfl⟩, Nat.le_of_ble_eq_true rfl, Nat.le_of_ble_eq_true rfl⟩ rfl rfl (Nat.le_of_ble_eq_true rfl) ⟨Nat.zero_le _, Nat.zero_le _⟩ dX3_advance_150 (fun H locs hw => ?_)
        refine lv_aload_n X.1 X.2.1 dX3_advance_153 rfl (lv_at hl 0 rfl) ?_
        refine lv_aload_n X.1 X.2.1 dX3_advance_154 rfl (lv_at hl 0 rfl) ?_
        refine si_getI X hw si_cl3 6 (by decide) gf_RX3_33 rfl rfl rfl dX3_advance_155 ?_
        refine lv_aload_n X.1 X.2.1 dX3_advance_158 rfl (lv_at hl 0 rfl) ?_
        refine si_getI X hw si_cl3 5 (by decide) gf_RX3_133 rfl rfl rfl dX3_advance_159 ?_
        refine lv_isub X.1 X.2.1 dX3_advance_162 ?_
        refine lv_bipush (v := 6) X.1 X.2.1 dX3_advance_163 (by decide) ?_
        refine lv_icmp_gt (tgt := 172) X.1 X.2.1 dX3_advance_165 (by decide) (fun c165 => ?_) (fun c165 => ?_)
        · have hf := si_ip c165 hf
          refine lv_iconst (v := 4) X.1 X.2.1 dX3_advance_172 (by decide) ?_
          exact B173 _ _ _ _ _ hf hw (lv_sub hl [] rfl)
        · have hf := si_in c165 hf
          refine lv_iconst (v := 2) X.1 X.2.1 dX3_advance_168 (by decide) ?_
          refine lv_goto (tgt := 173) X.1 X.2.1 dX3_advance_169 (by decide) ?_
          exact B173 _ _ _ _ _ hf hw (lv_sub hl [] rfl)
  have B127 : ∀ (t0 : Int32) (S : si_St) (H : Heap) (locs : List Loc) (ls : Array Slot), f_X3_advance_h127 F t0 S = some o → si_Ws E A s.heap S H locs → lv_has ls 2 [] → W p l e rm_X3_advance s m args below meth c H locs 0 0 Q (F0 m 127 ls [.int t0, .ref (E.2.1 1)]) := by
    intro t0  S H locs ls hf hw hl
    unfold f_X3_advance_h127 at hf
    obtain ⟨S5, eS5, hf⟩ := si_ob hf
    refine si_ptI X hw si_cl3 7 (by decide) gf_RX3_39 rfl rfl rfl rfl rfl eS5 dX3_advance_127 (fun H locs hw => ?_)
    refine lv_goto (tgt := 204) X.1 X.2.1 dX3_advance_130 (by decide) ?_
    exact B204 _ _ _ _ hf hw (lv_sub hl [] rfl)
  have B52 : ∀ (S : si_St) (H : Heap) (locs : List Loc) (ls : Array Slot), f_X3_advance_h52 F S = some o → si_Ws E A s.heap S H locs → lv_has ls 2 [(0, .ref (E.2.1 1))] → W p l e rm_X3_advance s m args below meth c H locs 0 0 Q (F0 m 52 ls []) := by
    intro   S H locs ls hf hw hl
    unfold f_X3_advance_h52 at hf
    refine lv_aload_n X.1 X.2.1 dX3_advance_52 rfl (lv_at hl 0 rfl) ?_
    refine lv_aload_n X.1 X.2.1 dX3_advance_53 rfl (lv_at hl 0 rfl) ?_
    refine si_getI X hw si_cl3 6 (by decide) gf_RX3_33 rfl rfl rfl dX3_advance_54 ?_
    obtain ⟨S6, eS6, hf⟩ := si_ob hf
    refine si_ptI X hw si_cl3 5 (by decide) gf_RX3_133 rfl rfl rfl rfl rfl eS6 dX3_advance_57 (fun H locs hw => ?_)
    refine lv_aload_n X.1 X.2.1 dX3_advance_60 rfl (lv_at hl 0 rfl) ?_
    refine si_getI X hw si_cl3 6 (by decide) gf_RX3_33 rfl rfl rfl dX3_advance_61 ?_
    refine lv_aload_n X.1 X.2.1 dX3_advance_64 rfl (lv_at hl 0 rfl) ?_
    refine si_getI X hw si_cl3 4 (by decide) gf_RX3_30 rfl rfl rfl dX3_advance_65 ?_
    refine lv_icmp_lt (tgt := 77) X.1 X.2.1 dX3_advance_68 (by decide) (fun c68 => ?_) (fun c68 => ?_)
    · have hf := si_ip c68 hf
      refine lv_aload_n X.1 X.2.1 dX3_advance_77 rfl (lv_at hl 0 rfl) ?_
      refine si_getR (k' := 2) (d := 1) X hw si_cl3 0 (by decide) gf_RX3_9 rfl rfl rfl (by decide) rfl dX3_advance_78 ?_
      refine lv_aload_n X.1 X.2.1 dX3_advance_81 rfl (lv_at hl 0 rfl) ?_
      refine si_getI X hw si_cl3 6 (by decide) gf_RX3_33 rfl rfl rfl dX3_advance_82 ?_
      obtain ⟨v7, ev7, hf⟩ := si_ob hf
      refine si_bald X hw rfl ev7 dX3_advance_85 ?_
      refine lv_istore_n (lv' := [(1, .int v7), (0, .ref (E.2.1 1))]) X.1 X.2.1 dX3_advance_86 rfl hl (by decide) rfl (fun ls hl => ?_)
      refine lv_iload_n X.1 X.2.1 dX3_advance_87 rfl (lv_at hl 0 rfl) ?_
      refine lv_bipush (v := 97) X.1 X.2.1 dX3_advance_88 (by decide) ?_
      refine lv_icmp_lt (tgt := 133) X.1 X.2.1 dX3_advance_90 (by decide) (fun c90 => ?_) (fun c90 => ?_)
      · have hf := si_ip c90 hf
        exact B133 _ _ _ _ _ hf hw (lv_sub hl [1, 0] rfl)
      · have hf := si_in c90 hf
        refine lv_iload_n X.1 X.2.1 dX3_advance_93 rfl (lv_at hl 0 rfl) ?_
        refine lv_bipush (v := 122) X.1 X.2.1 dX3_advance_94 (by decide) ?_
        refine lv_icmp_gt (tgt := 133) X.1 X.2.1 dX3_advance_96 (by decide) (fun c96 => ?_) (fun c96 => ?_)
        · have hf := si_ip c96 hf
          exact B133 _ _ _ _ _ hf hw (lv_sub hl [1, 0] rfl)
        · have hf := si_in c96 hf
          refine lv_aload_n X.1 X.2.1 dX3_advance_99 rfl (lv_at hl 1 rfl) ?_
          refine lv_bipush (v := 97) X.1 X.2.1 dX3_advance_100 (by decide) ?_
          refine lv_bipush (v := 122) X.1 X.2.1 dX3_advance_102 (by decide) ?_
          obtain ⟨S8, eS8, hf⟩ := si_ob hf
          refine si_cVv [.int 97, .int 122] cal_X3_passRun gm_RX3_155 X hw hA hl.1 (c_X3_passRun l E F 97 122 S6 S8 eS8) si_cl3 rfl ⟨⟨rfl, rfl⟩, Nat.le_of_ble_eq_true rfl, Nat.le_of_ble_eq_true rfl⟩ rfl rfl (Nat.le_of_ble_eq_true rfl) ⟨Nat.zero_le _, Nat.zero_le _⟩ dX3_advance_104 (fun H locs hw => ?_)
          refine lv_aload_n X.1 X.2.1 dX3_advance_107 rfl (lv_at hl 1 rfl) ?_
          refine lv_aload_n X.1 X.2.1 dX3_advance_108 rfl (lv_at hl 1 rfl) ?_
          refine si_getI X hw si_cl3 6 (by decide) gf_RX3_33 rfl rfl rfl dX3_advance_109 ?_
          refine lv_aload_n X.1 X.2.1 dX3_advance_112 rfl (lv_at hl 1 rfl) ?_
          refine si_getI X hw si_cl3 5 (by decide) gf_RX3_133 rfl rfl rfl dX3_advance_113 ?_
          refine lv_isub X.1 X.2.1 dX3_advance_116 ?_
          refine lv_bipush (v := 8) X.1 X.2.1 dX3_advance_117 (by decide) ?_
          refine lv_icmp_gt (tgt := 126) X.1 X.2.1 dX3_advance_119 (by decide) (fun c119 => ?_) (fun c119 => ?_)
          · have hf := si_ip c119 hf
            refine lv_iconst (v := 4) X.1 X.2.1 dX3_advance_126 (by decide) ?_
            exact B127 _ _ _ _ _ hf hw (lv_sub hl [] rfl)
          · have hf := si_in c119 hf
            refine lv_iconst (v := 1) X.1 X.2.1 dX3_advance_122 (by decide) ?_
            refine lv_goto (tgt := 127) X.1 X.2.1 dX3_advance_123 (by decide) ?_
            exact B127 _ _ _ _ _ hf hw (lv_sub hl [] rfl)
    · have hf := si_in c68 hf
      refine lv_aload_n X.1 X.2.1 dX3_advance_71 rfl (lv_at hl 0 rfl) ?_
      refine lv_iconst (v := 0) X.1 X.2.1 dX3_advance_72 (by decide) ?_
      obtain ⟨S9, eS9, hf⟩ := si_ob hf
      refine si_ptI X hw si_cl3 7 (by decide) gf_RX3_39 rfl rfl rfl rfl rfl eS9 dX3_advance_73 (fun H locs hw => ?_)
      exact hret _ _ _ _ _ hf hw dX3_advance_76
  have B0 : ∀ (n0 : Nat) (S : si_St) (H : Heap) (locs : List Loc) (ls : Array Slot), f_X3_advance_l0 F n0 S = some o → si_Ws E A s.heap S H locs → lv_has ls 2 [(0, .ref (E.2.1 1))] → W p l e rm_X3_advance s m args below meth c H locs 0 0 Q (F0 m 0 ls []) := by
    intro n0
    induction n0 with
    | zero => intro   S H locs ls hf; cases hf
    | succ n0 ih0 =>
      have B39 : ∀ (S : si_St) (H : Heap) (locs : List Loc) (ls : Array Slot), f_X3_advance_h39 F (f_X3_advance_l0 F n0) S = some o → si_Ws E A s.heap S H locs → lv_has ls 2 [(0, .ref (E.2.1 1))] → W p l e rm_X3_advance s m args below meth c H locs 0 0 Q (F0 m 39 ls []) := by
        intro   S H locs ls hf hw hl
        unfold f_X3_advance_h39 at hf
        refine lv_aload_n X.1 X.2.1 dX3_advance_39 rfl (lv_at hl 0 rfl) ?_
        refine lv_dup X.1 X.2.1 dX3_advance_40 rfl ?_
        refine si_getI X hw si_cl3 6 (by decide) gf_RX3_33 rfl rfl rfl dX3_advance_41 ?_
        refine lv_iconst (v := 1) X.1 X.2.1 dX3_advance_44 (by decide) ?_
        refine lv_iadd X.1 X.2.1 dX3_advance_45 ?_
        obtain ⟨S10, eS10, hf⟩ := si_ob hf
        refine si_ptI X hw si_cl3 6 (by decide) gf_RX3_33 rfl rfl rfl rfl rfl eS10 dX3_advance_46 (fun H locs hw => ?_)
        refine lv_goto (tgt := 0) X.1 X.2.1 dX3_advance_49 (by decide) ?_
        exact ih0 _ _ _ _ hf hw (lv_sub hl [0] rfl)
      intro   S H locs ls hf hw hl
      have hf : f_X3_advance_h0 F (f_X3_advance_l0 F n0) S = some o := hf
      unfold f_X3_advance_h0 at hf
      refine lv_aload_n X.1 X.2.1 dX3_advance_0 rfl (lv_at hl 0 rfl) ?_
      refine si_getI X hw si_cl3 6 (by decide) gf_RX3_33 rfl rfl rfl dX3_advance_1 ?_
      refine lv_aload_n X.1 X.2.1 dX3_advance_4 rfl (lv_at hl 0 rfl) ?_
      refine si_getI X hw si_cl3 4 (by decide) gf_RX3_30 rfl rfl rfl dX3_advance_5 ?_
      refine lv_icmp_ge (tgt := 52) X.1 X.2.1 dX3_advance_8 (by decide) (fun c8 => ?_) (fun c8 => ?_)
      · have hf := si_ip c8 hf
        exact B52 _ _ _ _ hf hw (lv_sub hl [0] rfl)
      · have hf := si_in c8 hf
        refine lv_aload_n X.1 X.2.1 dX3_advance_11 rfl (lv_at hl 0 rfl) ?_
        refine si_getR (k' := 2) (d := 1) X hw si_cl3 0 (by decide) gf_RX3_9 rfl rfl rfl (by decide) rfl dX3_advance_12 ?_
        refine lv_aload_n X.1 X.2.1 dX3_advance_15 rfl (lv_at hl 0 rfl) ?_
        refine si_getI X hw si_cl3 6 (by decide) gf_RX3_33 rfl rfl rfl dX3_advance_16 ?_
        obtain ⟨v11, ev11, hf⟩ := si_ob hf
        refine si_bald X hw rfl ev11 dX3_advance_19 ?_
        refine lv_bipush (v := 32) X.1 X.2.1 dX3_advance_20 (by decide) ?_
        refine lv_icmp_eq (tgt := 39) X.1 X.2.1 dX3_advance_22 (by decide) (fun c22 => ?_) (fun c22 => ?_)
        · have hf := si_ip c22 hf
          exact B39 _ _ _ _ hf hw (lv_sub hl [0] rfl)
        · have hf := si_in c22 hf
          refine lv_aload_n X.1 X.2.1 dX3_advance_25 rfl (lv_at hl 0 rfl) ?_
          refine si_getR (k' := 2) (d := 1) X hw si_cl3 0 (by decide) gf_RX3_9 rfl rfl rfl (by decide) rfl dX3_advance_26 ?_
          refine lv_aload_n X.1 X.2.1 dX3_advance_29 rfl (lv_at hl 0 rfl) ?_
          refine si_getI X hw si_cl3 6 (by decide) gf_RX3_33 rfl rfl rfl dX3_advance_30 ?_
          obtain ⟨v12, ev12, hf⟩ := si_ob hf
          refine si_bald X hw rfl ev12 dX3_advance_33 ?_
          refine lv_bipush (v := 10) X.1 X.2.1 dX3_advance_34 (by decide) ?_
          refine lv_icmp_ne (tgt := 52) X.1 X.2.1 dX3_advance_36 (by decide) (fun c36 => ?_) (fun c36 => ?_)
          · have hf := si_in c36 hf
            exact B52 _ _ _ _ hf hw (lv_sub hl [0] rfl)
          · have hf := si_ip c36 hf
            exact B39 _ _ _ _ hf hw (lv_sub hl [0] rfl)
  unfold f_X3_advance at hf
  exact B0 F _ _ _ _ hf hw (lv_sub hl [0] rfl)
abbrev rm_X3_failAt : Room := { frames := 0, cells := 0, slots := 0, locals := 0 }
set_option maxHeartbeats 4000000 in
set_option maxRecDepth 100000 in
theorem c_X3_failAt (l : Launch) (E : si_Ev) (F : Nat) (x1 : Int32) (x2 : Int32) (S : si_St) (o : si_St) (hf : f_X3_failAt F x1 x2 S = some o) : si_Mv l E yX3_failAt cX3_failAt 3 rm_X3_failAt [.ref (E.2.1 1), .int x1, .int x2] S o := by
  refine si_ofWv (plainFor_of_name (by decide +kernel)) (Nat.le_of_ble_eq_true rfl) ?_
  intro p e s m args below meth c ls Q A X hw hA hl hret
  have hl : lv_has ls 3 [(0, .ref (E.2.1 1)), (1, .int x1), (2, .int x2)] := hl
  have B17 : ∀ (S : si_St) (H : Heap) (locs : List Loc) (ls : Array Slot), f_X3_failAt_h17 F S = some o → si_Ws E A s.heap S H locs → lv_has ls 3 [] → W p l e rm_X3_failAt s m args below meth c H locs 0 0 Q (F0 m 17 ls []) := by
    intro   S H locs ls hf hw hl
    unfold f_X3_failAt_h17 at hf
    exact hret _ _ _ _ _ hf hw dX3_failAt_17
  unfold f_X3_failAt at hf
  refine lv_aload_n X.1 X.2.1 dX3_failAt_0 rfl (lv_at hl 0 rfl) ?_
  refine si_getI X hw si_cl3 3 (by decide) gf_RX3_27 rfl rfl rfl dX3_failAt_1 ?_
  refine lv_if_ne (tgt := 17) X.1 X.2.1 dX3_failAt_4 (by decide) (fun c4 => ?_) (fun c4 => ?_)
  · have hf := si_in c4 hf
    exact B17 _ _ _ _ hf hw (lv_sub hl [] rfl)
  · have hf := si_ip c4 hf
    refine lv_aload_n X.1 X.2.1 dX3_failAt_7 rfl (lv_at hl 0 rfl) ?_
    refine lv_iload_n X.1 X.2.1 dX3_failAt_8 rfl (lv_at hl 1 rfl) ?_
    obtain ⟨S1, eS1, hf⟩ := si_ob hf
    refine si_ptI X hw si_cl3 3 (by decide) gf_RX3_27 rfl rfl rfl rfl rfl eS1 dX3_failAt_9 (fun H locs hw => ?_)
    refine lv_aload_n X.1 X.2.1 dX3_failAt_12 rfl (lv_at hl 0 rfl) ?_
    refine lv_iload_n X.1 X.2.1 dX3_failAt_13 rfl (lv_at hl 2 rfl) ?_
    obtain ⟨S2, eS2, hf⟩ := si_ob hf
    refine si_ptI X hw si_cl3 2 (by decide) gf_RX3_15 rfl rfl rfl rfl rfl eS2 dX3_failAt_14 (fun H locs hw => ?_)
    exact B17 _ _ _ _ hf hw (lv_sub hl [] rfl)
abbrev rm_X3_fail : Room := { frames := 1, cells := 0, slots := 0, locals := 22 }
set_option maxHeartbeats 4000000 in
set_option maxRecDepth 100000 in
theorem c_X3_fail (l : Launch) (E : si_Ev) (F : Nat) (x1 : Int32) (S : si_St) (o : si_St) (hf : f_X3_fail F x1 S = some o) : si_Mv l E yX3_fail cX3_fail 2 rm_X3_fail [.ref (E.2.1 1), .int x1] S o := by
  refine si_ofWv (plainFor_of_name (by decide +kernel)) (Nat.le_of_ble_eq_true rfl) ?_
  intro p e s m args below meth c ls Q A X hw hA hl hret
  have hl : lv_has ls 2 [(0, .ref (E.2.1 1)), (1, .int x1)] := hl
  unfold f_X3_fail at hf
  refine lv_aload_n X.1 X.2.1 dX3_fail_0 rfl (lv_at hl 0 rfl) ?_
  refine lv_iload_n X.1 X.2.1 dX3_fail_1 rfl (lv_at hl 1 rfl) ?_
  refine lv_aload_n X.1 X.2.1 dX3_fail_2 rfl (lv_at hl 0 rfl) ?_
  refine si_getI X hw si_cl3 5 (by decide) gf_RX3_133 rfl rfl rfl dX3_fail_3 ?_
  obtain ⟨S1, eS1, hf⟩ := si_ob hf
  refine si_cVv [.int x1, .int (S.1 1 5)] cal_X3_failAt gm_RX3_139 X hw hA hl.1 (c_X3_failAt l E F x1 (S.1 1 5) S S1 eS1) si_cl3 rfl ⟨⟨rfl, rfl⟩, Nat.le_of_ble_eq_true rfl, Nat.le_of_ble_eq_true rfl⟩ rfl rfl (Nat.le_of_ble_eq_true rfl) ⟨Nat.zero_le _, Nat.zero_le _⟩ dX3_fail_6 (fun H locs hw => ?_)
  exact hret _ _ _ _ _ hf hw dX3_fail_9
abbrev rm_X3_takeSemicolon : Room := { frames := 2, cells := 0, slots := 0, locals := 43 }
set_option maxHeartbeats 4000000 in
set_option maxRecDepth 100000 in
theorem c_X3_takeSemicolon (l : Launch) (E : si_Ev) (F : Nat) (S : si_St) (o : si_St) (hf : f_X3_takeSemicolon F S = some o) : si_Mv l E yX3_takeSemicolon cX3_takeSemicolon 1 rm_X3_takeSemicolon [.ref (E.2.1 1)] S o := by
  refine si_ofWv (plainFor_of_name (by decide +kernel)) (Nat.le_of_ble_eq_true rfl) ?_
  intro p e s m args below meth c ls Q A X hw hA hl hret
  have hl : lv_has ls 1 [(0, .ref (E.2.1 1))] := hl
  have B28 : ∀ (S : si_St) (H : Heap) (locs : List Loc) (ls : Array Slot), f_X3_takeSemicolon_h28 F S = some o → si_Ws E A s.heap S H locs → lv_has ls 1 [] → W p l e rm_X3_takeSemicolon s m args below meth c H locs 0 0 Q (F0 m 28 ls []) := by
    intro   S H locs ls hf hw hl
    unfold f_X3_takeSemicolon_h28 at hf
    exact hret _ _ _ _ _ hf hw dX3_takeSemicolon_28
  unfold f_X3_takeSemicolon at hf
  refine lv_aload_n X.1 X.2.1 dX3_takeSemicolon_0 rfl (lv_at hl 0 rfl) ?_
  refine si_getI X hw si_cl3 3 (by decide) gf_RX3_27 rfl rfl rfl dX3_takeSemicolon_1 ?_
  refine lv_if_eq (tgt := 8) X.1 X.2.1 dX3_takeSemicolon_4 (by decide) (fun c4 => ?_) (fun c4 => ?_)
  · have hf := si_ip c4 hf
    refine lv_aload_n X.1 X.2.1 dX3_takeSemicolon_8 rfl (lv_at hl 0 rfl) ?_
    refine si_getI X hw si_cl3 7 (by decide) gf_RX3_39 rfl rfl rfl dX3_takeSemicolon_9 ?_
    refine lv_iconst (v := 3) X.1 X.2.1 dX3_takeSemicolon_12 (by decide) ?_
    refine lv_icmp_ne (tgt := 23) X.1 X.2.1 dX3_takeSemicolon_13 (by decide) (fun c13 => ?_) (fun c13 => ?_)
    · have hf := si_in c13 hf
      refine lv_aload_n X.1 X.2.1 dX3_takeSemicolon_23 rfl (lv_at hl 0 rfl) ?_
      refine lv_iconst (v := 1) X.1 X.2.1 dX3_takeSemicolon_24 (by decide) ?_
      obtain ⟨S1, eS1, hf⟩ := si_ob hf
      refine si_cVv [.int 1] cal_X3_fail gm_RX3_79 X hw hA hl.1 (c_X3_fail l E F 1 S S1 eS1) si_cl3 rfl ⟨⟨rfl, rfl⟩, Nat.le_of_ble_eq_true rfl, Nat.le_of_ble_eq_true rfl⟩ rfl rfl (Nat.le_of_ble_eq_true rfl) ⟨Nat.zero_le _, Nat.zero_le _⟩ dX3_takeSemicolon_25 (fun H locs hw => ?_)
      exact B28 _ _ _ _ hf hw (lv_sub hl [] rfl)
    · have hf := si_ip c13 hf
      refine lv_aload_n X.1 X.2.1 dX3_takeSemicolon_16 rfl (lv_at hl 0 rfl) ?_
      obtain ⟨S2, eS2, hf⟩ := si_ob hf
      refine si_cVv [] cal_X3_advance gm_RX3_36 X hw hA hl.1 (c_X3_advance l E F S S2 eS2) si_cl3 rfl ⟨⟨rfl, rfl⟩, Nat.le_of_ble_eq_true rfl, Nat.le_of_ble_eq_true rfl⟩ rfl rfl (Nat.le_of_ble_eq_true rfl) ⟨Nat.zero_le _, Nat.zero_le _⟩ dX3_takeSemicolon_17 (fun H locs hw => ?_)
      refine lv_goto (tgt := 28) X.1 X.2.1 dX3_takeSemicolon_20 (by decide) ?_
      exact B28 _ _ _ _ hf hw (lv_sub hl [] rfl)
  · have hf := si_in c4 hf
    exact hret _ _ _ _ _ hf hw dX3_takeSemicolon_7
abbrev rm_X3_numberOfToken : Room := { frames := 0, cells := 0, slots := 0, locals := 0 }
set_option maxHeartbeats 4000000 in
set_option maxRecDepth 100000 in
theorem c_X3_numberOfToken (l : Launch) (E : si_Ev) (F : Nat) (S : si_St) (o : Int32 × si_St) (hf : f_X3_numberOfToken F S = some o) : si_Mi l E yX3_numberOfToken cX3_numberOfToken 3 (some .int) rm_X3_numberOfToken [.ref (E.2.1 1)] S o := by
  refine si_ofWi (plainFor_of_name (by decide +kernel)) (Nat.le_of_ble_eq_true rfl) ?_
  intro p e s m args below meth c ls Q A X hw hA hl hret
  have hl : lv_has ls 3 [(0, .ref (E.2.1 1))] := hl
  have B7 : ∀ (n7 : Nat) (x1 : Int32) (x2 : Int32) (S : si_St) (H : Heap) (locs : List Loc) (ls : Array Slot), f_X3_numberOfToken_l7 F n7 x1 x2 S = some o → si_Ws E A s.heap S H locs → lv_has ls 3 [(0, .ref (E.2.1 1)), (1, .int x1), (2, .int x2)] → W p l e rm_X3_numberOfToken s m args below meth c H locs 0 0 Q (F0 m 7 ls []) := by
    intro n7
    induction n7 with
    | zero => intro x1 x2  S H locs ls hf; cases hf
    | succ n7 ih7 =>
      intro x1 x2  S H locs ls hf hw hl
      have hf : f_X3_numberOfToken_h7 F (f_X3_numberOfToken_l7 F n7) x1 x2 S = some o := hf
      unfold f_X3_numberOfToken_h7 at hf
      refine lv_iload_n X.1 X.2.1 dX3_numberOfToken_7 rfl (lv_at hl 2 rfl) ?_
      refine lv_aload_n X.1 X.2.1 dX3_numberOfToken_8 rfl (lv_at hl 0 rfl) ?_
      refine si_getI X hw si_cl3 6 (by decide) gf_RX3_33 rfl rfl rfl dX3_numberOfToken_9 ?_
      refine lv_icmp_ge (tgt := 36) X.1 X.2.1 dX3_numberOfToken_12 (by decide) (fun c12 => ?_) (fun c12 => ?_)
      · have hf := si_ip c12 hf
        refine lv_iload_n X.1 X.2.1 dX3_numberOfToken_36 rfl (lv_at hl 1 rfl) ?_
        exact hret _ _ _ _ _ _ hf hw dX3_numberOfToken_37
      · have hf := si_in c12 hf
        refine lv_iload_n X.1 X.2.1 dX3_numberOfToken_15 rfl (lv_at hl 1 rfl) ?_
        refine lv_bipush (v := 10) X.1 X.2.1 dX3_numberOfToken_16 (by decide) ?_
        refine lv_imul X.1 X.2.1 dX3_numberOfToken_18 ?_
        refine lv_aload_n X.1 X.2.1 dX3_numberOfToken_19 rfl (lv_at hl 0 rfl) ?_
        refine si_getR (k' := 2) (d := 1) X hw si_cl3 0 (by decide) gf_RX3_9 rfl rfl rfl (by decide) rfl dX3_numberOfToken_20 ?_
        refine lv_iload_n X.1 X.2.1 dX3_numberOfToken_23 rfl (lv_at hl 2 rfl) ?_
        obtain ⟨v1, ev1, hf⟩ := si_ob hf
        refine si_bald X hw rfl ev1 dX3_numberOfToken_24 ?_
        refine lv_bipush (v := 48) X.1 X.2.1 dX3_numberOfToken_25 (by decide) ?_
        refine lv_isub X.1 X.2.1 dX3_numberOfToken_27 ?_
        refine lv_iadd X.1 X.2.1 dX3_numberOfToken_28 ?_
        obtain ⟨v2, ev2, hf⟩ := si_ob hf
        refine si_nmI ev2 ?_
        refine lv_istore_n (lv' := [(1, .int v2), (0, .ref (E.2.1 1)), (2, .int x2)]) X.1 X.2.1 dX3_numberOfToken_29 rfl hl (by decide) rfl (fun ls hl => ?_)
        obtain ⟨v3, ev3, hf⟩ := si_ob hf
        refine lv_iinc (v := v3) (lv' := [(2, .int v3), (1, .int v2), (0, .ref (E.2.1 1))]) X.1 X.2.1 dX3_numberOfToken_30 hl (k := 2) rfl (Option.some.inj ev3) (by decide) rfl (fun ls hl => ?_)
        refine lv_goto (tgt := 7) X.1 X.2.1 dX3_numberOfToken_33 (by decide) ?_
        exact ih7 _ _ _ _ _ _ hf hw (lv_sub hl [2, 1, 0] rfl)
  unfold f_X3_numberOfToken at hf
  refine lv_iconst (v := 0) X.1 X.2.1 dX3_numberOfToken_0 (by decide) ?_
  refine lv_istore_n (lv' := [(1, .int 0), (0, .ref (E.2.1 1))]) X.1 X.2.1 dX3_numberOfToken_1 rfl hl (by decide) rfl (fun ls hl => ?_)
  refine lv_aload_n X.1 X.2.1 dX3_numberOfToken_2 rfl (lv_at hl 1 rfl) ?_
  refine si_getI X hw si_cl3 5 (by decide) gf_RX3_133 rfl rfl rfl dX3_numberOfToken_3 ?_
  obtain ⟨v4, ev4, hf⟩ := si_ob hf
  refine si_nmI ev4 ?_
  refine lv_istore_n (lv' := [(2, .int v4), (1, .int 0), (0, .ref (E.2.1 1))]) X.1 X.2.1 dX3_numberOfToken_6 rfl hl (by decide) rfl (fun ls hl => ?_)
  exact B7 F _ _ _ _ _ _ hf hw (lv_sub hl [2, 1, 0] rfl)
abbrev rm_X3_takeNumber : Room := { frames := 2, cells := 0, slots := 0, locals := 43 }
set_option maxHeartbeats 4000000 in
set_option maxRecDepth 100000 in
theorem c_X3_takeNumber (l : Launch) (E : si_Ev) (F : Nat) (x1 : Int32) (x2 : Int32) (S : si_St) (o : Int32 × si_St) (hf : f_X3_takeNumber F x1 x2 S = some o) : si_Mi l E yX3_takeNumber cX3_takeNumber 4 (some .int) rm_X3_takeNumber [.ref (E.2.1 1), .int x1, .int x2] S o := by
  refine si_ofWi (plainFor_of_name (by decide +kernel)) (Nat.le_of_ble_eq_true rfl) ?_
  intro p e s m args below meth c ls Q A X hw hA hl hret
  have hl : lv_has ls 4 [(0, .ref (E.2.1 1)), (1, .int x1), (2, .int x2)] := hl
  have B39 : ∀ (S : si_St) (H : Heap) (locs : List Loc) (ls : Array Slot), f_X3_takeNumber_h39 F S = some o → si_Ws E A s.heap S H locs → lv_has ls 4 [(0, .ref (E.2.1 1))] → W p l e rm_X3_takeNumber s m args below meth c H locs 0 0 Q (F0 m 39 ls []) := by
    intro   S H locs ls hf hw hl
    unfold f_X3_takeNumber_h39 at hf
    refine lv_aload_n X.1 X.2.1 dX3_takeNumber_39 rfl (lv_at hl 0 rfl) ?_
    refine lv_iconst (v := 3) X.1 X.2.1 dX3_takeNumber_40 (by decide) ?_
    obtain ⟨S1, eS1, hf⟩ := si_ob hf
    refine si_cVv [.int 3] cal_X3_fail gm_RX3_79 X hw hA hl.1 (c_X3_fail l E F 3 S S1 eS1) si_cl3 rfl ⟨⟨rfl, rfl⟩, Nat.le_of_ble_eq_true rfl, Nat.le_of_ble_eq_true rfl⟩ rfl rfl (Nat.le_of_ble_eq_true rfl) ⟨Nat.zero_le _, Nat.zero_le _⟩ dX3_takeNumber_41 (fun H locs hw => ?_)
    refine lv_iconst (v := 0) X.1 X.2.1 dX3_takeNumber_44 (by decide) ?_
    exact hret _ _ _ _ _ _ hf hw dX3_takeNumber_45
  unfold f_X3_takeNumber at hf
  refine lv_aload_n X.1 X.2.1 dX3_takeNumber_0 rfl (lv_at hl 0 rfl) ?_
  refine si_getI X hw si_cl3 3 (by decide) gf_RX3_27 rfl rfl rfl dX3_takeNumber_1 ?_
  refine lv_if_eq (tgt := 9) X.1 X.2.1 dX3_takeNumber_4 (by decide) (fun c4 => ?_) (fun c4 => ?_)
  · have hf := si_ip c4 hf
    refine lv_aload_n X.1 X.2.1 dX3_takeNumber_9 rfl (lv_at hl 0 rfl) ?_
    refine si_getI X hw si_cl3 7 (by decide) gf_RX3_39 rfl rfl rfl dX3_takeNumber_10 ?_
    refine lv_iconst (v := 2) X.1 X.2.1 dX3_takeNumber_13 (by decide) ?_
    refine lv_icmp_eq (tgt := 24) X.1 X.2.1 dX3_takeNumber_14 (by decide) (fun c14 => ?_) (fun c14 => ?_)
    · have hf := si_ip c14 hf
      refine lv_aload_n X.1 X.2.1 dX3_takeNumber_24 rfl (lv_at hl 0 rfl) ?_
      obtain ⟨q2, eq2, hf⟩ := si_ob hf
      refine si_cVi [] cal_X3_numberOfToken gm_RX3_142 X hw hA hl.1 (c_X3_numberOfToken l E F S q2 eq2) si_cl3 rfl ⟨⟨rfl, rfl⟩, Nat.le_of_ble_eq_true rfl, Nat.le_of_ble_eq_true rfl⟩ rfl rfl (Nat.le_of_ble_eq_true rfl) ⟨Nat.zero_le _, Nat.zero_le _⟩ dX3_takeNumber_25 (fun H locs hw => ?_)
      refine lv_istore_n (lv' := [(3, .int q2.1), (0, .ref (E.2.1 1)), (1, .int x1), (2, .int x2)]) X.1 X.2.1 dX3_takeNumber_28 rfl hl (by decide) rfl (fun ls hl => ?_)
      refine lv_iload_n X.1 X.2.1 dX3_takeNumber_29 rfl (lv_at hl 0 rfl) ?_
      refine lv_iload_n X.1 X.2.1 dX3_takeNumber_30 rfl (lv_at hl 2 rfl) ?_
      refine lv_icmp_lt (tgt := 39) X.1 X.2.1 dX3_takeNumber_31 (by decide) (fun c31 => ?_) (fun c31 => ?_)
      · have hf := si_ip c31 hf
        exact B39 _ _ _ _ hf hw (lv_sub hl [1] rfl)
      · have hf := si_in c31 hf
        refine lv_iload_n X.1 X.2.1 dX3_takeNumber_34 rfl (lv_at hl 0 rfl) ?_
        refine lv_iload_n X.1 X.2.1 dX3_takeNumber_35 rfl (lv_at hl 3 rfl) ?_
        refine lv_icmp_le (tgt := 46) X.1 X.2.1 dX3_takeNumber_36 (by decide) (fun c36 => ?_) (fun c36 => ?_)
        · have hf := si_ip c36 hf
          refine lv_aload_n X.1 X.2.1 dX3_takeNumber_46 rfl (lv_at hl 1 rfl) ?_
          obtain ⟨S3, eS3, hf⟩ := si_ob hf
          refine si_cVv [] cal_X3_advance gm_RX3_36 X hw hA hl.1 (c_X3_advance l E F q2.2 S3 eS3) si_cl3 rfl ⟨⟨rfl, rfl⟩, Nat.le_of_ble_eq_true rfl, Nat.le_of_ble_eq_true rfl⟩ rfl rfl (Nat.le_of_ble_eq_true rfl) ⟨Nat.zero_le _, Nat.zero_le _⟩ dX3_takeNumber_47 (fun H locs hw => ?_)
          refine lv_iload_n X.1 X.2.1 dX3_takeNumber_50 rfl (lv_at hl 0 rfl) ?_
          exact hret _ _ _ _ _ _ hf hw dX3_takeNumber_51
        · have hf := si_in c36 hf
          exact B39 _ _ _ _ hf hw (lv_sub hl [1] rfl)
    · have hf := si_in c14 hf
      refine lv_aload_n X.1 X.2.1 dX3_takeNumber_17 rfl (lv_at hl 0 rfl) ?_
      refine lv_iconst (v := 1) X.1 X.2.1 dX3_takeNumber_18 (by decide) ?_
      obtain ⟨S4, eS4, hf⟩ := si_ob hf
      refine si_cVv [.int 1] cal_X3_fail gm_RX3_79 X hw hA hl.1 (c_X3_fail l E F 1 S S4 eS4) si_cl3 rfl ⟨⟨rfl, rfl⟩, Nat.le_of_ble_eq_true rfl, Nat.le_of_ble_eq_true rfl⟩ rfl rfl (Nat.le_of_ble_eq_true rfl) ⟨Nat.zero_le _, Nat.zero_le _⟩ dX3_takeNumber_19 (fun H locs hw => ?_)
      refine lv_iconst (v := 0) X.1 X.2.1 dX3_takeNumber_22 (by decide) ?_
      exact hret _ _ _ _ _ _ hf hw dX3_takeNumber_23
  · have hf := si_in c4 hf
    refine lv_iconst (v := 0) X.1 X.2.1 dX3_takeNumber_7 (by decide) ?_
    exact hret _ _ _ _ _ _ hf hw dX3_takeNumber_8
abbrev rm_X3_takeKeyword : Room := { frames := 2, cells := 0, slots := 0, locals := 43 }
set_option maxHeartbeats 4000000 in
set_option maxRecDepth 100000 in
theorem c_X3_takeKeyword (l : Launch) (E : si_Ev) (F : Nat) (x1 : Int32) (x2 : Int32) (S : si_St) (o : si_St) (hf : f_X3_takeKeyword F x1 x2 S = some o) : si_Mv l E yX3_takeKeyword cX3_takeKeyword 3 rm_X3_takeKeyword [.ref (E.2.1 1), .int x1, .int x2] S o := by
  refine si_ofWv (plainFor_of_name (by decide +kernel)) (Nat.le_of_ble_eq_true rfl) ?_
  intro p e s m args below meth c ls Q A X hw hA hl hret
  have hl : lv_has ls 3 [(0, .ref (E.2.1 1)), (1, .int x1), (2, .int x2)] := hl
  have B17 : ∀ (S : si_St) (H : Heap) (locs : List Loc) (ls : Array Slot), f_X3_takeKeyword_h17 F S = some o → si_Ws E A s.heap S H locs → lv_has ls 3 [] → W p l e rm_X3_takeKeyword s m args below meth c H locs 0 0 Q (F0 m 17 ls []) := by
    intro   S H locs ls hf hw hl
    unfold f_X3_takeKeyword_h17 at hf
    exact hret _ _ _ _ _ hf hw dX3_takeKeyword_17
  unfold f_X3_takeKeyword at hf
  refine lv_iload_n X.1 X.2.1 dX3_takeKeyword_0 rfl (lv_at hl 1 rfl) ?_
  refine lv_iload_n X.1 X.2.1 dX3_takeKeyword_1 rfl (lv_at hl 2 rfl) ?_
  refine lv_icmp_lt (tgt := 13) X.1 X.2.1 dX3_takeKeyword_2 (by decide) (fun c2 => ?_) (fun c2 => ?_)
  · have hf := si_ip c2 hf
    refine lv_aload_n X.1 X.2.1 dX3_takeKeyword_13 rfl (lv_at hl 0 rfl) ?_
    obtain ⟨S1, eS1, hf⟩ := si_ob hf
    refine si_cVv [] cal_X3_advance gm_RX3_36 X hw hA hl.1 (c_X3_advance l E F S S1 eS1) si_cl3 rfl ⟨⟨rfl, rfl⟩, Nat.le_of_ble_eq_true rfl, Nat.le_of_ble_eq_true rfl⟩ rfl rfl (Nat.le_of_ble_eq_true rfl) ⟨Nat.zero_le _, Nat.zero_le _⟩ dX3_takeKeyword_14 (fun H locs hw => ?_)
    exact B17 _ _ _ _ hf hw (lv_sub hl [] rfl)
  · have hf := si_in c2 hf
    refine lv_aload_n X.1 X.2.1 dX3_takeKeyword_5 rfl (lv_at hl 0 rfl) ?_
    refine lv_iconst (v := 4) X.1 X.2.1 dX3_takeKeyword_6 (by decide) ?_
    obtain ⟨S2, eS2, hf⟩ := si_ob hf
    refine si_cVv [.int 4] cal_X3_fail gm_RX3_79 X hw hA hl.1 (c_X3_fail l E F 4 S S2 eS2) si_cl3 rfl ⟨⟨rfl, rfl⟩, Nat.le_of_ble_eq_true rfl, Nat.le_of_ble_eq_true rfl⟩ rfl rfl (Nat.le_of_ble_eq_true rfl) ⟨Nat.zero_le _, Nat.zero_le _⟩ dX3_takeKeyword_7 (fun H locs hw => ?_)
    refine lv_goto (tgt := 17) X.1 X.2.1 dX3_takeKeyword_10 (by decide) ?_
    exact B17 _ _ _ _ hf hw (lv_sub hl [] rfl)
abbrev rm_X3_readTerm : Room := { frames := 3, cells := 0, slots := 0, locals := 66 }
set_option maxHeartbeats 4000000 in
set_option maxRecDepth 100000 in
theorem c_X3_readTerm (l : Launch) (E : si_Ev) (F : Nat) (k1 : Nat) (hk1 : si_kd k1 = 2) (S : si_St) (o : si_St) (hf : f_X3_readTerm F k1 S = some o) : si_Mv l E yX3_readTerm cX3_readTerm 5 rm_X3_readTerm [.ref (E.2.1 1), .ref (E.2.1 k1)] S o := by
  refine si_ofWv (plainFor_of_name (by decide +kernel)) (Nat.le_of_ble_eq_true rfl) ?_
  intro p e s m args below meth c ls Q A X hw hA hl hret
  have hl : lv_has ls 5 [(0, .ref (E.2.1 1)), (1, .ref (E.2.1 k1))] := hl
  have B61 : ∀ (S : si_St) (H : Heap) (locs : List Loc) (ls : Array Slot), f_X3_readTerm_h61 F k1 S = some o → si_Ws E A s.heap S H locs → lv_has ls 5 [] → W p l e rm_X3_readTerm s m args below meth c H locs 0 0 Q (F0 m 61 ls []) := by
    intro   S H locs ls hf hw hl
    unfold f_X3_readTerm_h61 at hf
    exact hret _ _ _ _ _ hf hw dX3_readTerm_61
  have B38 : ∀ (x3 : Int32) (S : si_St) (H : Heap) (locs : List Loc) (ls : Array Slot), f_X3_readTerm_h38 F k1 x3 S = some o → si_Ws E A s.heap S H locs → lv_has ls 5 [(0, .ref (E.2.1 1)), (1, .ref (E.2.1 k1)), (3, .int x3)] → W p l e rm_X3_readTerm s m args below meth c H locs 0 0 Q (F0 m 38 ls []) := by
    intro x3  S H locs ls hf hw hl
    unfold f_X3_readTerm_h38 at hf
    refine lv_aload_n X.1 X.2.1 dX3_readTerm_38 rfl (lv_at hl 0 rfl) ?_
    refine lv_iconst (v := 1) X.1 X.2.1 dX3_readTerm_39 (by decide) ?_
    refine lv_iconst (v := 5) X.1 X.2.1 dX3_readTerm_40 (by decide) ?_
    obtain ⟨q1, eq1, hf⟩ := si_ob hf
    refine si_cVi [.int 1, .int 5] cal_X3_takeNumber gm_RX3_89 X hw hA hl.1 (c_X3_takeNumber l E F 1 5 S q1 eq1) si_cl3 rfl ⟨⟨rfl, rfl⟩, Nat.le_of_ble_eq_true rfl, Nat.le_of_ble_eq_true rfl⟩ rfl rfl (Nat.le_of_ble_eq_true rfl) ⟨Nat.zero_le _, Nat.zero_le _⟩ dX3_readTerm_41 (fun H locs hw => ?_)
    refine lv_istore (lv' := [(4, .int q1.1), (0, .ref (E.2.1 1)), (1, .ref (E.2.1 k1)), (3, .int x3)]) X.1 X.2.1 dX3_readTerm_44 hl (by decide) rfl (fun ls hl => ?_)
    refine lv_aload_n X.1 X.2.1 dX3_readTerm_46 rfl (lv_at hl 1 rfl) ?_
    refine si_getI X hw si_cl3 3 (by decide) gf_RX3_27 rfl rfl rfl dX3_readTerm_47 ?_
    refine lv_if_ne (tgt := 61) X.1 X.2.1 dX3_readTerm_50 (by decide) (fun c50 => ?_) (fun c50 => ?_)
    · have hf := si_in c50 hf
      exact B61 _ _ _ _ hf hw (lv_sub hl [] rfl)
    · have hf := si_ip c50 hf
      refine lv_aload_n X.1 X.2.1 dX3_readTerm_53 rfl (lv_at hl 2 rfl) ?_
      refine si_getR (k' := (k1 + 8)) (d := 8) X hw si_cl2 11 (by decide) gf_RX3_136 rfl hk1 rfl (by decide) rfl dX3_readTerm_54 ?_
      refine lv_iload_n X.1 X.2.1 dX3_readTerm_57 rfl (lv_at hl 3 rfl) ?_
      refine lv_iload X.1 X.2.1 dX3_readTerm_58 (lv_at hl 0 rfl) ?_
      obtain ⟨S2, eS2, hf⟩ := si_ob hf
      refine si_iast X hw (sk_2_8 hk1) eS2 dX3_readTerm_60 (fun H locs hw => ?_)
      exact B61 _ _ _ _ hf hw (lv_sub hl [] rfl)
  unfold f_X3_readTerm at hf
  refine lv_aload_n X.1 X.2.1 dX3_readTerm_0 rfl (lv_at hl 0 rfl) ?_
  obtain ⟨S3, eS3, hf⟩ := si_ob hf
  refine si_cVv [] cal_X3_advance gm_RX3_36 X hw hA hl.1 (c_X3_advance l E F S S3 eS3) si_cl3 rfl ⟨⟨rfl, rfl⟩, Nat.le_of_ble_eq_true rfl, Nat.le_of_ble_eq_true rfl⟩ rfl rfl (Nat.le_of_ble_eq_true rfl) ⟨Nat.zero_le _, Nat.zero_le _⟩ dX3_readTerm_1 (fun H locs hw => ?_)
  refine lv_aload_n X.1 X.2.1 dX3_readTerm_4 rfl (lv_at hl 0 rfl) ?_
  refine si_getI X hw si_cl3 5 (by decide) gf_RX3_133 rfl rfl rfl dX3_readTerm_5 ?_
  obtain ⟨v4, ev4, hf⟩ := si_ob hf
  refine si_nmI ev4 ?_
  refine lv_istore_n (lv' := [(2, .int v4), (0, .ref (E.2.1 1)), (1, .ref (E.2.1 k1))]) X.1 X.2.1 dX3_readTerm_8 rfl hl (by decide) rfl (fun ls hl => ?_)
  refine lv_aload_n X.1 X.2.1 dX3_readTerm_9 rfl (lv_at hl 1 rfl) ?_
  refine lv_iconst (v := 0) X.1 X.2.1 dX3_readTerm_10 (by decide) ?_
  refine lv_iconst (v := 2) X.1 X.2.1 dX3_readTerm_11 (by decide) ?_
  obtain ⟨q5, eq5, hf⟩ := si_ob hf
  refine si_cVi [.int 0, .int 2] cal_X3_takeNumber gm_RX3_89 X hw hA hl.1 (c_X3_takeNumber l E F 0 2 S3 q5 eq5) si_cl3 rfl ⟨⟨rfl, rfl⟩, Nat.le_of_ble_eq_true rfl, Nat.le_of_ble_eq_true rfl⟩ rfl rfl (Nat.le_of_ble_eq_true rfl) ⟨Nat.zero_le _, Nat.zero_le _⟩ dX3_readTerm_12 (fun H locs hw => ?_)
  refine lv_istore_n (lv' := [(3, .int q5.1), (2, .int v4), (0, .ref (E.2.1 1)), (1, .ref (E.2.1 k1))]) X.1 X.2.1 dX3_readTerm_15 rfl hl (by decide) rfl (fun ls hl => ?_)
  refine lv_aload_n X.1 X.2.1 dX3_readTerm_16 rfl (lv_at hl 2 rfl) ?_
  refine si_getI X hw si_cl3 3 (by decide) gf_RX3_27 rfl rfl rfl dX3_readTerm_17 ?_
  refine lv_if_ne (tgt := 38) X.1 X.2.1 dX3_readTerm_20 (by decide) (fun c20 => ?_) (fun c20 => ?_)
  · have hf := si_in c20 hf
    exact B38 _ _ _ _ _ hf hw (lv_sub hl [2, 3, 0] rfl)
  · have hf := si_ip c20 hf
    refine lv_aload_n X.1 X.2.1 dX3_readTerm_23 rfl (lv_at hl 3 rfl) ?_
    refine si_getR (k' := (k1 + 8)) (d := 8) X hw si_cl2 11 (by decide) gf_RX3_136 rfl hk1 rfl (by decide) rfl dX3_readTerm_24 ?_
    refine lv_iload_n X.1 X.2.1 dX3_readTerm_27 rfl (lv_at hl 0 rfl) ?_
    obtain ⟨v6, ev6, hf⟩ := si_ob hf
    refine si_iald X hw (sk_2_8 hk1) ev6 dX3_readTerm_28 ?_
    refine lv_if_eq (tgt := 38) X.1 X.2.1 dX3_readTerm_29 (by decide) (fun c29 => ?_) (fun c29 => ?_)
    · have hf := si_ip c29 hf
      exact B38 _ _ _ _ _ hf hw (lv_sub hl [2, 3, 0] rfl)
    · have hf := si_in c29 hf
      refine lv_aload_n X.1 X.2.1 dX3_readTerm_32 rfl (lv_at hl 2 rfl) ?_
      refine lv_iconst (v := 2) X.1 X.2.1 dX3_readTerm_33 (by decide) ?_
      refine lv_iload_n X.1 X.2.1 dX3_readTerm_34 rfl (lv_at hl 1 rfl) ?_
      obtain ⟨S7, eS7, hf⟩ := si_ob hf
      refine si_cVv [.int 2, .int v4] cal_X3_failAt gm_RX3_139 X hw hA hl.1 (c_X3_failAt l E F 2 v4 q5.2 S7 eS7) si_cl3 rfl ⟨⟨rfl, rfl⟩, Nat.le_of_ble_eq_true rfl, Nat.le_of_ble_eq_true rfl⟩ rfl rfl (Nat.le_of_ble_eq_true rfl) ⟨Nat.zero_le _, Nat.zero_le _⟩ dX3_readTerm_35 (fun H locs hw => ?_)
      exact B38 _ _ _ _ _ hf hw (lv_sub hl [2, 3, 0] rfl)
abbrev rm_X3_readSet : Room := { frames := 5, cells := 0, slots := 0, locals := 107 }
set_option maxHeartbeats 4000000 in
set_option maxRecDepth 100000 in
theorem c_X3_readSet (l : Launch) (E : si_Ev) (F : Nat) (k1 : Nat) (hk1 : si_kd k1 = 2) (S : si_St) (o : si_St) (hf : f_X3_readSet F k1 S = some o) : si_Mv l E yX3_readSet cX3_readSet 4 rm_X3_readSet [.ref (E.2.1 1), .ref (E.2.1 k1)] S o := by
  refine si_ofWv (plainFor_of_name (by decide +kernel)) (Nat.le_of_ble_eq_true rfl) ?_
  intro p e s m args below meth c ls Q A X hw hA hl hret
  have hl : lv_has ls 4 [(0, .ref (E.2.1 1)), (1, .ref (E.2.1 k1))] := hl
  have B92 : ∀ (S : si_St) (H : Heap) (locs : List Loc) (ls : Array Slot), f_X3_readSet_h92 F k1 S = some o → si_Ws E A s.heap S H locs → lv_has ls 4 [] → W p l e rm_X3_readSet s m args below meth c H locs 0 0 Q (F0 m 92 ls []) := by
    intro   S H locs ls hf hw hl
    unfold f_X3_readSet_h92 at hf
    exact hret _ _ _ _ _ hf hw dX3_readSet_92
  have B81 : ∀ (t0 : Int32) (t1 : Int32) (S : si_St) (H : Heap) (locs : List Loc) (ls : Array Slot), f_X3_readSet_h81 F k1 t0 t1 S = some o → si_Ws E A s.heap S H locs → lv_has ls 4 [(1, .ref (E.2.1 k1))] → W p l e rm_X3_readSet s m args below meth c H locs 0 0 Q (F0 m 81 ls [.int t0, .int t1, .ref (E.2.1 (k1 + 7))]) := by
    intro t0 t1  S H locs ls hf hw hl
    unfold f_X3_readSet_h81 at hf
    obtain ⟨S1, eS1, hf⟩ := si_ob hf
    refine si_iast X hw (sk_2_7 hk1) eS1 dX3_readSet_81 (fun H locs hw => ?_)
    refine lv_aload_n X.1 X.2.1 dX3_readSet_82 rfl (lv_at hl 0 rfl) ?_
    refine lv_dup X.1 X.2.1 dX3_readSet_83 rfl ?_
    refine si_getI X hw si_cl2 3 (by decide) gf_RX3_122 rfl hk1 rfl dX3_readSet_84 ?_
    refine lv_iconst (v := 1) X.1 X.2.1 dX3_readSet_87 (by decide) ?_
    refine lv_iadd X.1 X.2.1 dX3_readSet_88 ?_
    obtain ⟨S2, eS2, hf⟩ := si_ob hf
    refine si_ptI X hw si_cl2 3 (by decide) gf_RX3_122 rfl rfl hk1 rfl rfl eS2 dX3_readSet_89 (fun H locs hw => ?_)
    exact B92 _ _ _ _ hf hw (lv_sub hl [] rfl)
  have B47 : ∀ (x2 : Int32) (x3 : Int32) (S : si_St) (H : Heap) (locs : List Loc) (ls : Array Slot), f_X3_readSet_h47 F k1 x2 x3 S = some o → si_Ws E A s.heap S H locs → lv_has ls 4 [(0, .ref (E.2.1 1)), (1, .ref (E.2.1 k1)), (2, .int x2), (3, .int x3)] → W p l e rm_X3_readSet s m args below meth c H locs 0 0 Q (F0 m 47 ls []) := by
    intro x2 x3  S H locs ls hf hw hl
    unfold f_X3_readSet_h47 at hf
    refine lv_aload_n X.1 X.2.1 dX3_readSet_47 rfl (lv_at hl 0 rfl) ?_
    refine si_getI X hw si_cl3 3 (by decide) gf_RX3_27 rfl rfl rfl dX3_readSet_48 ?_
    refine lv_if_ne (tgt := 92) X.1 X.2.1 dX3_readSet_51 (by decide) (fun c51 => ?_) (fun c51 => ?_)
    · have hf := si_in c51 hf
      exact B92 _ _ _ _ hf hw (lv_sub hl [] rfl)
    · have hf := si_ip c51 hf
      refine lv_aload_n X.1 X.2.1 dX3_readSet_54 rfl (lv_at hl 1 rfl) ?_
      refine si_getR (k' := (k1 + 6)) (d := 6) X hw si_cl2 9 (by decide) gf_RX3_127 rfl hk1 rfl (by decide) rfl dX3_readSet_55 ?_
      refine lv_aload_n X.1 X.2.1 dX3_readSet_58 rfl (lv_at hl 1 rfl) ?_
      refine si_getI X hw si_cl2 3 (by decide) gf_RX3_122 rfl hk1 rfl dX3_readSet_59 ?_
      refine lv_iload_n X.1 X.2.1 dX3_readSet_62 rfl (lv_at hl 2 rfl) ?_
      obtain ⟨S3, eS3, hf⟩ := si_ob hf
      refine si_iast X hw (sk_2_6 hk1) eS3 dX3_readSet_63 (fun H locs hw => ?_)
      refine lv_aload_n X.1 X.2.1 dX3_readSet_64 rfl (lv_at hl 1 rfl) ?_
      refine si_getR (k' := (k1 + 7)) (d := 7) X hw si_cl2 10 (by decide) gf_RX3_130 rfl hk1 rfl (by decide) rfl dX3_readSet_65 ?_
      refine lv_aload_n X.1 X.2.1 dX3_readSet_68 rfl (lv_at hl 1 rfl) ?_
      refine si_getI X hw si_cl2 3 (by decide) gf_RX3_122 rfl hk1 rfl dX3_readSet_69 ?_
      refine lv_iload_n X.1 X.2.1 dX3_readSet_72 rfl (lv_at hl 3 rfl) ?_
      refine lv_if_eq (tgt := 80) X.1 X.2.1 dX3_readSet_73 (by decide) (fun c73 => ?_) (fun c73 => ?_)
      · have hf := si_ip c73 hf
        refine lv_iconst (v := 0) X.1 X.2.1 dX3_readSet_80 (by decide) ?_
        exact B81 _ _ _ _ _ _ hf hw (lv_sub hl [1] rfl)
      · have hf := si_in c73 hf
        refine lv_iconst (v := 1) X.1 X.2.1 dX3_readSet_76 (by decide) ?_
        refine lv_goto (tgt := 81) X.1 X.2.1 dX3_readSet_77 (by decide) ?_
        exact B81 _ _ _ _ _ _ hf hw (lv_sub hl [1] rfl)
  have B38 : ∀ (x2 : Int32) (t0 : Int32) (S : si_St) (H : Heap) (locs : List Loc) (ls : Array Slot), f_X3_readSet_h38 F k1 x2 t0 S = some o → si_Ws E A s.heap S H locs → lv_has ls 4 [(0, .ref (E.2.1 1)), (1, .ref (E.2.1 k1)), (2, .int x2)] → W p l e rm_X3_readSet s m args below meth c H locs 0 0 Q (F0 m 38 ls [.int t0]) := by
    intro x2 t0  S H locs ls hf hw hl
    unfold f_X3_readSet_h38 at hf
    refine lv_istore_n (lv' := [(3, .int t0), (0, .ref (E.2.1 1)), (1, .ref (E.2.1 k1)), (2, .int x2)]) X.1 X.2.1 dX3_readSet_38 rfl hl (by decide) rfl (fun ls hl => ?_)
    refine lv_iload_n X.1 X.2.1 dX3_readSet_39 rfl (lv_at hl 0 rfl) ?_
    refine lv_if_eq (tgt := 47) X.1 X.2.1 dX3_readSet_40 (by decide) (fun c40 => ?_) (fun c40 => ?_)
    · have hf := si_ip c40 hf
      exact B47 _ _ _ _ _ _ hf hw (lv_sub hl [1, 2, 3, 0] rfl)
    · have hf := si_in c40 hf
      refine lv_aload_n X.1 X.2.1 dX3_readSet_43 rfl (lv_at hl 1 rfl) ?_
      obtain ⟨S4, eS4, hf⟩ := si_ob hf
      refine si_cVv [] cal_X3_advance gm_RX3_36 X hw hA hl.1 (c_X3_advance l E F S S4 eS4) si_cl3 rfl ⟨⟨rfl, rfl⟩, Nat.le_of_ble_eq_true rfl, Nat.le_of_ble_eq_true rfl⟩ rfl rfl (Nat.le_of_ble_eq_true rfl) ⟨Nat.zero_le _, Nat.zero_le _⟩ dX3_readSet_44 (fun H locs hw => ?_)
      exact B47 _ _ _ _ _ _ hf hw (lv_sub hl [1, 2, 3, 0] rfl)
  have B37 : ∀ (x2 : Int32) (S : si_St) (H : Heap) (locs : List Loc) (ls : Array Slot), f_X3_readSet_h37 F k1 x2 S = some o → si_Ws E A s.heap S H locs → lv_has ls 4 [(0, .ref (E.2.1 1)), (1, .ref (E.2.1 k1)), (2, .int x2)] → W p l e rm_X3_readSet s m args below meth c H locs 0 0 Q (F0 m 37 ls []) := by
    intro x2  S H locs ls hf hw hl
    unfold f_X3_readSet_h37 at hf
    refine lv_iconst (v := 0) X.1 X.2.1 dX3_readSet_37 (by decide) ?_
    exact B38 _ _ _ _ _ _ hf hw (lv_sub hl [0, 1, 2] rfl)
  unfold f_X3_readSet at hf
  refine lv_aload_n X.1 X.2.1 dX3_readSet_0 rfl (lv_at hl 0 rfl) ?_
  refine lv_aload_n X.1 X.2.1 dX3_readSet_1 rfl (lv_at hl 1 rfl) ?_
  refine si_getI X hw si_cl2 3 (by decide) gf_RX3_122 rfl hk1 rfl dX3_readSet_2 ?_
  refine lv_iconst (v := 4) X.1 X.2.1 dX3_readSet_5 (by decide) ?_
  obtain ⟨S5, eS5, hf⟩ := si_ob hf
  refine si_cVv [.int (S.1 k1 3), .int 4] cal_X3_takeKeyword gm_RX3_55 X hw hA hl.1 (c_X3_takeKeyword l E F (S.1 k1 3) 4 S S5 eS5) si_cl3 rfl ⟨⟨rfl, rfl⟩, Nat.le_of_ble_eq_true rfl, Nat.le_of_ble_eq_true rfl⟩ rfl rfl (Nat.le_of_ble_eq_true rfl) ⟨Nat.zero_le _, Nat.zero_le _⟩ dX3_readSet_6 (fun H locs hw => ?_)
  refine lv_aload_n X.1 X.2.1 dX3_readSet_9 rfl (lv_at hl 0 rfl) ?_
  refine lv_iconst (v := 2) X.1 X.2.1 dX3_readSet_10 (by decide) ?_
  refine lv_bipush (v := 12) X.1 X.2.1 dX3_readSet_11 (by decide) ?_
  obtain ⟨q6, eq6, hf⟩ := si_ob hf
  refine si_cVi [.int 2, .int 12] cal_X3_takeNumber gm_RX3_89 X hw hA hl.1 (c_X3_takeNumber l E F 2 12 S5 q6 eq6) si_cl3 rfl ⟨⟨rfl, rfl⟩, Nat.le_of_ble_eq_true rfl, Nat.le_of_ble_eq_true rfl⟩ rfl rfl (Nat.le_of_ble_eq_true rfl) ⟨Nat.zero_le _, Nat.zero_le _⟩ dX3_readSet_13 (fun H locs hw => ?_)
  refine lv_istore_n (lv' := [(2, .int q6.1), (0, .ref (E.2.1 1)), (1, .ref (E.2.1 k1))]) X.1 X.2.1 dX3_readSet_16 rfl hl (by decide) rfl (fun ls hl => ?_)
  refine lv_aload_n X.1 X.2.1 dX3_readSet_17 rfl (lv_at hl 1 rfl) ?_
  refine si_getI X hw si_cl3 3 (by decide) gf_RX3_27 rfl rfl rfl dX3_readSet_18 ?_
  refine lv_if_ne (tgt := 37) X.1 X.2.1 dX3_readSet_21 (by decide) (fun c21 => ?_) (fun c21 => ?_)
  · have hf := si_in c21 hf
    exact B37 _ _ _ _ _ hf hw (lv_sub hl [1, 2, 0] rfl)
  · have hf := si_ip c21 hf
    refine lv_aload_n X.1 X.2.1 dX3_readSet_24 rfl (lv_at hl 1 rfl) ?_
    refine si_ldcS X (si_sr 15 rfl) rfl dX3_readSet_25 ?_
    obtain ⟨q7, eq7, hf⟩ := si_ob hf
    refine si_cVi [.ref (E.2.2.2.1 7)] cal_X3_isWord gm_RX3_48 X hw hA hl.1 (c_X3_isWord l E F 7 (by decide) q6.2 q7 eq7) si_cl3 rfl ⟨⟨rfl, rfl⟩, Nat.le_of_ble_eq_true rfl, Nat.le_of_ble_eq_true rfl⟩ rfl rfl (Nat.le_of_ble_eq_true rfl) ⟨Nat.zero_le _, Nat.zero_le _⟩ dX3_readSet_27 (fun H locs hw => ?_)
    refine lv_if_eq (tgt := 37) X.1 X.2.1 dX3_readSet_30 (by decide) (fun c30 => ?_) (fun c30 => ?_)
    · have hf := si_ip c30 hf
      exact B37 _ _ _ _ _ hf hw (lv_sub hl [1, 2, 0] rfl)
    · have hf := si_in c30 hf
      refine lv_iconst (v := 1) X.1 X.2.1 dX3_readSet_33 (by decide) ?_
      refine lv_goto (tgt := 38) X.1 X.2.1 dX3_readSet_34 (by decide) ?_
      exact B38 _ _ _ _ _ _ hf hw (lv_sub hl [1, 2, 0] rfl)
abbrev rm_X3_readMass : Room := { frames := 5, cells := 0, slots := 0, locals := 107 }
set_option maxHeartbeats 4000000 in
set_option maxRecDepth 100000 in
theorem c_X3_readMass (l : Launch) (E : si_Ev) (F : Nat) (k1 : Nat) (hk1 : si_kd k1 = 2) (S : si_St) (o : si_St) (hf : f_X3_readMass F k1 S = some o) : si_Mv l E yX3_readMass cX3_readMass 3 rm_X3_readMass [.ref (E.2.1 1), .ref (E.2.1 k1)] S o := by
  refine si_ofWv (plainFor_of_name (by decide +kernel)) (Nat.le_of_ble_eq_true rfl) ?_
  intro p e s m args below meth c ls Q A X hw hA hl hret
  have hl : lv_has ls 3 [(0, .ref (E.2.1 1)), (1, .ref (E.2.1 k1))] := hl
  have B114 : ∀ (S : si_St) (H : Heap) (locs : List Loc) (ls : Array Slot), f_X3_readMass_h114 F k1 S = some o → si_Ws E A s.heap S H locs → lv_has ls 3 [] → W p l e rm_X3_readMass s m args below meth c H locs 0 0 Q (F0 m 114 ls []) := by
    intro   S H locs ls hf hw hl
    unfold f_X3_readMass_h114 at hf
    exact hret _ _ _ _ _ hf hw dX3_readMass_114
  have B87 : ∀ (x2 : Int32) (S : si_St) (H : Heap) (locs : List Loc) (ls : Array Slot), f_X3_readMass_h87 F k1 x2 S = some o → si_Ws E A s.heap S H locs → lv_has ls 3 [(0, .ref (E.2.1 1)), (1, .ref (E.2.1 k1)), (2, .int x2)] → W p l e rm_X3_readMass s m args below meth c H locs 0 0 Q (F0 m 87 ls []) := by
    intro x2  S H locs ls hf hw hl
    unfold f_X3_readMass_h87 at hf
    refine lv_aload_n X.1 X.2.1 dX3_readMass_87 rfl (lv_at hl 0 rfl) ?_
    refine si_getI X hw si_cl3 3 (by decide) gf_RX3_27 rfl rfl rfl dX3_readMass_88 ?_
    refine lv_if_ne (tgt := 114) X.1 X.2.1 dX3_readMass_91 (by decide) (fun c91 => ?_) (fun c91 => ?_)
    · have hf := si_in c91 hf
      exact B114 _ _ _ _ hf hw (lv_sub hl [] rfl)
    · have hf := si_ip c91 hf
      refine lv_aload_n X.1 X.2.1 dX3_readMass_94 rfl (lv_at hl 1 rfl) ?_
      refine si_getR (k' := (k1 + 5)) (d := 5) X hw si_cl2 8 (by decide) gf_RX3_119 rfl hk1 rfl (by decide) rfl dX3_readMass_95 ?_
      refine lv_aload_n X.1 X.2.1 dX3_readMass_98 rfl (lv_at hl 1 rfl) ?_
      refine si_getI X hw si_cl2 2 (by decide) gf_RX3_107 rfl hk1 rfl dX3_readMass_99 ?_
      refine lv_iload_n X.1 X.2.1 dX3_readMass_102 rfl (lv_at hl 2 rfl) ?_
      obtain ⟨S1, eS1, hf⟩ := si_ob hf
      refine si_iast X hw (sk_2_5 hk1) eS1 dX3_readMass_103 (fun H locs hw => ?_)
      refine lv_aload_n X.1 X.2.1 dX3_readMass_104 rfl (lv_at hl 1 rfl) ?_
      refine lv_dup X.1 X.2.1 dX3_readMass_105 rfl ?_
      refine si_getI X hw si_cl2 2 (by decide) gf_RX3_107 rfl hk1 rfl dX3_readMass_106 ?_
      refine lv_iconst (v := 1) X.1 X.2.1 dX3_readMass_109 (by decide) ?_
      refine lv_iadd X.1 X.2.1 dX3_readMass_110 ?_
      obtain ⟨S2, eS2, hf⟩ := si_ob hf
      refine si_ptI X hw si_cl2 2 (by decide) gf_RX3_107 rfl rfl hk1 rfl rfl eS2 dX3_readMass_111 (fun H locs hw => ?_)
      exact B114 _ _ _ _ hf hw (lv_sub hl [] rfl)
  have B51 : ∀ (x2 : Int32) (S : si_St) (H : Heap) (locs : List Loc) (ls : Array Slot), f_X3_readMass_h51 F k1 x2 S = some o → si_Ws E A s.heap S H locs → lv_has ls 3 [(0, .ref (E.2.1 1)), (1, .ref (E.2.1 k1)), (2, .int x2)] → W p l e rm_X3_readMass s m args below meth c H locs 0 0 Q (F0 m 51 ls []) := by
    intro x2  S H locs ls hf hw hl
    unfold f_X3_readMass_h51 at hf
    refine lv_aload_n X.1 X.2.1 dX3_readMass_51 rfl (lv_at hl 0 rfl) ?_
    refine si_getI X hw si_cl3 3 (by decide) gf_RX3_27 rfl rfl rfl dX3_readMass_52 ?_
    refine lv_if_ne (tgt := 87) X.1 X.2.1 dX3_readMass_55 (by decide) (fun c55 => ?_) (fun c55 => ?_)
    · have hf := si_in c55 hf
      exact B87 _ _ _ _ _ hf hw (lv_sub hl [0, 1, 2] rfl)
    · have hf := si_ip c55 hf
      refine lv_aload_n X.1 X.2.1 dX3_readMass_58 rfl (lv_at hl 0 rfl) ?_
      refine si_ldcS X (si_sr 13 rfl) rfl dX3_readMass_59 ?_
      obtain ⟨q3, eq3, hf⟩ := si_ob hf
      refine si_cVi [.ref (E.2.2.2.1 6)] cal_X3_isWord gm_RX3_48 X hw hA hl.1 (c_X3_isWord l E F 6 (by decide) S q3 eq3) si_cl3 rfl ⟨⟨rfl, rfl⟩, Nat.le_of_ble_eq_true rfl, Nat.le_of_ble_eq_true rfl⟩ rfl rfl (Nat.le_of_ble_eq_true rfl) ⟨Nat.zero_le _, Nat.zero_le _⟩ dX3_readMass_61 (fun H locs hw => ?_)
      refine lv_if_eq (tgt := 87) X.1 X.2.1 dX3_readMass_64 (by decide) (fun c64 => ?_) (fun c64 => ?_)
      · have hf := si_ip c64 hf
        exact B87 _ _ _ _ _ hf hw (lv_sub hl [0, 1, 2] rfl)
      · have hf := si_in c64 hf
        refine lv_aload_n X.1 X.2.1 dX3_readMass_67 rfl (lv_at hl 0 rfl) ?_
        obtain ⟨S4, eS4, hf⟩ := si_ob hf
        refine si_cVv [] cal_X3_advance gm_RX3_36 X hw hA hl.1 (c_X3_advance l E F q3.2 S4 eS4) si_cl3 rfl ⟨⟨rfl, rfl⟩, Nat.le_of_ble_eq_true rfl, Nat.le_of_ble_eq_true rfl⟩ rfl rfl (Nat.le_of_ble_eq_true rfl) ⟨Nat.zero_le _, Nat.zero_le _⟩ dX3_readMass_68 (fun H locs hw => ?_)
        refine lv_iload_n X.1 X.2.1 dX3_readMass_71 rfl (lv_at hl 2 rfl) ?_
        refine lv_aload_n X.1 X.2.1 dX3_readMass_72 rfl (lv_at hl 0 rfl) ?_
        refine lv_iconst (v := 0) X.1 X.2.1 dX3_readMass_73 (by decide) ?_
        refine lv_bipush (v := 99) X.1 X.2.1 dX3_readMass_74 (by decide) ?_
        refine lv_iload_n X.1 X.2.1 dX3_readMass_76 rfl (lv_at hl 2 rfl) ?_
        refine lv_iconst (v := 1) X.1 X.2.1 dX3_readMass_77 (by decide) ?_
        refine lv_isub X.1 X.2.1 dX3_readMass_78 ?_
        refine si_mmin hl.1 X (Nat.le_of_ble_eq_true rfl) (Nat.le_of_ble_eq_true rfl) gm_RX3_114 ⟨Nat.zero_le _, Nat.zero_le _⟩ dX3_readMass_79 ?_
        obtain ⟨q5, eq5, hf⟩ := si_ob hf
        refine si_cVi [.int 0, .int (si_min 99 (x2 - 1))] cal_X3_takeNumber gm_RX3_89 X hw hA hl.1 (c_X3_takeNumber l E F 0 (si_min 99 (x2 - 1)) S4 q5 eq5) si_cl3 rfl ⟨⟨rfl, rfl⟩, Nat.le_of_ble_eq_true rfl, Nat.le_of_ble_eq_true rfl⟩ rfl rfl (Nat.le_of_ble_eq_true rfl) ⟨Nat.zero_le _, Nat.zero_le _⟩ dX3_readMass_82 (fun H locs hw => ?_)
        refine lv_isub X.1 X.2.1 dX3_readMass_85 ?_
        obtain ⟨v6, ev6, hf⟩ := si_ob hf
        refine si_nmI ev6 ?_
        refine lv_istore_n (lv' := [(2, .int v6), (0, .ref (E.2.1 1)), (1, .ref (E.2.1 k1))]) X.1 X.2.1 dX3_readMass_86 rfl hl (by decide) rfl (fun ls hl => ?_)
        exact B87 _ _ _ _ _ hf hw (lv_sub hl [1, 2, 0] rfl)
  unfold f_X3_readMass at hf
  refine lv_aload_n X.1 X.2.1 dX3_readMass_0 rfl (lv_at hl 0 rfl) ?_
  refine lv_aload_n X.1 X.2.1 dX3_readMass_1 rfl (lv_at hl 1 rfl) ?_
  refine si_getI X hw si_cl2 2 (by decide) gf_RX3_107 rfl hk1 rfl dX3_readMass_2 ?_
  refine lv_bipush (v := 10) X.1 X.2.1 dX3_readMass_5 (by decide) ?_
  obtain ⟨S7, eS7, hf⟩ := si_ob hf
  refine si_cVv [.int (S.1 k1 2), .int 10] cal_X3_takeKeyword gm_RX3_55 X hw hA hl.1 (c_X3_takeKeyword l E F (S.1 k1 2) 10 S S7 eS7) si_cl3 rfl ⟨⟨rfl, rfl⟩, Nat.le_of_ble_eq_true rfl, Nat.le_of_ble_eq_true rfl⟩ rfl rfl (Nat.le_of_ble_eq_true rfl) ⟨Nat.zero_le _, Nat.zero_le _⟩ dX3_readMass_7 (fun H locs hw => ?_)
  refine lv_aload_n X.1 X.2.1 dX3_readMass_10 rfl (lv_at hl 0 rfl) ?_
  refine lv_iconst (v := 1) X.1 X.2.1 dX3_readMass_11 (by decide) ?_
  refine lv_ldc (v := 999999) X.1 X.2.1 X.2.2.2.1 (si_wd X gk_RX3_93) dX3_readMass_12 ?_
  obtain ⟨q8, eq8, hf⟩ := si_ob hf
  refine si_cVi [.int 1, .int 999999] cal_X3_takeNumber gm_RX3_89 X hw hA hl.1 (c_X3_takeNumber l E F 1 999999 S7 q8 eq8) si_cl3 rfl ⟨⟨rfl, rfl⟩, Nat.le_of_ble_eq_true rfl, Nat.le_of_ble_eq_true rfl⟩ rfl rfl (Nat.le_of_ble_eq_true rfl) ⟨Nat.zero_le _, Nat.zero_le _⟩ dX3_readMass_14 (fun H locs hw => ?_)
  refine lv_istore_n (lv' := [(2, .int q8.1), (0, .ref (E.2.1 1)), (1, .ref (E.2.1 k1))]) X.1 X.2.1 dX3_readMass_17 rfl hl (by decide) rfl (fun ls hl => ?_)
  refine lv_aload_n X.1 X.2.1 dX3_readMass_18 rfl (lv_at hl 1 rfl) ?_
  refine si_getI X hw si_cl3 3 (by decide) gf_RX3_27 rfl rfl rfl dX3_readMass_19 ?_
  refine lv_if_ne (tgt := 51) X.1 X.2.1 dX3_readMass_22 (by decide) (fun c22 => ?_) (fun c22 => ?_)
  · have hf := si_in c22 hf
    exact B51 _ _ _ _ _ hf hw (lv_sub hl [1, 2, 0] rfl)
  · have hf := si_ip c22 hf
    refine lv_aload_n X.1 X.2.1 dX3_readMass_25 rfl (lv_at hl 1 rfl) ?_
    refine si_ldcS X (si_sr 12 rfl) rfl dX3_readMass_26 ?_
    obtain ⟨q9, eq9, hf⟩ := si_ob hf
    refine si_cVi [.ref (E.2.2.2.1 5)] cal_X3_isWord gm_RX3_48 X hw hA hl.1 (c_X3_isWord l E F 5 (by decide) q8.2 q9 eq9) si_cl3 rfl ⟨⟨rfl, rfl⟩, Nat.le_of_ble_eq_true rfl, Nat.le_of_ble_eq_true rfl⟩ rfl rfl (Nat.le_of_ble_eq_true rfl) ⟨Nat.zero_le _, Nat.zero_le _⟩ dX3_readMass_28 (fun H locs hw => ?_)
    refine lv_if_eq (tgt := 51) X.1 X.2.1 dX3_readMass_31 (by decide) (fun c31 => ?_) (fun c31 => ?_)
    · have hf := si_ip c31 hf
      exact B51 _ _ _ _ _ hf hw (lv_sub hl [1, 2, 0] rfl)
    · have hf := si_in c31 hf
      refine lv_aload_n X.1 X.2.1 dX3_readMass_34 rfl (lv_at hl 1 rfl) ?_
      obtain ⟨S10, eS10, hf⟩ := si_ob hf
      refine si_cVv [] cal_X3_advance gm_RX3_36 X hw hA hl.1 (c_X3_advance l E F q9.2 S10 eS10) si_cl3 rfl ⟨⟨rfl, rfl⟩, Nat.le_of_ble_eq_true rfl, Nat.le_of_ble_eq_true rfl⟩ rfl rfl (Nat.le_of_ble_eq_true rfl) ⟨Nat.zero_le _, Nat.zero_le _⟩ dX3_readMass_35 (fun H locs hw => ?_)
      refine lv_iload_n X.1 X.2.1 dX3_readMass_38 rfl (lv_at hl 0 rfl) ?_
      refine lv_aload_n X.1 X.2.1 dX3_readMass_39 rfl (lv_at hl 1 rfl) ?_
      refine lv_iconst (v := 0) X.1 X.2.1 dX3_readMass_40 (by decide) ?_
      refine lv_bipush (v := 99) X.1 X.2.1 dX3_readMass_41 (by decide) ?_
      obtain ⟨q11, eq11, hf⟩ := si_ob hf
      refine si_cVi [.int 0, .int 99] cal_X3_takeNumber gm_RX3_89 X hw hA hl.1 (c_X3_takeNumber l E F 0 99 S10 q11 eq11) si_cl3 rfl ⟨⟨rfl, rfl⟩, Nat.le_of_ble_eq_true rfl, Nat.le_of_ble_eq_true rfl⟩ rfl rfl (Nat.le_of_ble_eq_true rfl) ⟨Nat.zero_le _, Nat.zero_le _⟩ dX3_readMass_43 (fun H locs hw => ?_)
      refine lv_iadd X.1 X.2.1 dX3_readMass_46 ?_
      obtain ⟨v12, ev12, hf⟩ := si_ob hf
      refine si_nmI ev12 ?_
      refine lv_istore_n (lv' := [(2, .int v12), (0, .ref (E.2.1 1)), (1, .ref (E.2.1 k1))]) X.1 X.2.1 dX3_readMass_47 rfl hl (by decide) rfl (fun ls hl => ?_)
      refine lv_goto (tgt := 87) X.1 X.2.1 dX3_readMass_48 (by decide) ?_
      exact B87 _ _ _ _ _ hf hw (lv_sub hl [1, 2, 0] rfl)
abbrev rm_X3_readScale : Room := { frames := 3, cells := 0, slots := 0, locals := 66 }
set_option maxHeartbeats 4000000 in
set_option maxRecDepth 100000 in
theorem c_X3_readScale (l : Launch) (E : si_Ev) (F : Nat) (k1 : Nat) (hk1 : si_kd k1 = 2) (S : si_St) (o : si_St) (hf : f_X3_readScale F k1 S = some o) : si_Mv l E yX3_readScale cX3_readScale 6 rm_X3_readScale [.ref (E.2.1 1), .ref (E.2.1 k1)] S o := by
  refine si_ofWv (plainFor_of_name (by decide +kernel)) (Nat.le_of_ble_eq_true rfl) ?_
  intro p e s m args below meth c ls Q A X hw hA hl hret
  have hl : lv_has ls 6 [(0, .ref (E.2.1 1)), (1, .ref (E.2.1 k1))] := hl
  have B111 : ∀ (S : si_St) (H : Heap) (locs : List Loc) (ls : Array Slot), f_X3_readScale_h111 F k1 S = some o → si_Ws E A s.heap S H locs → lv_has ls 6 [] → W p l e rm_X3_readScale s m args below meth c H locs 0 0 Q (F0 m 111 ls []) := by
    intro   S H locs ls hf hw hl
    unfold f_X3_readScale_h111 at hf
    exact hret _ _ _ _ _ hf hw dX3_readScale_111
  unfold f_X3_readScale at hf
  refine lv_aload_n X.1 X.2.1 dX3_readScale_0 rfl (lv_at hl 0 rfl) ?_
  refine lv_aload_n X.1 X.2.1 dX3_readScale_1 rfl (lv_at hl 1 rfl) ?_
  refine si_getI X hw si_cl2 1 (by decide) gf_RX3_86 rfl hk1 rfl dX3_readScale_2 ?_
  refine lv_bipush (v := 24) X.1 X.2.1 dX3_readScale_5 (by decide) ?_
  obtain ⟨S1, eS1, hf⟩ := si_ob hf
  refine si_cVv [.int (S.1 k1 1), .int 24] cal_X3_takeKeyword gm_RX3_55 X hw hA hl.1 (c_X3_takeKeyword l E F (S.1 k1 1) 24 S S1 eS1) si_cl3 rfl ⟨⟨rfl, rfl⟩, Nat.le_of_ble_eq_true rfl, Nat.le_of_ble_eq_true rfl⟩ rfl rfl (Nat.le_of_ble_eq_true rfl) ⟨Nat.zero_le _, Nat.zero_le _⟩ dX3_readScale_7 (fun H locs hw => ?_)
  refine lv_aload_n X.1 X.2.1 dX3_readScale_10 rfl (lv_at hl 0 rfl) ?_
  refine lv_iconst (v := 0) X.1 X.2.1 dX3_readScale_11 (by decide) ?_
  refine lv_aload_n X.1 X.2.1 dX3_readScale_12 rfl (lv_at hl 1 rfl) ?_
  refine si_getI X hw si_cl2 0 (by decide) gf_RX3_52 rfl hk1 rfl dX3_readScale_13 ?_
  refine lv_iconst (v := 1) X.1 X.2.1 dX3_readScale_16 (by decide) ?_
  refine lv_isub X.1 X.2.1 dX3_readScale_17 ?_
  obtain ⟨q2, eq2, hf⟩ := si_ob hf
  refine si_cVi [.int 0, .int ((S1.1 k1 0) - 1)] cal_X3_takeNumber gm_RX3_89 X hw hA hl.1 (c_X3_takeNumber l E F 0 ((S1.1 k1 0) - 1) S1 q2 eq2) si_cl3 rfl ⟨⟨rfl, rfl⟩, Nat.le_of_ble_eq_true rfl, Nat.le_of_ble_eq_true rfl⟩ rfl rfl (Nat.le_of_ble_eq_true rfl) ⟨Nat.zero_le _, Nat.zero_le _⟩ dX3_readScale_18 (fun H locs hw => ?_)
  refine lv_istore_n (lv' := [(2, .int q2.1), (0, .ref (E.2.1 1)), (1, .ref (E.2.1 k1))]) X.1 X.2.1 dX3_readScale_21 rfl hl (by decide) rfl (fun ls hl => ?_)
  refine lv_aload_n X.1 X.2.1 dX3_readScale_22 rfl (lv_at hl 1 rfl) ?_
  refine lv_iconst (v := 0) X.1 X.2.1 dX3_readScale_23 (by decide) ?_
  refine lv_iconst (v := 2) X.1 X.2.1 dX3_readScale_24 (by decide) ?_
  obtain ⟨q3, eq3, hf⟩ := si_ob hf
  refine si_cVi [.int 0, .int 2] cal_X3_takeNumber gm_RX3_89 X hw hA hl.1 (c_X3_takeNumber l E F 0 2 q2.2 q3 eq3) si_cl3 rfl ⟨⟨rfl, rfl⟩, Nat.le_of_ble_eq_true rfl, Nat.le_of_ble_eq_true rfl⟩ rfl rfl (Nat.le_of_ble_eq_true rfl) ⟨Nat.zero_le _, Nat.zero_le _⟩ dX3_readScale_25 (fun H locs hw => ?_)
  refine lv_istore_n (lv' := [(3, .int q3.1), (2, .int q2.1), (0, .ref (E.2.1 1)), (1, .ref (E.2.1 k1))]) X.1 X.2.1 dX3_readScale_28 rfl hl (by decide) rfl (fun ls hl => ?_)
  refine lv_aload_n X.1 X.2.1 dX3_readScale_29 rfl (lv_at hl 2 rfl) ?_
  refine lv_iconst (v := 1) X.1 X.2.1 dX3_readScale_30 (by decide) ?_
  refine lv_sipush (v := 1000) X.1 X.2.1 dX3_readScale_31 (by decide) ?_
  obtain ⟨q4, eq4, hf⟩ := si_ob hf
  refine si_cVi [.int 1, .int 1000] cal_X3_takeNumber gm_RX3_89 X hw hA hl.1 (c_X3_takeNumber l E F 1 1000 q3.2 q4 eq4) si_cl3 rfl ⟨⟨rfl, rfl⟩, Nat.le_of_ble_eq_true rfl, Nat.le_of_ble_eq_true rfl⟩ rfl rfl (Nat.le_of_ble_eq_true rfl) ⟨Nat.zero_le _, Nat.zero_le _⟩ dX3_readScale_34 (fun H locs hw => ?_)
  refine lv_istore (lv' := [(4, .int q4.1), (3, .int q3.1), (2, .int q2.1), (0, .ref (E.2.1 1)), (1, .ref (E.2.1 k1))]) X.1 X.2.1 dX3_readScale_37 hl (by decide) rfl (fun ls hl => ?_)
  refine lv_aload_n X.1 X.2.1 dX3_readScale_39 rfl (lv_at hl 3 rfl) ?_
  refine lv_bipush (v := 20) X.1 X.2.1 dX3_readScale_40 (by decide) ?_
  refine lv_iload X.1 X.2.1 dX3_readScale_42 (lv_at hl 0 rfl) ?_
  refine lv_imul X.1 X.2.1 dX3_readScale_44 ?_
  refine lv_ldc (v := 999999) X.1 X.2.1 X.2.2.2.1 (si_wd X gk_RX3_93) dX3_readScale_45 ?_
  obtain ⟨q5, eq5, hf⟩ := si_ob hf
  refine si_cVi [.int (20 * q4.1), .int 999999] cal_X3_takeNumber gm_RX3_89 X hw hA hl.1 (c_X3_takeNumber l E F (20 * q4.1) 999999 q4.2 q5 eq5) si_cl3 rfl ⟨⟨rfl, rfl⟩, Nat.le_of_ble_eq_true rfl, Nat.le_of_ble_eq_true rfl⟩ rfl rfl (Nat.le_of_ble_eq_true rfl) ⟨Nat.zero_le _, Nat.zero_le _⟩ dX3_readScale_47 (fun H locs hw => ?_)
  refine lv_istore (lv' := [(5, .int q5.1), (4, .int q4.1), (3, .int q3.1), (2, .int q2.1), (0, .ref (E.2.1 1)), (1, .ref (E.2.1 k1))]) X.1 X.2.1 dX3_readScale_50 hl (by decide) rfl (fun ls hl => ?_)
  refine lv_aload_n X.1 X.2.1 dX3_readScale_52 rfl (lv_at hl 4 rfl) ?_
  refine si_getI X hw si_cl3 3 (by decide) gf_RX3_27 rfl rfl rfl dX3_readScale_53 ?_
  refine lv_if_ne (tgt := 111) X.1 X.2.1 dX3_readScale_56 (by decide) (fun c56 => ?_) (fun c56 => ?_)
  · have hf := si_in c56 hf
    exact B111 _ _ _ _ hf hw (lv_sub hl [] rfl)
  · have hf := si_ip c56 hf
    refine lv_aload_n X.1 X.2.1 dX3_readScale_59 rfl (lv_at hl 5 rfl) ?_
    refine si_getR (k' := (k1 + 1)) (d := 1) X hw si_cl2 4 (by decide) gf_RX3_94 rfl hk1 rfl (by decide) rfl dX3_readScale_60 ?_
    refine lv_aload_n X.1 X.2.1 dX3_readScale_63 rfl (lv_at hl 5 rfl) ?_
    refine si_getI X hw si_cl2 1 (by decide) gf_RX3_86 rfl hk1 rfl dX3_readScale_64 ?_
    refine lv_iload_n X.1 X.2.1 dX3_readScale_67 rfl (lv_at hl 3 rfl) ?_
    obtain ⟨S6, eS6, hf⟩ := si_ob hf
    refine si_iast X hw (sk_2_1 hk1) eS6 dX3_readScale_68 (fun H locs hw => ?_)
    refine lv_aload_n X.1 X.2.1 dX3_readScale_69 rfl (lv_at hl 5 rfl) ?_
    refine si_getR (k' := (k1 + 2)) (d := 2) X hw si_cl2 5 (by decide) gf_RX3_98 rfl hk1 rfl (by decide) rfl dX3_readScale_70 ?_
    refine lv_aload_n X.1 X.2.1 dX3_readScale_73 rfl (lv_at hl 5 rfl) ?_
    refine si_getI X hw si_cl2 1 (by decide) gf_RX3_86 rfl hk1 rfl dX3_readScale_74 ?_
    refine lv_iload_n X.1 X.2.1 dX3_readScale_77 rfl (lv_at hl 2 rfl) ?_
    obtain ⟨S7, eS7, hf⟩ := si_ob hf
    refine si_iast X hw (sk_2_2 hk1) eS7 dX3_readScale_78 (fun H locs hw => ?_)
    refine lv_aload_n X.1 X.2.1 dX3_readScale_79 rfl (lv_at hl 5 rfl) ?_
    refine si_getR (k' := (k1 + 3)) (d := 3) X hw si_cl2 6 (by decide) gf_RX3_101 rfl hk1 rfl (by decide) rfl dX3_readScale_80 ?_
    refine lv_aload_n X.1 X.2.1 dX3_readScale_83 rfl (lv_at hl 5 rfl) ?_
    refine si_getI X hw si_cl2 1 (by decide) gf_RX3_86 rfl hk1 rfl dX3_readScale_84 ?_
    refine lv_iload X.1 X.2.1 dX3_readScale_87 (lv_at hl 1 rfl) ?_
    obtain ⟨S8, eS8, hf⟩ := si_ob hf
    refine si_iast X hw (sk_2_3 hk1) eS8 dX3_readScale_89 (fun H locs hw => ?_)
    refine lv_aload_n X.1 X.2.1 dX3_readScale_90 rfl (lv_at hl 5 rfl) ?_
    refine si_getR (k' := (k1 + 4)) (d := 4) X hw si_cl2 7 (by decide) gf_RX3_104 rfl hk1 rfl (by decide) rfl dX3_readScale_91 ?_
    refine lv_aload_n X.1 X.2.1 dX3_readScale_94 rfl (lv_at hl 5 rfl) ?_
    refine si_getI X hw si_cl2 1 (by decide) gf_RX3_86 rfl hk1 rfl dX3_readScale_95 ?_
    refine lv_iload X.1 X.2.1 dX3_readScale_98 (lv_at hl 0 rfl) ?_
    obtain ⟨S9, eS9, hf⟩ := si_ob hf
    refine si_iast X hw (sk_2_4 hk1) eS9 dX3_readScale_100 (fun H locs hw => ?_)
    refine lv_aload_n X.1 X.2.1 dX3_readScale_101 rfl (lv_at hl 5 rfl) ?_
    refine lv_dup X.1 X.2.1 dX3_readScale_102 rfl ?_
    refine si_getI X hw si_cl2 1 (by decide) gf_RX3_86 rfl hk1 rfl dX3_readScale_103 ?_
    refine lv_iconst (v := 1) X.1 X.2.1 dX3_readScale_106 (by decide) ?_
    refine lv_iadd X.1 X.2.1 dX3_readScale_107 ?_
    obtain ⟨S10, eS10, hf⟩ := si_ob hf
    refine si_ptI X hw si_cl2 1 (by decide) gf_RX3_86 rfl rfl hk1 rfl rfl eS10 dX3_readScale_108 (fun H locs hw => ?_)
    exact B111 _ _ _ _ hf hw (lv_sub hl [] rfl)
abbrev rm_X3_readStatement : Room := { frames := 6, cells := 0, slots := 0, locals := 130 }
set_option maxHeartbeats 4000000 in
set_option maxRecDepth 100000 in
theorem c_X3_readStatement (l : Launch) (E : si_Ev) (F : Nat) (k1 : Nat) (hk1 : si_kd k1 = 2) (S : si_St) (o : si_St) (hf : f_X3_readStatement F k1 S = some o) : si_Mv l E yX3_readStatement cX3_readStatement 2 rm_X3_readStatement [.ref (E.2.1 1), .ref (E.2.1 k1)] S o := by
  refine si_ofWv (plainFor_of_name (by decide +kernel)) (Nat.le_of_ble_eq_true rfl) ?_
  intro p e s m args below meth c ls Q A X hw hA hl hret
  have hl : lv_has ls 2 [(0, .ref (E.2.1 1)), (1, .ref (E.2.1 k1))] := hl
  have B105 : ∀ (S : si_St) (H : Heap) (locs : List Loc) (ls : Array Slot), f_X3_readStatement_h105 F k1 S = some o → si_Ws E A s.heap S H locs → lv_has ls 2 [(0, .ref (E.2.1 1))] → W p l e rm_X3_readStatement s m args below meth c H locs 0 0 Q (F0 m 105 ls []) := by
    intro   S H locs ls hf hw hl
    unfold f_X3_readStatement_h105 at hf
    refine lv_aload_n X.1 X.2.1 dX3_readStatement_105 rfl (lv_at hl 0 rfl) ?_
    obtain ⟨S1, eS1, hf⟩ := si_ob hf
    refine si_cVv [] cal_X3_takeSemicolon gm_RX3_83 X hw hA hl.1 (c_X3_takeSemicolon l E F S S1 eS1) si_cl3 rfl ⟨⟨rfl, rfl⟩, Nat.le_of_ble_eq_true rfl, Nat.le_of_ble_eq_true rfl⟩ rfl rfl (Nat.le_of_ble_eq_true rfl) ⟨Nat.zero_le _, Nat.zero_le _⟩ dX3_readStatement_106 (fun H locs hw => ?_)
    exact hret _ _ _ _ _ hf hw dX3_readStatement_109
  unfold f_X3_readStatement at hf
  refine lv_aload_n X.1 X.2.1 dX3_readStatement_0 rfl (lv_at hl 0 rfl) ?_
  refine si_ldcS X (si_sr 9 rfl) rfl dX3_readStatement_1 ?_
  obtain ⟨q2, eq2, hf⟩ := si_ob hf
  refine si_cVi [.ref (E.2.2.2.1 0)] cal_X3_isWord gm_RX3_48 X hw hA hl.1 (c_X3_isWord l E F 0 (by decide) S q2 eq2) si_cl3 rfl ⟨⟨rfl, rfl⟩, Nat.le_of_ble_eq_true rfl, Nat.le_of_ble_eq_true rfl⟩ rfl rfl (Nat.le_of_ble_eq_true rfl) ⟨Nat.zero_le _, Nat.zero_le _⟩ dX3_readStatement_3 (fun H locs hw => ?_)
  refine lv_if_eq (tgt := 32) X.1 X.2.1 dX3_readStatement_6 (by decide) (fun c6 => ?_) (fun c6 => ?_)
  · have hf := si_ip c6 hf
    refine lv_aload_n X.1 X.2.1 dX3_readStatement_32 rfl (lv_at hl 0 rfl) ?_
    refine si_ldcS X (si_sr 10 rfl) rfl dX3_readStatement_33 ?_
    obtain ⟨q3, eq3, hf⟩ := si_ob hf
    refine si_cVi [.ref (E.2.2.2.1 1)] cal_X3_isWord gm_RX3_48 X hw hA hl.1 (c_X3_isWord l E F 1 (by decide) q2.2 q3 eq3) si_cl3 rfl ⟨⟨rfl, rfl⟩, Nat.le_of_ble_eq_true rfl, Nat.le_of_ble_eq_true rfl⟩ rfl rfl (Nat.le_of_ble_eq_true rfl) ⟨Nat.zero_le _, Nat.zero_le _⟩ dX3_readStatement_35 (fun H locs hw => ?_)
    refine lv_if_eq (tgt := 49) X.1 X.2.1 dX3_readStatement_38 (by decide) (fun c38 => ?_) (fun c38 => ?_)
    · have hf := si_ip c38 hf
      refine lv_aload_n X.1 X.2.1 dX3_readStatement_49 rfl (lv_at hl 0 rfl) ?_
      refine si_ldcS X (si_sr 11 rfl) rfl dX3_readStatement_50 ?_
      obtain ⟨q4, eq4, hf⟩ := si_ob hf
      refine si_cVi [.ref (E.2.2.2.1 2)] cal_X3_isWord gm_RX3_48 X hw hA hl.1 (c_X3_isWord l E F 2 (by decide) q3.2 q4 eq4) si_cl3 rfl ⟨⟨rfl, rfl⟩, Nat.le_of_ble_eq_true rfl, Nat.le_of_ble_eq_true rfl⟩ rfl rfl (Nat.le_of_ble_eq_true rfl) ⟨Nat.zero_le _, Nat.zero_le _⟩ dX3_readStatement_52 (fun H locs hw => ?_)
      refine lv_if_eq (tgt := 66) X.1 X.2.1 dX3_readStatement_55 (by decide) (fun c55 => ?_) (fun c55 => ?_)
      · have hf := si_ip c55 hf
        refine lv_aload_n X.1 X.2.1 dX3_readStatement_66 rfl (lv_at hl 0 rfl) ?_
        refine si_ldcS X (si_sr 14 rfl) rfl dX3_readStatement_67 ?_
        obtain ⟨q5, eq5, hf⟩ := si_ob hf
        refine si_cVi [.ref (E.2.2.2.1 3)] cal_X3_isWord gm_RX3_48 X hw hA hl.1 (c_X3_isWord l E F 3 (by decide) q4.2 q5 eq5) si_cl3 rfl ⟨⟨rfl, rfl⟩, Nat.le_of_ble_eq_true rfl, Nat.le_of_ble_eq_true rfl⟩ rfl rfl (Nat.le_of_ble_eq_true rfl) ⟨Nat.zero_le _, Nat.zero_le _⟩ dX3_readStatement_69 (fun H locs hw => ?_)
        refine lv_if_eq (tgt := 83) X.1 X.2.1 dX3_readStatement_72 (by decide) (fun c72 => ?_) (fun c72 => ?_)
        · have hf := si_ip c72 hf
          refine lv_aload_n X.1 X.2.1 dX3_readStatement_83 rfl (lv_at hl 0 rfl) ?_
          refine si_ldcS X (si_sr 16 rfl) rfl dX3_readStatement_84 ?_
          obtain ⟨q6, eq6, hf⟩ := si_ob hf
          refine si_cVi [.ref (E.2.2.2.1 4)] cal_X3_isWord gm_RX3_48 X hw hA hl.1 (c_X3_isWord l E F 4 (by decide) q5.2 q6 eq6) si_cl3 rfl ⟨⟨rfl, rfl⟩, Nat.le_of_ble_eq_true rfl, Nat.le_of_ble_eq_true rfl⟩ rfl rfl (Nat.le_of_ble_eq_true rfl) ⟨Nat.zero_le _, Nat.zero_le _⟩ dX3_readStatement_86 (fun H locs hw => ?_)
          refine lv_if_eq (tgt := 100) X.1 X.2.1 dX3_readStatement_89 (by decide) (fun c89 => ?_) (fun c89 => ?_)
          · have hf := si_ip c89 hf
            refine lv_aload_n X.1 X.2.1 dX3_readStatement_100 rfl (lv_at hl 0 rfl) ?_
            refine lv_iconst (v := 1) X.1 X.2.1 dX3_readStatement_101 (by decide) ?_
            obtain ⟨S7, eS7, hf⟩ := si_ob hf
            refine si_cVv [.int 1] cal_X3_fail gm_RX3_79 X hw hA hl.1 (c_X3_fail l E F 1 q6.2 S7 eS7) si_cl3 rfl ⟨⟨rfl, rfl⟩, Nat.le_of_ble_eq_true rfl, Nat.le_of_ble_eq_true rfl⟩ rfl rfl (Nat.le_of_ble_eq_true rfl) ⟨Nat.zero_le _, Nat.zero_le _⟩ dX3_readStatement_102 (fun H locs hw => ?_)
            exact B105 _ _ _ _ hf hw (lv_sub hl [0] rfl)
          · have hf := si_in c89 hf
            refine lv_aload_n X.1 X.2.1 dX3_readStatement_92 rfl (lv_at hl 0 rfl) ?_
            refine lv_aload_n X.1 X.2.1 dX3_readStatement_93 rfl (lv_at hl 1 rfl) ?_
            obtain ⟨S8, eS8, hf⟩ := si_ob hf
            refine si_cVv [.ref (E.2.1 k1)] cal_X3_readTerm gm_RX3_76 X hw hA hl.1 (c_X3_readTerm l E F k1 hk1 q6.2 S8 eS8) si_cl3 rfl ⟨⟨rfl, rfl⟩, Nat.le_of_ble_eq_true rfl, Nat.le_of_ble_eq_true rfl⟩ rfl rfl (Nat.le_of_ble_eq_true rfl) ⟨Nat.zero_le _, Nat.zero_le _⟩ dX3_readStatement_94 (fun H locs hw => ?_)
            refine lv_goto (tgt := 105) X.1 X.2.1 dX3_readStatement_97 (by decide) ?_
            exact B105 _ _ _ _ hf hw (lv_sub hl [0] rfl)
        · have hf := si_in c72 hf
          refine lv_aload_n X.1 X.2.1 dX3_readStatement_75 rfl (lv_at hl 0 rfl) ?_
          refine lv_aload_n X.1 X.2.1 dX3_readStatement_76 rfl (lv_at hl 1 rfl) ?_
          obtain ⟨S9, eS9, hf⟩ := si_ob hf
          refine si_cVv [.ref (E.2.1 k1)] cal_X3_readSet gm_RX3_71 X hw hA hl.1 (c_X3_readSet l E F k1 hk1 q5.2 S9 eS9) si_cl3 rfl ⟨⟨rfl, rfl⟩, Nat.le_of_ble_eq_true rfl, Nat.le_of_ble_eq_true rfl⟩ rfl rfl (Nat.le_of_ble_eq_true rfl) ⟨Nat.zero_le _, Nat.zero_le _⟩ dX3_readStatement_77 (fun H locs hw => ?_)
          refine lv_goto (tgt := 105) X.1 X.2.1 dX3_readStatement_80 (by decide) ?_
          exact B105 _ _ _ _ hf hw (lv_sub hl [0] rfl)
      · have hf := si_in c55 hf
        refine lv_aload_n X.1 X.2.1 dX3_readStatement_58 rfl (lv_at hl 0 rfl) ?_
        refine lv_aload_n X.1 X.2.1 dX3_readStatement_59 rfl (lv_at hl 1 rfl) ?_
        obtain ⟨S10, eS10, hf⟩ := si_ob hf
        refine si_cVv [.ref (E.2.1 k1)] cal_X3_readMass gm_RX3_66 X hw hA hl.1 (c_X3_readMass l E F k1 hk1 q4.2 S10 eS10) si_cl3 rfl ⟨⟨rfl, rfl⟩, Nat.le_of_ble_eq_true rfl, Nat.le_of_ble_eq_true rfl⟩ rfl rfl (Nat.le_of_ble_eq_true rfl) ⟨Nat.zero_le _, Nat.zero_le _⟩ dX3_readStatement_60 (fun H locs hw => ?_)
        refine lv_goto (tgt := 105) X.1 X.2.1 dX3_readStatement_63 (by decide) ?_
        exact B105 _ _ _ _ hf hw (lv_sub hl [0] rfl)
    · have hf := si_in c38 hf
      refine lv_aload_n X.1 X.2.1 dX3_readStatement_41 rfl (lv_at hl 0 rfl) ?_
      refine lv_aload_n X.1 X.2.1 dX3_readStatement_42 rfl (lv_at hl 1 rfl) ?_
      obtain ⟨S11, eS11, hf⟩ := si_ob hf
      refine si_cVv [.ref (E.2.1 k1)] cal_X3_readScale gm_RX3_61 X hw hA hl.1 (c_X3_readScale l E F k1 hk1 q3.2 S11 eS11) si_cl3 rfl ⟨⟨rfl, rfl⟩, Nat.le_of_ble_eq_true rfl, Nat.le_of_ble_eq_true rfl⟩ rfl rfl (Nat.le_of_ble_eq_true rfl) ⟨Nat.zero_le _, Nat.zero_le _⟩ dX3_readStatement_43 (fun H locs hw => ?_)
      refine lv_goto (tgt := 105) X.1 X.2.1 dX3_readStatement_46 (by decide) ?_
      exact B105 _ _ _ _ hf hw (lv_sub hl [0] rfl)
  · have hf := si_in c6 hf
    refine lv_aload_n X.1 X.2.1 dX3_readStatement_9 rfl (lv_at hl 0 rfl) ?_
    refine lv_aload_n X.1 X.2.1 dX3_readStatement_10 rfl (lv_at hl 1 rfl) ?_
    refine si_getI X hw si_cl2 0 (by decide) gf_RX3_52 rfl hk1 rfl dX3_readStatement_11 ?_
    refine lv_bipush (v := 8) X.1 X.2.1 dX3_readStatement_14 (by decide) ?_
    obtain ⟨S12, eS12, hf⟩ := si_ob hf
    refine si_cVv [.int (q2.2.1 k1 0), .int 8] cal_X3_takeKeyword gm_RX3_55 X hw hA hl.1 (c_X3_takeKeyword l E F (q2.2.1 k1 0) 8 q2.2 S12 eS12) si_cl3 rfl ⟨⟨rfl, rfl⟩, Nat.le_of_ble_eq_true rfl, Nat.le_of_ble_eq_true rfl⟩ rfl rfl (Nat.le_of_ble_eq_true rfl) ⟨Nat.zero_le _, Nat.zero_le _⟩ dX3_readStatement_16 (fun H locs hw => ?_)
    refine lv_aload_n X.1 X.2.1 dX3_readStatement_19 rfl (lv_at hl 1 rfl) ?_
    refine lv_dup X.1 X.2.1 dX3_readStatement_20 rfl ?_
    refine si_getI X hw si_cl2 0 (by decide) gf_RX3_52 rfl hk1 rfl dX3_readStatement_21 ?_
    refine lv_iconst (v := 1) X.1 X.2.1 dX3_readStatement_24 (by decide) ?_
    refine lv_iadd X.1 X.2.1 dX3_readStatement_25 ?_
    obtain ⟨S13, eS13, hf⟩ := si_ob hf
    refine si_ptI X hw si_cl2 0 (by decide) gf_RX3_52 rfl rfl hk1 rfl rfl eS13 dX3_readStatement_26 (fun H locs hw => ?_)
    refine lv_goto (tgt := 105) X.1 X.2.1 dX3_readStatement_29 (by decide) ?_
    exact B105 _ _ _ _ hf hw (lv_sub hl [0] rfl)
abbrev rm_X3_readMarket : Room := { frames := 7, cells := 0, slots := 0, locals := 151 }
set_option maxHeartbeats 4000000 in
set_option maxRecDepth 100000 in
theorem c_X3_readMarket (l : Launch) (E : si_Ev) (F : Nat) (k2 : Nat) (hk2 : si_kd k2 = 2) (x1 : Int32) (S : si_St) (o : Int32 × si_St) (hf : f_X3_readMarket F k2 x1 S = some o) : si_Mi l E yX3_readMarket cX3_readMarket 4 (some .int) rm_X3_readMarket [.ref (E.2.1 1), .int x1, .ref (E.2.1 k2)] S o := by
  refine si_ofWi (plainFor_of_name (by decide +kernel)) (Nat.le_of_ble_eq_true rfl) ?_
  intro p e s m args below meth c ls Q A X hw hA hl hret
  have hl : lv_has ls 4 [(0, .ref (E.2.1 1)), (1, .int x1), (2, .ref (E.2.1 k2))] := hl
  have B61 : ∀ (S : si_St) (H : Heap) (locs : List Loc) (ls : Array Slot), f_X3_readMarket_h61 F k2 S = some o → si_Ws E A s.heap S H locs → lv_has ls 4 [(0, .ref (E.2.1 1))] → W p l e rm_X3_readMarket s m args below meth c H locs 0 0 Q (F0 m 61 ls []) := by
    intro   S H locs ls hf hw hl
    unfold f_X3_readMarket_h61 at hf
    refine lv_aload_n X.1 X.2.1 dX3_readMarket_61 rfl (lv_at hl 0 rfl) ?_
    refine si_getI X hw si_cl3 3 (by decide) gf_RX3_27 rfl rfl rfl dX3_readMarket_62 ?_
    exact hret _ _ _ _ _ _ hf hw dX3_readMarket_65
  have B31 : ∀ (n31 : Nat) (x1 : Int32) (x3 : Int32) (S : si_St) (H : Heap) (locs : List Loc) (ls : Array Slot), f_X3_readMarket_l31 F k2 n31 x1 x3 S = some o → si_Ws E A s.heap S H locs → lv_has ls 4 [(0, .ref (E.2.1 1)), (1, .int x1), (2, .ref (E.2.1 k2)), (3, .int x3)] → W p l e rm_X3_readMarket s m args below meth c H locs 0 0 Q (F0 m 31 ls []) := by
    intro n31
    induction n31 with
    | zero => intro x1 x3  S H locs ls hf; cases hf
    | succ n31 ih31 =>
      intro x1 x3  S H locs ls hf hw hl
      have hf : f_X3_readMarket_h31 F k2 (f_X3_readMarket_l31 F k2 n31) x1 x3 S = some o := hf
      unfold f_X3_readMarket_h31 at hf
      refine lv_iload_n X.1 X.2.1 dX3_readMarket_31 rfl (lv_at hl 3 rfl) ?_
      refine lv_iload_n X.1 X.2.1 dX3_readMarket_32 rfl (lv_at hl 1 rfl) ?_
      refine lv_icmp_ge (tgt := 61) X.1 X.2.1 dX3_readMarket_33 (by decide) (fun c33 => ?_) (fun c33 => ?_)
      · have hf := si_ip c33 hf
        exact B61 _ _ _ _ hf hw (lv_sub hl [0] rfl)
      · have hf := si_in c33 hf
        refine lv_aload_n X.1 X.2.1 dX3_readMarket_36 rfl (lv_at hl 0 rfl) ?_
        refine si_getI X hw si_cl3 7 (by decide) gf_RX3_39 rfl rfl rfl dX3_readMarket_37 ?_
        refine lv_if_eq (tgt := 61) X.1 X.2.1 dX3_readMarket_40 (by decide) (fun c40 => ?_) (fun c40 => ?_)
        · have hf := si_ip c40 hf
          exact B61 _ _ _ _ hf hw (lv_sub hl [0] rfl)
        · have hf := si_in c40 hf
          refine lv_aload_n X.1 X.2.1 dX3_readMarket_43 rfl (lv_at hl 0 rfl) ?_
          refine si_getI X hw si_cl3 3 (by decide) gf_RX3_27 rfl rfl rfl dX3_readMarket_44 ?_
          refine lv_if_ne (tgt := 61) X.1 X.2.1 dX3_readMarket_47 (by decide) (fun c47 => ?_) (fun c47 => ?_)
          · have hf := si_in c47 hf
            exact B61 _ _ _ _ hf hw (lv_sub hl [0] rfl)
          · have hf := si_ip c47 hf
            refine lv_aload_n X.1 X.2.1 dX3_readMarket_50 rfl (lv_at hl 0 rfl) ?_
            refine lv_aload_n X.1 X.2.1 dX3_readMarket_51 rfl (lv_at hl 2 rfl) ?_
            obtain ⟨S1, eS1, hf⟩ := si_ob hf
            refine si_cVv [.ref (E.2.1 k2)] cal_X3_readStatement gm_RX3_42 X hw hA hl.1 (c_X3_readStatement l E F k2 hk2 S S1 eS1) si_cl3 rfl ⟨⟨rfl, rfl⟩, Nat.le_of_ble_eq_true rfl, Nat.le_of_ble_eq_true rfl⟩ rfl rfl (Nat.le_of_ble_eq_true rfl) ⟨Nat.zero_le _, Nat.zero_le _⟩ dX3_readMarket_52 (fun H locs hw => ?_)
            obtain ⟨v2, ev2, hf⟩ := si_ob hf
            refine lv_iinc (v := v2) (lv' := [(3, .int v2), (0, .ref (E.2.1 1)), (1, .int x1), (2, .ref (E.2.1 k2))]) X.1 X.2.1 dX3_readMarket_55 hl (k := 3) rfl (Option.some.inj ev2) (by decide) rfl (fun ls hl => ?_)
            refine lv_goto (tgt := 31) X.1 X.2.1 dX3_readMarket_58 (by decide) ?_
            exact ih31 _ _ _ _ _ _ hf hw (lv_sub hl [1, 2, 3, 0] rfl)
  unfold f_X3_readMarket at hf
  refine lv_aload_n X.1 X.2.1 dX3_readMarket_0 rfl (lv_at hl 2 rfl) ?_
  obtain ⟨S3, eS3, hf⟩ := si_ob hf
  refine si_cVv [] cal_X2_clear gm_RX3_22 X hw hA hl.1 (c_X2_clear l E F k2 hk2 S S3 eS3) si_cl2 hk2 ⟨⟨rfl, rfl⟩, Nat.le_of_ble_eq_true rfl, Nat.le_of_ble_eq_true rfl⟩ rfl rfl (Nat.le_of_ble_eq_true rfl) ⟨Nat.zero_le _, Nat.zero_le _⟩ dX3_readMarket_1 (fun H locs hw => ?_)
  refine lv_aload_n X.1 X.2.1 dX3_readMarket_4 rfl (lv_at hl 0 rfl) ?_
  refine lv_iconst (v := 0) X.1 X.2.1 dX3_readMarket_5 (by decide) ?_
  obtain ⟨S4, eS4, hf⟩ := si_ob hf
  refine si_ptI X hw si_cl3 3 (by decide) gf_RX3_27 rfl rfl rfl rfl rfl eS4 dX3_readMarket_6 (fun H locs hw => ?_)
  refine lv_aload_n X.1 X.2.1 dX3_readMarket_9 rfl (lv_at hl 0 rfl) ?_
  refine lv_bipush (v := (-2)) X.1 X.2.1 dX3_readMarket_10 (by decide) ?_
  obtain ⟨S5, eS5, hf⟩ := si_ob hf
  refine si_ptI X hw si_cl3 2 (by decide) gf_RX3_15 rfl rfl rfl rfl rfl eS5 dX3_readMarket_12 (fun H locs hw => ?_)
  refine lv_aload_n X.1 X.2.1 dX3_readMarket_15 rfl (lv_at hl 0 rfl) ?_
  refine lv_iload_n X.1 X.2.1 dX3_readMarket_16 rfl (lv_at hl 1 rfl) ?_
  obtain ⟨S6, eS6, hf⟩ := si_ob hf
  refine si_ptI X hw si_cl3 4 (by decide) gf_RX3_30 rfl rfl rfl rfl rfl eS6 dX3_readMarket_17 (fun H locs hw => ?_)
  refine lv_aload_n X.1 X.2.1 dX3_readMarket_20 rfl (lv_at hl 0 rfl) ?_
  refine lv_iconst (v := 0) X.1 X.2.1 dX3_readMarket_21 (by decide) ?_
  obtain ⟨S7, eS7, hf⟩ := si_ob hf
  refine si_ptI X hw si_cl3 6 (by decide) gf_RX3_33 rfl rfl rfl rfl rfl eS7 dX3_readMarket_22 (fun H locs hw => ?_)
  refine lv_aload_n X.1 X.2.1 dX3_readMarket_25 rfl (lv_at hl 0 rfl) ?_
  obtain ⟨S8, eS8, hf⟩ := si_ob hf
  refine si_cVv [] cal_X3_advance gm_RX3_36 X hw hA hl.1 (c_X3_advance l E F S7 S8 eS8) si_cl3 rfl ⟨⟨rfl, rfl⟩, Nat.le_of_ble_eq_true rfl, Nat.le_of_ble_eq_true rfl⟩ rfl rfl (Nat.le_of_ble_eq_true rfl) ⟨Nat.zero_le _, Nat.zero_le _⟩ dX3_readMarket_26 (fun H locs hw => ?_)
  refine lv_iconst (v := 0) X.1 X.2.1 dX3_readMarket_29 (by decide) ?_
  refine lv_istore_n (lv' := [(3, .int 0), (0, .ref (E.2.1 1)), (1, .int x1), (2, .ref (E.2.1 k2))]) X.1 X.2.1 dX3_readMarket_30 rfl hl (by decide) rfl (fun ls hl => ?_)
  exact B31 F _ _ _ _ _ _ hf hw (lv_sub hl [1, 2, 3, 0] rfl)

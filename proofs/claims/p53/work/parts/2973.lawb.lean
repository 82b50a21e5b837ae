theorem sd_ble1 {a d : Nat} (h : Nat.ble a 2 = true) : a ≤ d + 2 := Nat.le_trans (Nat.le_of_ble_eq_true h) (Nat.le_add_left 2 d)
theorem sd_ble2 {a d : Nat} (h : Nat.ble a 59 = true) : a ≤ 29 * d + 59 := Nat.le_trans (Nat.le_of_ble_eq_true h) (Nat.le_add_left 59 _)
theorem dL_said_0 : decode cL_said 0 = .ok (.iconst 0, 1) := by decide +kernel
theorem dL_said_1 : decode cL_said 1 = .ok (.istore 4, 2) := by decide +kernel
theorem dL_said_3 : decode cL_said 3 = .ok (.iconst 0, 1) := by decide +kernel
theorem dL_said_4 : decode cL_said 4 = .ok (.istore 5, 2) := by decide +kernel
theorem dL_said_6 : decode cL_said 6 = .ok (.bipush (-2), 2) := by decide +kernel
theorem dL_said_8 : decode cL_said 8 = .ok (.istore 6, 2) := by decide +kernel
theorem dL_said_10 : decode cL_said 10 = .ok (.iconst 0, 1) := by decide +kernel
theorem dL_said_11 : decode cL_said 11 = .ok (.istore 7, 2) := by decide +kernel
theorem dL_said_13 : decode cL_said 13 = .ok (.iload 7, 2) := by decide +kernel
theorem dL_said_15 : decode cL_said 15 = .ok (.iconst 1, 1) := by decide +kernel
theorem dL_said_16 : decode cL_said 16 = .ok (.iconst 2, 1) := by decide +kernel
theorem dL_said_17 : decode cL_said 17 = .ok (.iload_n 2, 1) := by decide +kernel
theorem dL_said_18 : decode cL_said 18 = .ok (.imul, 1) := by decide +kernel
theorem dL_said_19 : decode cL_said 19 = .ok (.iadd, 1) := by decide +kernel
theorem dL_said_20 : decode cL_said 20 = .ok (.if_icmp .ge 76, 3) := by decide +kernel
theorem dL_said_23 : decode cL_said 23 = .ok (.iload_n 3, 1) := by decide +kernel
theorem dL_said_24 : decode cL_said 24 = .ok (.iload 7, 2) := by decide +kernel
theorem dL_said_26 : decode cL_said 26 = .ok (.ishr, 1) := by decide +kernel
theorem dL_said_27 : decode cL_said 27 = .ok (.iconst 1, 1) := by decide +kernel
theorem dL_said_28 : decode cL_said 28 = .ok (.iand, 1) := by decide +kernel
theorem dL_said_29 : decode cL_said 29 = .ok (.ifCond .ne 6, 3) := by decide +kernel
theorem dL_said_32 : decode cL_said 32 = .ok (.goto 58, 3) := by decide +kernel
theorem dL_said_35 : decode cL_said 35 = .ok (.iload 7, 2) := by decide +kernel
theorem dL_said_37 : decode cL_said 37 = .ok (.ifCond .le 24, 3) := by decide +kernel
theorem dL_said_40 : decode cL_said 40 = .ok (.iload 7, 2) := by decide +kernel
theorem dL_said_42 : decode cL_said 42 = .ok (.iconst 2, 1) := by decide +kernel
theorem dL_said_43 : decode cL_said 43 = .ok (.irem, 1) := by decide +kernel
theorem dL_said_44 : decode cL_said 44 = .ok (.iconst 1, 1) := by decide +kernel
theorem dL_said_45 : decode cL_said 45 = .ok (.if_icmp .ne 16, 3) := by decide +kernel
theorem dL_said_48 : decode cL_said 48 = .ok (.iload 4, 2) := by decide +kernel
theorem dL_said_50 : decode cL_said 50 = .ok (.iconst 1, 1) := by decide +kernel
theorem dL_said_51 : decode cL_said 51 = .ok (.iload 7, 2) := by decide +kernel
theorem dL_said_53 : decode cL_said 53 = .ok (.iconst 1, 1) := by decide +kernel
theorem dL_said_54 : decode cL_said 54 = .ok (.isub, 1) := by decide +kernel
theorem dL_said_55 : decode cL_said 55 = .ok (.iconst 2, 1) := by decide +kernel
theorem dL_said_56 : decode cL_said 56 = .ok (.idiv, 1) := by decide +kernel
theorem dL_said_57 : decode cL_said 57 = .ok (.ishl, 1) := by decide +kernel
theorem dL_said_58 : decode cL_said 58 = .ok (.ior, 1) := by decide +kernel
theorem dL_said_59 : decode cL_said 59 = .ok (.istore 4, 2) := by decide +kernel
theorem dL_said_61 : decode cL_said 61 = .ok (.iload 7, 2) := by decide +kernel
theorem dL_said_63 : decode cL_said 63 = .ok (.ifCond .le 23, 3) := by decide +kernel
theorem dL_said_66 : decode cL_said 66 = .ok (.iload 7, 2) := by decide +kernel
theorem dL_said_68 : decode cL_said 68 = .ok (.iconst 2, 1) := by decide +kernel
theorem dL_said_69 : decode cL_said 69 = .ok (.irem, 1) := by decide +kernel
theorem dL_said_70 : decode cL_said 70 = .ok (.ifCond .ne 16, 3) := by decide +kernel
theorem dL_said_73 : decode cL_said 73 = .ok (.iload 5, 2) := by decide +kernel
theorem dL_said_75 : decode cL_said 75 = .ok (.iconst 1, 1) := by decide +kernel
theorem dL_said_76 : decode cL_said 76 = .ok (.iload 7, 2) := by decide +kernel
theorem dL_said_78 : decode cL_said 78 = .ok (.iconst 1, 1) := by decide +kernel
theorem dL_said_79 : decode cL_said 79 = .ok (.isub, 1) := by decide +kernel
theorem dL_said_80 : decode cL_said 80 = .ok (.iconst 2, 1) := by decide +kernel
theorem dL_said_81 : decode cL_said 81 = .ok (.idiv, 1) := by decide +kernel
theorem dL_said_82 : decode cL_said 82 = .ok (.ishl, 1) := by decide +kernel
theorem dL_said_83 : decode cL_said 83 = .ok (.ior, 1) := by decide +kernel
theorem dL_said_84 : decode cL_said 84 = .ok (.istore 5, 2) := by decide +kernel
theorem dL_said_86 : decode cL_said 86 = .ok (.iload 7, 2) := by decide +kernel
theorem dL_said_88 : decode cL_said 88 = .ok (.istore 6, 2) := by decide +kernel
theorem dL_said_90 : decode cL_said 90 = .ok (.iinc 7 1, 3) := by decide +kernel
theorem dL_said_93 : decode cL_said 93 = .ok (.goto (-80), 3) := by decide +kernel
theorem dL_said_96 : decode cL_said 96 = .ok (.iload_n 3, 1) := by decide +kernel
theorem dL_said_97 : decode cL_said 97 = .ok (.invokestatic 98, 3) := by decide +kernel
theorem dL_said_100 : decode cL_said 100 = .ok (.istore 7, 2) := by decide +kernel
theorem dL_said_102 : decode cL_said 102 = .ok (.aload_n 0, 1) := by decide +kernel
theorem dL_said_103 : decode cL_said 103 = .ok (.iload_n 1, 1) := by decide +kernel
theorem dL_said_104 : decode cL_said 104 = .ok (.invokevirtual 131, 3) := by decide +kernel
theorem dL_said_107 : decode cL_said 107 = .ok (.iload 4, 2) := by decide +kernel
theorem dL_said_109 : decode cL_said 109 = .ok (.if_icmp .ne 59, 3) := by decide +kernel
theorem dL_said_112 : decode cL_said 112 = .ok (.aload_n 0, 1) := by decide +kernel
theorem dL_said_113 : decode cL_said 113 = .ok (.iload_n 1, 1) := by decide +kernel
theorem dL_said_114 : decode cL_said 114 = .ok (.invokevirtual 134, 3) := by decide +kernel
theorem dL_said_117 : decode cL_said 117 = .ok (.iload 5, 2) := by decide +kernel
theorem dL_said_119 : decode cL_said 119 = .ok (.if_icmp .ne 49, 3) := by decide +kernel
theorem dL_said_122 : decode cL_said 122 = .ok (.aload_n 0, 1) := by decide +kernel
theorem dL_said_123 : decode cL_said 123 = .ok (.iload_n 1, 1) := by decide +kernel
theorem dL_said_124 : decode cL_said 124 = .ok (.invokevirtual 137, 3) := by decide +kernel
theorem dL_said_127 : decode cL_said 127 = .ok (.iload_n 3, 1) := by decide +kernel
theorem dL_said_128 : decode cL_said 128 = .ok (.iconst 1, 1) := by decide +kernel
theorem dL_said_129 : decode cL_said 129 = .ok (.iand, 1) := by decide +kernel
theorem dL_said_130 : decode cL_said 130 = .ok (.if_icmp .ne 38, 3) := by decide +kernel
theorem dL_said_133 : decode cL_said 133 = .ok (.aload_n 0, 1) := by decide +kernel
theorem dL_said_134 : decode cL_said 134 = .ok (.iload_n 1, 1) := by decide +kernel
theorem dL_said_135 : decode cL_said 135 = .ok (.invokevirtual 140, 3) := by decide +kernel
theorem dL_said_138 : decode cL_said 138 = .ok (.iload 7, 2) := by decide +kernel
theorem dL_said_140 : decode cL_said 140 = .ok (.if_icmp .ne 28, 3) := by decide +kernel
theorem dL_said_143 : decode cL_said 143 = .ok (.aload_n 0, 1) := by decide +kernel
theorem dL_said_144 : decode cL_said 144 = .ok (.iload_n 1, 1) := by decide +kernel
theorem dL_said_145 : decode cL_said 145 = .ok (.invokevirtual 143, 3) := by decide +kernel
theorem dL_said_148 : decode cL_said 148 = .ok (.iload 7, 2) := by decide +kernel
theorem dL_said_150 : decode cL_said 150 = .ok (.iconst 1, 1) := by decide +kernel
theorem dL_said_151 : decode cL_said 151 = .ok (.if_icmp .ne 8, 3) := by decide +kernel
theorem dL_said_154 : decode cL_said 154 = .ok (.iload 6, 2) := by decide +kernel
theorem dL_said_156 : decode cL_said 156 = .ok (.goto 5, 3) := by decide +kernel
theorem dL_said_159 : decode cL_said 159 = .ok (.bipush (-2), 2) := by decide +kernel
theorem dL_said_161 : decode cL_said 161 = .ok (.if_icmp .ne 7, 3) := by decide +kernel
theorem dL_said_164 : decode cL_said 164 = .ok (.iconst 1, 1) := by decide +kernel
theorem dL_said_165 : decode cL_said 165 = .ok (.goto 4, 3) := by decide +kernel
theorem dL_said_168 : decode cL_said 168 = .ok (.iconst 0, 1) := by decide +kernel
theorem dL_said_169 : decode cL_said 169 = .ok (.ireturn, 1) := by decide +kernel
theorem dL_isEnough_0 : decode cL_isEnough 0 = .ok (.iload_n 0, 1) := by decide +kernel
theorem dL_isEnough_1 : decode cL_isEnough 1 = .ok (.invokestatic 98, 3) := by decide +kernel
theorem dL_isEnough_4 : decode cL_isEnough 4 = .ok (.istore_n 3, 1) := by decide +kernel
theorem dL_isEnough_5 : decode cL_isEnough 5 = .ok (.iload_n 3, 1) := by decide +kernel
theorem dL_isEnough_6 : decode cL_isEnough 6 = .ok (.iconst 2, 1) := by decide +kernel
theorem dL_isEnough_7 : decode cL_isEnough 7 = .ok (.if_icmp .ge 5, 3) := by decide +kernel
theorem dL_isEnough_10 : decode cL_isEnough 10 = .ok (.iconst 1, 1) := by decide +kernel
theorem dL_isEnough_11 : decode cL_isEnough 11 = .ok (.ireturn, 1) := by decide +kernel
theorem dL_isEnough_12 : decode cL_isEnough 12 = .ok (.iconst 1, 1) := by decide +kernel
theorem dL_isEnough_13 : decode cL_isEnough 13 = .ok (.istore 4, 2) := by decide +kernel
theorem dL_isEnough_15 : decode cL_isEnough 15 = .ok (.iconst 0, 1) := by decide +kernel
theorem dL_isEnough_16 : decode cL_isEnough 16 = .ok (.istore 5, 2) := by decide +kernel
theorem dL_isEnough_18 : decode cL_isEnough 18 = .ok (.iload 5, 2) := by decide +kernel
theorem dL_isEnough_20 : decode cL_isEnough 20 = .ok (.iload_n 2, 1) := by decide +kernel
theorem dL_isEnough_21 : decode cL_isEnough 21 = .ok (.if_icmp .ge 15, 3) := by decide +kernel
theorem dL_isEnough_24 : decode cL_isEnough 24 = .ok (.iload 4, 2) := by decide +kernel
theorem dL_isEnough_26 : decode cL_isEnough 26 = .ok (.iconst 3, 1) := by decide +kernel
theorem dL_isEnough_27 : decode cL_isEnough 27 = .ok (.imul, 1) := by decide +kernel
theorem dL_isEnough_28 : decode cL_isEnough 28 = .ok (.istore 4, 2) := by decide +kernel
theorem dL_isEnough_30 : decode cL_isEnough 30 = .ok (.iinc 5 1, 3) := by decide +kernel
theorem dL_isEnough_33 : decode cL_isEnough 33 = .ok (.goto (-15), 3) := by decide +kernel
theorem dL_isEnough_36 : decode cL_isEnough 36 = .ok (.iload_n 3, 1) := by decide +kernel
theorem dL_isEnough_37 : decode cL_isEnough 37 = .ok (.iload 4, 2) := by decide +kernel
theorem dL_isEnough_39 : decode cL_isEnough 39 = .ok (.if_icmp .le 5, 3) := by decide +kernel
theorem dL_isEnough_42 : decode cL_isEnough 42 = .ok (.iconst 0, 1) := by decide +kernel
theorem dL_isEnough_43 : decode cL_isEnough 43 = .ok (.ireturn, 1) := by decide +kernel
theorem dL_isEnough_44 : decode cL_isEnough 44 = .ok (.iconst 1, 1) := by decide +kernel
theorem dL_isEnough_45 : decode cL_isEnough 45 = .ok (.istore 5, 2) := by decide +kernel
theorem dL_isEnough_47 : decode cL_isEnough 47 = .ok (.iload 5, 2) := by decide +kernel
theorem dL_isEnough_49 : decode cL_isEnough 49 = .ok (.iconst 1, 1) := by decide +kernel
theorem dL_isEnough_50 : decode cL_isEnough 50 = .ok (.iload_n 1, 1) := by decide +kernel
theorem dL_isEnough_51 : decode cL_isEnough 51 = .ok (.ishl, 1) := by decide +kernel
theorem dL_isEnough_52 : decode cL_isEnough 52 = .ok (.if_icmp .ge 163, 3) := by decide +kernel
theorem dL_isEnough_55 : decode cL_isEnough 55 = .ok (.iconst 1, 1) := by decide +kernel
theorem dL_isEnough_56 : decode cL_isEnough 56 = .ok (.istore 6, 2) := by decide +kernel
theorem dL_isEnough_58 : decode cL_isEnough 58 = .ok (.iload 6, 2) := by decide +kernel
theorem dL_isEnough_60 : decode cL_isEnough 60 = .ok (.iload 5, 2) := by decide +kernel
theorem dL_isEnough_62 : decode cL_isEnough 62 = .ok (.if_icmp .ge 147, 3) := by decide +kernel
theorem dL_isEnough_65 : decode cL_isEnough 65 = .ok (.iload 5, 2) := by decide +kernel
theorem dL_isEnough_67 : decode cL_isEnough 67 = .ok (.iload 6, 2) := by decide +kernel
theorem dL_isEnough_69 : decode cL_isEnough 69 = .ok (.iand, 1) := by decide +kernel
theorem dL_isEnough_70 : decode cL_isEnough 70 = .ok (.ifCond .ne 133, 3) := by decide +kernel
theorem dL_isEnough_73 : decode cL_isEnough 73 = .ok (.iload 5, 2) := by decide +kernel
theorem dL_isEnough_75 : decode cL_isEnough 75 = .ok (.invokestatic 98, 3) := by decide +kernel
theorem dL_isEnough_78 : decode cL_isEnough 78 = .ok (.iload 6, 2) := by decide +kernel
theorem dL_isEnough_80 : decode cL_isEnough 80 = .ok (.invokestatic 98, 3) := by decide +kernel
theorem dL_isEnough_83 : decode cL_isEnough 83 = .ok (.if_icmp .eq 6, 3) := by decide +kernel
theorem dL_isEnough_86 : decode cL_isEnough 86 = .ok (.goto 117, 3) := by decide +kernel
theorem dL_isEnough_89 : decode cL_isEnough 89 = .ok (.iconst 3, 1) := by decide +kernel
theorem dL_isEnough_90 : decode cL_isEnough 90 = .ok (.newarray .int, 2) := by decide +kernel
theorem dL_isEnough_92 : decode cL_isEnough 92 = .ok (.astore 7, 2) := by decide +kernel
theorem dL_isEnough_94 : decode cL_isEnough 94 = .ok (.iconst 0, 1) := by decide +kernel
theorem dL_isEnough_95 : decode cL_isEnough 95 = .ok (.istore 8, 2) := by decide +kernel
theorem dL_isEnough_97 : decode cL_isEnough 97 = .ok (.iload 8, 2) := by decide +kernel
theorem dL_isEnough_99 : decode cL_isEnough 99 = .ok (.iconst 1, 1) := by decide +kernel
theorem dL_isEnough_100 : decode cL_isEnough 100 = .ok (.iconst 2, 1) := by decide +kernel
theorem dL_isEnough_101 : decode cL_isEnough 101 = .ok (.iload_n 1, 1) := by decide +kernel
theorem dL_isEnough_102 : decode cL_isEnough 102 = .ok (.imul, 1) := by decide +kernel
theorem dL_isEnough_103 : decode cL_isEnough 103 = .ok (.iadd, 1) := by decide +kernel
theorem dL_isEnough_104 : decode cL_isEnough 104 = .ok (.if_icmp .ge 38, 3) := by decide +kernel
theorem dL_isEnough_107 : decode cL_isEnough 107 = .ok (.iload_n 0, 1) := by decide +kernel
theorem dL_isEnough_108 : decode cL_isEnough 108 = .ok (.iload 8, 2) := by decide +kernel
theorem dL_isEnough_110 : decode cL_isEnough 110 = .ok (.ishr, 1) := by decide +kernel
theorem dL_isEnough_111 : decode cL_isEnough 111 = .ok (.iconst 1, 1) := by decide +kernel
theorem dL_isEnough_112 : decode cL_isEnough 112 = .ok (.iand, 1) := by decide +kernel
theorem dL_isEnough_113 : decode cL_isEnough 113 = .ok (.iconst 1, 1) := by decide +kernel
theorem dL_isEnough_114 : decode cL_isEnough 114 = .ok (.if_icmp .ne 22, 3) := by decide +kernel
theorem dL_isEnough_117 : decode cL_isEnough 117 = .ok (.aload 7, 2) := by decide +kernel
theorem dL_isEnough_119 : decode cL_isEnough 119 = .ok (.iload 8, 2) := by decide +kernel
theorem dL_isEnough_121 : decode cL_isEnough 121 = .ok (.iload 5, 2) := by decide +kernel
theorem dL_isEnough_123 : decode cL_isEnough 123 = .ok (.iload 6, 2) := by decide +kernel
theorem dL_isEnough_125 : decode cL_isEnough 125 = .ok (.invokestatic 103, 3) := by decide +kernel
theorem dL_isEnough_128 : decode cL_isEnough 128 = .ok (.dup2, 1) := by decide +kernel
theorem dL_isEnough_129 : decode cL_isEnough 129 = .ok (.iaload, 1) := by decide +kernel
theorem dL_isEnough_130 : decode cL_isEnough 130 = .ok (.iconst 1, 1) := by decide +kernel
theorem dL_isEnough_131 : decode cL_isEnough 131 = .ok (.iload 8, 2) := by decide +kernel
theorem dL_isEnough_133 : decode cL_isEnough 133 = .ok (.ishl, 1) := by decide +kernel
theorem dL_isEnough_134 : decode cL_isEnough 134 = .ok (.ior, 1) := by decide +kernel
theorem dL_isEnough_135 : decode cL_isEnough 135 = .ok (.iastore, 1) := by decide +kernel
theorem dL_isEnough_136 : decode cL_isEnough 136 = .ok (.iinc 8 1, 3) := by decide +kernel
theorem dL_isEnough_139 : decode cL_isEnough 139 = .ok (.goto (-42), 3) := by decide +kernel
theorem dL_isEnough_142 : decode cL_isEnough 142 = .ok (.iconst 1, 1) := by decide +kernel
theorem dL_isEnough_143 : decode cL_isEnough 143 = .ok (.istore 8, 2) := by decide +kernel
theorem dL_isEnough_145 : decode cL_isEnough 145 = .ok (.iconst 0, 1) := by decide +kernel
theorem dL_isEnough_146 : decode cL_isEnough 146 = .ok (.istore 9, 2) := by decide +kernel
theorem dL_isEnough_148 : decode cL_isEnough 148 = .ok (.iload 9, 2) := by decide +kernel
theorem dL_isEnough_150 : decode cL_isEnough 150 = .ok (.iconst 3, 1) := by decide +kernel
theorem dL_isEnough_151 : decode cL_isEnough 151 = .ok (.if_icmp .ge 45, 3) := by decide +kernel
theorem dL_isEnough_154 : decode cL_isEnough 154 = .ok (.iload 8, 2) := by decide +kernel
theorem dL_isEnough_156 : decode cL_isEnough 156 = .ok (.ifCond .eq 40, 3) := by decide +kernel
theorem dL_isEnough_159 : decode cL_isEnough 159 = .ok (.aload 7, 2) := by decide +kernel
theorem dL_isEnough_161 : decode cL_isEnough 161 = .ok (.iload 9, 2) := by decide +kernel
theorem dL_isEnough_163 : decode cL_isEnough 163 = .ok (.iaload, 1) := by decide +kernel
theorem dL_isEnough_164 : decode cL_isEnough 164 = .ok (.iload_n 0, 1) := by decide +kernel
theorem dL_isEnough_165 : decode cL_isEnough 165 = .ok (.if_icmp .eq 22, 3) := by decide +kernel
theorem dL_isEnough_168 : decode cL_isEnough 168 = .ok (.aload 7, 2) := by decide +kernel
theorem dL_isEnough_170 : decode cL_isEnough 170 = .ok (.iload 9, 2) := by decide +kernel
theorem dL_isEnough_172 : decode cL_isEnough 172 = .ok (.iaload, 1) := by decide +kernel
theorem dL_isEnough_173 : decode cL_isEnough 173 = .ok (.iload_n 1, 1) := by decide +kernel
theorem dL_isEnough_174 : decode cL_isEnough 174 = .ok (.iload_n 2, 1) := by decide +kernel
theorem dL_isEnough_175 : decode cL_isEnough 175 = .ok (.iconst 1, 1) := by decide +kernel
theorem dL_isEnough_176 : decode cL_isEnough 176 = .ok (.isub, 1) := by decide +kernel
theorem dL_isEnough_177 : decode cL_isEnough 177 = .ok (.invokestatic 107, 3) := by decide +kernel
theorem dL_isEnough_180 : decode cL_isEnough 180 = .ok (.ifCond .eq 7, 3) := by decide +kernel
theorem dL_isEnough_183 : decode cL_isEnough 183 = .ok (.iconst 1, 1) := by decide +kernel
theorem dL_isEnough_184 : decode cL_isEnough 184 = .ok (.goto 4, 3) := by decide +kernel
theorem dL_isEnough_187 : decode cL_isEnough 187 = .ok (.iconst 0, 1) := by decide +kernel
theorem dL_isEnough_188 : decode cL_isEnough 188 = .ok (.istore 8, 2) := by decide +kernel
theorem dL_isEnough_190 : decode cL_isEnough 190 = .ok (.iinc 9 1, 3) := by decide +kernel
theorem dL_isEnough_193 : decode cL_isEnough 193 = .ok (.goto (-45), 3) := by decide +kernel
theorem dL_isEnough_196 : decode cL_isEnough 196 = .ok (.iload 8, 2) := by decide +kernel
theorem dL_isEnough_198 : decode cL_isEnough 198 = .ok (.ifCond .eq 5, 3) := by decide +kernel
theorem dL_isEnough_201 : decode cL_isEnough 201 = .ok (.iconst 1, 1) := by decide +kernel
theorem dL_isEnough_202 : decode cL_isEnough 202 = .ok (.ireturn, 1) := by decide +kernel
theorem dL_isEnough_203 : decode cL_isEnough 203 = .ok (.iinc 6 1, 3) := by decide +kernel
theorem dL_isEnough_206 : decode cL_isEnough 206 = .ok (.goto (-148), 3) := by decide +kernel
theorem dL_isEnough_209 : decode cL_isEnough 209 = .ok (.iinc 5 1, 3) := by decide +kernel
theorem dL_isEnough_212 : decode cL_isEnough 212 = .ok (.goto (-165), 3) := by decide +kernel
theorem dL_isEnough_215 : decode cL_isEnough 215 = .ok (.iconst 0, 1) := by decide +kernel
theorem dL_isEnough_216 : decode cL_isEnough 216 = .ok (.ireturn, 1) := by decide +kernel
def on_L_said : List Nat := []
def f_L_said_h169 (F : Nat) (t0 : Int32) (S : si_St) : Option (Int32 × si_St) :=
  Option.bind (si_bz t0) fun v1 => some (v1, S)
def f_L_said_h168 (F : Nat) (S : si_St) : Option (Int32 × si_St) :=
  f_L_said_h169 F 0 S
def f_L_said_h161 (F : Nat) (t0 : Int32) (t1 : Int32) (S : si_St) : Option (Int32 × si_St) :=
  if t1 = t0 then (f_L_said_h169 F 1 S) else (f_L_said_h168 F S)
def f_L_said_h90 (F : Nat) (r13 : Int32 → Int32 → Int32 → Int32 → Int32 → Int32 → Int32 → si_St → Option (Int32 × si_St)) (x1 : Int32) (x2 : Int32) (x3 : Int32) (x4 : Int32) (x5 : Int32) (x6 : Int32) (x7 : Int32) (S : si_St) : Option (Int32 × si_St) :=
  Option.bind (some (x7 + 1)) fun v2 => r13 x1 x2 x3 x4 x5 x6 v2 S
def f_L_said_h86 (F : Nat) (r13 : Int32 → Int32 → Int32 → Int32 → Int32 → Int32 → Int32 → si_St → Option (Int32 × si_St)) (x1 : Int32) (x2 : Int32) (x3 : Int32) (x4 : Int32) (x5 : Int32) (x7 : Int32) (S : si_St) : Option (Int32 × si_St) :=
  f_L_said_h90 F r13 x1 x2 x3 x4 x5 x7 x7 S
def f_L_said_h61 (F : Nat) (r13 : Int32 → Int32 → Int32 → Int32 → Int32 → Int32 → Int32 → si_St → Option (Int32 × si_St)) (x1 : Int32) (x2 : Int32) (x3 : Int32) (x4 : Int32) (x5 : Int32) (x7 : Int32) (S : si_St) : Option (Int32 × si_St) :=
  if x7 ≤ 0 then (f_L_said_h86 F r13 x1 x2 x3 x4 x5 x7 S) else (if (x7 - x7 / 2 * 2) = 0 then (Option.bind (some (x5 ||| (1 <<< (((x7 - 1) / 2) &&& 31)))) fun v3 => f_L_said_h86 F r13 x1 x2 x3 x4 v3 x7 S) else (f_L_said_h86 F r13 x1 x2 x3 x4 x5 x7 S))
def f_L_said_h13 (F : Nat) (r13 : Int32 → Int32 → Int32 → Int32 → Int32 → Int32 → Int32 → si_St → Option (Int32 × si_St)) (x1 : Int32) (x2 : Int32) (x3 : Int32) (x4 : Int32) (x5 : Int32) (x6 : Int32) (x7 : Int32) (S : si_St) : Option (Int32 × si_St) :=
  if (1 + (2 * x2)) ≤ x7 then (Option.bind (f_J6_bitCount_0f7a4 F x3 S) fun q4 => Option.bind (f_X9_heavySuspects F x1 q4.2) fun q5 => if q5.1 = x4 then (Option.bind (f_X9_lightSuspects F x1 q5.2) fun q6 => if q6.1 = x5 then (Option.bind (f_X9_canBeGenuine F x1 q6.2) fun q7 => if q7.1 = (x3 &&& 1) then (Option.bind (f_X9_hypothesisCount F x1 q7.2) fun q8 => if q8.1 = q4.1 then (Option.bind (f_X9_finding F x1 q8.2) fun q9 => if q4.1 = 1 then (f_L_said_h161 F x6 q9.1 q9.2) else (f_L_said_h161 F (-2) q9.1 q9.2)) else (f_L_said_h168 F q8.2)) else (f_L_said_h168 F q7.2)) else (f_L_said_h168 F q6.2)) else (f_L_said_h168 F q5.2)) else (if ((x3 >>> (x7 &&& 31)) &&& 1) = 0 then (f_L_said_h90 F r13 x1 x2 x3 x4 x5 x6 x7 S) else (if x7 ≤ 0 then (f_L_said_h61 F r13 x1 x2 x3 x4 x5 x7 S) else (if (x7 - x7 / 2 * 2) = 1 then (Option.bind (some (x4 ||| (1 <<< (((x7 - 1) / 2) &&& 31)))) fun v10 => f_L_said_h61 F r13 x1 x2 x3 v10 x5 x7 S) else (f_L_said_h61 F r13 x1 x2 x3 x4 x5 x7 S))))
def f_L_said_l13 (F : Nat) : Nat → Int32 → Int32 → Int32 → Int32 → Int32 → Int32 → Int32 → si_St → Option (Int32 × si_St)
 | 0 => fun _ _ _ _ _ _ _ _ => none
 | n + 1 => fun x1 x2 x3 x4 x5 x6 x7 S => f_L_said_h13 F (f_L_said_l13 F n) x1 x2 x3 x4 x5 x6 x7 S
def f_L_said (F : Nat) (x1 : Int32) (x2 : Int32) (x3 : Int32) (S : si_St) : Option (Int32 × si_St) :=
  f_L_said_l13 F F x1 x2 x3 0 0 (-2) 0 S
theorem fr_L_said_h169 (F : Nat) (t0 : Int32) (S : si_St) (o : Int32 × si_St) (h : f_L_said_h169 F t0 S = some o) : sd_on on_L_said S o.2 := by
  have g : sd_on on_L_said S S := sd_on.rf
  unfold f_L_said_h169 at h
  obtain ⟨v1, ev1, h⟩ := si_ob h
  obtain rfl := Option.some.inj h
  exact g
theorem fr_L_said_h168 (F : Nat) (S : si_St) (o : Int32 × si_St) (h : f_L_said_h168 F S = some o) : sd_on on_L_said S o.2 := by
  have g : sd_on on_L_said S S := sd_on.rf
  unfold f_L_said_h168 at h
  exact g.tr (fr_L_said_h169 F _ _ _ h)
theorem fr_L_said_h161 (F : Nat) (t0 : Int32) (t1 : Int32) (S : si_St) (o : Int32 × si_St) (h : f_L_said_h161 F t0 t1 S = some o) : sd_on on_L_said S o.2 := by
  have g : sd_on on_L_said S S := sd_on.rf
  unfold f_L_said_h161 at h
  rcases Decidable.em (t1 = t0) with c161 | c161
  · have h := si_ip c161 h
    exact g.tr (fr_L_said_h169 F _ _ _ h)
  · have h := si_in c161 h
    exact g.tr (fr_L_said_h168 F _ _ h)
theorem fr_L_said_h90 (F : Nat) (r13 : Int32 → Int32 → Int32 → Int32 → Int32 → Int32 → Int32 → si_St → Option (Int32 × si_St)) (hr13 : ∀ (x1 : Int32) (x2 : Int32) (x3 : Int32) (x4 : Int32) (x5 : Int32) (x6 : Int32) (x7 : Int32) (S : si_St) (o : Int32 × si_St), r13 x1 x2 x3 x4 x5 x6 x7 S = some o → sd_on on_L_said S o.2) (x1 : Int32) (x2 : Int32) (x3 : Int32) (x4 : Int32) (x5 : Int32) (x6 : Int32) (x7 : Int32) (S : si_St) (o : Int32 × si_St) (h : f_L_said_h90 F r13 x1 x2 x3 x4 x5 x6 x7 S = some o) : sd_on on_L_said S o.2 := by
  have g : sd_on on_L_said S S := sd_on.rf
  unfold f_L_said_h90 at h
  obtain ⟨v2, ev2, h⟩ := si_ob h
  exact g.tr (hr13 _ _ _ _ _ _ _ _ _ h)
theorem fr_L_said_h86 (F : Nat) (r13 : Int32 → Int32 → Int32 → Int32 → Int32 → Int32 → Int32 → si_St → Option (Int32 × si_St)) (hr13 : ∀ (x1 : Int32) (x2 : Int32) (x3 : Int32) (x4 : Int32) (x5 : Int32) (x6 : Int32) (x7 : Int32) (S : si_St) (o : Int32 × si_St), r13 x1 x2 x3 x4 x5 x6 x7 S = some o → sd_on on_L_said S o.2) (x1 : Int32) (x2 : Int32) (x3 : Int32) (x4 : Int32) (x5 : Int32) (x7 : Int32) (S : si_St) (o : Int32 × si_St) (h : f_L_said_h86 F r13 x1 x2 x3 x4 x5 x7 S = some o) : sd_on on_L_said S o.2 := by
  have g : sd_on on_L_said S S := sd_on.rf
  unfold f_L_said_h86 at h
  exact g.tr (fr_L_said_h90 F r13 hr13 _ _ _ _ _ _ _ _ _ h)
theorem fr_L_said_h61 (F : Nat) (r13 : Int32 → Int32 → Int32 → Int32 → Int32 → Int32 → Int32 → si_St → Option (Int32 × si_St)) (hr13 : ∀ (x1 : Int32) (x2 : Int32) (x3 : Int32) (x4 : Int32) (x5 : Int32) (x6 : Int32) (x7 : Int32) (S : si_St) (o : Int32 × si_St), r13 x1 x2 x3 x4 x5 x6 x7 S = some o → sd_on on_L_said S o.2) (x1 : Int32) (x2 : Int32) (x3 : Int32) (x4 : Int32) (x5 : Int32) (x7 : Int32) (S : si_St) (o : Int32 × si_St) (h : f_L_said_h61 F r13 x1 x2 x3 x4 x5 x7 S = some o) : sd_on on_L_said S o.2 := by
  have g : sd_on on_L_said S S := sd_on.rf
  unfold f_L_said_h61 at h
  rcases Decidable.em (x7 ≤ 0) with c63 | c63
  · have h := si_ip c63 h
    exact g.tr (fr_L_said_h86 F r13 hr13 _ _ _ _ _ _ _ _ h)
  · have h := si_in c63 h
    rcases Decidable.em ((x7 - x7 / 2 * 2) = 0) with c70 | c70
    · have h := si_ip c70 h
      obtain ⟨v3, ev3, h⟩ := si_ob h
      exact g.tr (fr_L_said_h86 F r13 hr13 _ _ _ _ _ _ _ _ h)
    · have h := si_in c70 h
      exact g.tr (fr_L_said_h86 F r13 hr13 _ _ _ _ _ _ _ _ h)
theorem fr_L_said_h13 (F : Nat) (r13 : Int32 → Int32 → Int32 → Int32 → Int32 → Int32 → Int32 → si_St → Option (Int32 × si_St)) (hr13 : ∀ (x1 : Int32) (x2 : Int32) (x3 : Int32) (x4 : Int32) (x5 : Int32) (x6 : Int32) (x7 : Int32) (S : si_St) (o : Int32 × si_St), r13 x1 x2 x3 x4 x5 x6 x7 S = some o → sd_on on_L_said S o.2) (x1 : Int32) (x2 : Int32) (x3 : Int32) (x4 : Int32) (x5 : Int32) (x6 : Int32) (x7 : Int32) (S : si_St) (o : Int32 × si_St) (h : f_L_said_h13 F r13 x1 x2 x3 x4 x5 x6 x7 S = some o) : sd_on on_L_said S o.2 := by
  have g : sd_on on_L_said S S := sd_on.rf
  unfold f_L_said_h13 at h
  rcases Decidable.em ((1 + (2 * x2)) ≤ x7) with c20 | c20
  · have h := si_ip c20 h
    obtain ⟨q4, eq4, h⟩ := si_ob h
    have g := g.tr ((fr_J6_bitCount_0f7a4 F x3 S q4 eq4).mono (by decide))
    obtain ⟨q5, eq5, h⟩ := si_ob h
    have g := g.tr ((fr_X9_heavySuspects F x1 q4.2 q5 eq5).mono (by decide))
    rcases Decidable.em (q5.1 = x4) with c109 | c109
    · have h := si_ip c109 h
      obtain ⟨q6, eq6, h⟩ := si_ob h
      have g := g.tr ((fr_X9_lightSuspects F x1 q5.2 q6 eq6).mono (by decide))
      rcases Decidable.em (q6.1 = x5) with c119 | c119
      · have h := si_ip c119 h
        obtain ⟨q7, eq7, h⟩ := si_ob h
        have g := g.tr ((fr_X9_canBeGenuine F x1 q6.2 q7 eq7).mono (by decide))
        rcases Decidable.em (q7.1 = (x3 &&& 1)) with c130 | c130
        · have h := si_ip c130 h
          obtain ⟨q8, eq8, h⟩ := si_ob h
          have g := g.tr ((fr_X9_hypothesisCount F x1 q7.2 q8 eq8).mono (by decide))
          rcases Decidable.em (q8.1 = q4.1) with c140 | c140
          · have h := si_ip c140 h
            obtain ⟨q9, eq9, h⟩ := si_ob h
            have g := g.tr ((fr_X9_finding F x1 q8.2 q9 eq9).mono (by decide))
            rcases Decidable.em (q4.1 = 1) with c151 | c151
            · have h := si_ip c151 h
              exact g.tr (fr_L_said_h161 F _ _ _ _ h)
            · have h := si_in c151 h
              exact g.tr (fr_L_said_h161 F _ _ _ _ h)
          · have h := si_in c140 h
            exact g.tr (fr_L_said_h168 F _ _ h)
        · have h := si_in c130 h
          exact g.tr (fr_L_said_h168 F _ _ h)
      · have h := si_in c119 h
        exact g.tr (fr_L_said_h168 F _ _ h)
    · have h := si_in c109 h
      exact g.tr (fr_L_said_h168 F _ _ h)
  · have h := si_in c20 h
    rcases Decidable.em (((x3 >>> (x7 &&& 31)) &&& 1) = 0) with c29 | c29
    · have h := si_ip c29 h
      exact g.tr (fr_L_said_h90 F r13 hr13 _ _ _ _ _ _ _ _ _ h)
    · have h := si_in c29 h
      rcases Decidable.em (x7 ≤ 0) with c37 | c37
      · have h := si_ip c37 h
        exact g.tr (fr_L_said_h61 F r13 hr13 _ _ _ _ _ _ _ _ h)
      · have h := si_in c37 h
        rcases Decidable.em ((x7 - x7 / 2 * 2) = 1) with c45 | c45
        · have h := si_ip c45 h
          obtain ⟨v10, ev10, h⟩ := si_ob h
          exact g.tr (fr_L_said_h61 F r13 hr13 _ _ _ _ _ _ _ _ h)
        · have h := si_in c45 h
          exact g.tr (fr_L_said_h61 F r13 hr13 _ _ _ _ _ _ _ _ h)
theorem fr_L_said_l13 (F : Nat) : ∀ (n : Nat) (x1 : Int32) (x2 : Int32) (x3 : Int32) (x4 : Int32) (x5 : Int32) (x6 : Int32) (x7 : Int32) (S : si_St) (o : Int32 × si_St), f_L_said_l13 F n x1 x2 x3 x4 x5 x6 x7 S = some o → sd_on on_L_said S o.2 := by
  intro n
  induction n with
  | zero => intro x1 x2 x3 x4 x5 x6 x7 S o h; cases h
  | succ n ih =>
    intro x1 x2 x3 x4 x5 x6 x7 S o h
    exact fr_L_said_h13 F (f_L_said_l13 F n) ih x1 x2 x3 x4 x5 x6 x7 S o h
theorem fr_L_said (F : Nat) (x1 : Int32) (x2 : Int32) (x3 : Int32) (S : si_St) (o : Int32 × si_St) (h : f_L_said F x1 x2 x3 S = some o) : sd_on on_L_said S o.2 := by
  have g : sd_on on_L_said S S := sd_on.rf
  unfold f_L_said at h
  exact g.tr (fr_L_said_l13 F F _ _ _ _ _ _ _ _ _ h)
abbrev rm_L_said : Room := { frames := 4, cells := 0, slots := 0, locals := 83 }
set_option maxHeartbeats 4000000 in
set_option maxRecDepth 100000 in
theorem c_L_said (l : Launch) (E : si_Ev) (F : Nat) (x1 : Int32) (x2 : Int32) (x3 : Int32) (S : si_St) (o : Int32 × si_St) (hf : f_L_said F x1 x2 x3 S = some o) : si_Mi l E yL_said cL_said 8 (some .boolean) rm_L_said [.ref (E.2.1 0), .int x1, .int x2, .int x3] S o := by
  refine si_ofWz (plainFor_of_name (by decide +kernel)) (Nat.le_of_ble_eq_true rfl) ?_
  intro p e s m args below meth c ls Q A X hw hA hl hret
  have hl : lv_has ls 8 [(0, .ref (E.2.1 0)), (1, .int x1), (2, .int x2), (3, .int x3)] := hl
  have B169 : ∀ (t0 : Int32) (S : si_St) (H : Heap) (locs : List Loc) (ls : Array Slot), f_L_said_h169 F t0 S = some o → si_Ws E A s.heap S H locs → lv_has ls 8 [] → W p l e rm_L_said s m args below meth c H locs 0 0 Q (F0 m 169 ls [.int t0]) := by
    intro t0  S H locs ls hf hw hl
    unfold f_L_said_h169 at hf
    obtain ⟨v1, ev1, hf⟩ := si_ob hf
    exact hret _ _ _ _ _ _ (si_bzf ev1 hf) (si_nz (si_bz_inv ev1).1) hw dL_said_169
  have B168 : ∀ (S : si_St) (H : Heap) (locs : List Loc) (ls : Array Slot), f_L_said_h168 F S = some o → si_Ws E A s.heap S H locs → lv_has ls 8 [] → W p l e rm_L_said s m args below meth c H locs 0 0 Q (F0 m 168 ls []) := by
    intro   S H locs ls hf hw hl
    unfold f_L_said_h168 at hf
    refine lv_iconst (v := 0) X.1 X.2.1 dL_said_168 (by decide) ?_
    exact B169 _ _ _ _ _ hf hw (lv_sub hl [] rfl)
  have B161 : ∀ (t0 : Int32) (t1 : Int32) (S : si_St) (H : Heap) (locs : List Loc) (ls : Array Slot), f_L_said_h161 F t0 t1 S = some o → si_Ws E A s.heap S H locs → lv_has ls 8 [] → W p l e rm_L_said s m args below meth c H locs 0 0 Q (F0 m 161 ls [.int t0, .int t1]) := by
    intro t0 t1  S H locs ls hf hw hl
    unfold f_L_said_h161 at hf
    refine lv_icmp_ne (tgt := 168) X.1 X.2.1 dL_said_161 (by decide) (fun c161 => ?_) (fun c161 => ?_)
    · have hf := si_in c161 hf
      exact B168 _ _ _ _ hf hw (lv_sub hl [] rfl)
    · have hf := si_ip c161 hf
      refine lv_iconst (v := 1) X.1 X.2.1 dL_said_164 (by decide) ?_
      refine lv_goto (tgt := 169) X.1 X.2.1 dL_said_165 (by decide) ?_
      exact B169 _ _ _ _ _ hf hw (lv_sub hl [] rfl)
  have B13 : ∀ (n13 : Nat) (x1 : Int32) (x2 : Int32) (x3 : Int32) (x4 : Int32) (x5 : Int32) (x6 : Int32) (x7 : Int32) (S : si_St) (H : Heap) (locs : List Loc) (ls : Array Slot), f_L_said_l13 F n13 x1 x2 x3 x4 x5 x6 x7 S = some o → si_Ws E A s.heap S H locs → lv_has ls 8 [(0, .ref (E.2.1 0)), (1, .int x1), (2, .int x2), (3, .int x3), (4, .int x4), (5, .int x5), (6, .int x6), (7, .int x7)] → W p l e rm_L_said s m args below meth c H locs 0 0 Q (F0 m 13 ls []) := by
    intro n13
    induction n13 with
    | zero => intro x1 x2 x3 x4 x5 x6 x7  S H locs ls hf; cases hf
    | succ n13 ih13 =>
      have B90 : ∀ (x1 : Int32) (x2 : Int32) (x3 : Int32) (x4 : Int32) (x5 : Int32) (x6 : Int32) (x7 : Int32) (S : si_St) (H : Heap) (locs : List Loc) (ls : Array Slot), f_L_said_h90 F (f_L_said_l13 F n13) x1 x2 x3 x4 x5 x6 x7 S = some o → si_Ws E A s.heap S H locs → lv_has ls 8 [(0, .ref (E.2.1 0)), (1, .int x1), (2, .int x2), (3, .int x3), (4, .int x4), (5, .int x5), (6, .int x6), (7, .int x7)] → W p l e rm_L_said s m args below meth c H locs 0 0 Q (F0 m 90 ls []) := by
        intro x1 x2 x3 x4 x5 x6 x7  S H locs ls hf hw hl
        unfold f_L_said_h90 at hf
        obtain ⟨v2, ev2, hf⟩ := si_ob hf
        refine lv_iinc (v := v2) (lv' := [(7, .int v2), (0, .ref (E.2.1 0)), (1, .int x1), (2, .int x2), (3, .int x3), (4, .int x4), (5, .int x5), (6, .int x6)]) X.1 X.2.1 dL_said_90 hl (k := 7) rfl (Option.some.inj ev2) (by decide) rfl (fun ls hl => ?_)
        refine lv_goto (tgt := 13) X.1 X.2.1 dL_said_93 (by decide) ?_
        exact ih13 _ _ _ _ _ _ _ _ _ _ _ hf hw (lv_sub hl [1, 2, 3, 4, 5, 6, 7, 0] rfl)
      have B86 : ∀ (x1 : Int32) (x2 : Int32) (x3 : Int32) (x4 : Int32) (x5 : Int32) (x7 : Int32) (S : si_St) (H : Heap) (locs : List Loc) (ls : Array Slot), f_L_said_h86 F (f_L_said_l13 F n13) x1 x2 x3 x4 x5 x7 S = some o → si_Ws E A s.heap S H locs → lv_has ls 8 [(0, .ref (E.2.1 0)), (1, .int x1), (2, .int x2), (3, .int x3), (4, .int x4), (5, .int x5), (7, .int x7)] → W p l e rm_L_said s m args below meth c H locs 0 0 Q (F0 m 86 ls []) := by
        intro x1 x2 x3 x4 x5 x7  S H locs ls hf hw hl
        unfold f_L_said_h86 at hf
        refine lv_iload X.1 X.2.1 dL_said_86 (lv_at hl 6 rfl) ?_
        refine lv_istore (lv' := [(6, .int x7), (0, .ref (E.2.1 0)), (1, .int x1), (2, .int x2), (3, .int x3), (4, .int x4), (5, .int x5), (7, .int x7)]) X.1 X.2.1 dL_said_88 hl (by decide) rfl (fun ls hl => ?_)
        exact B90 _ _ _ _ _ _ _ _ _ _ _ hf hw (lv_sub hl [1, 2, 3, 4, 5, 6, 0, 7] rfl)
      have B61 : ∀ (x1 : Int32) (x2 : Int32) (x3 : Int32) (x4 : Int32) (x5 : Int32) (x7 : Int32) (S : si_St) (H : Heap) (locs : List Loc) (ls : Array Slot), f_L_said_h61 F (f_L_said_l13 F n13) x1 x2 x3 x4 x5 x7 S = some o → si_Ws E A s.heap S H locs → lv_has ls 8 [(0, .ref (E.2.1 0)), (1, .int x1), (2, .int x2), (3, .int x3), (4, .int x4), (5, .int x5), (7, .int x7)] → W p l e rm_L_said s m args below meth c H locs 0 0 Q (F0 m 61 ls []) := by
        intro x1 x2 x3 x4 x5 x7  S H locs ls hf hw hl
        unfold f_L_said_h61 at hf
        refine lv_iload X.1 X.2.1 dL_said_61 (lv_at hl 6 rfl) ?_
        refine lv_if_le (tgt := 86) X.1 X.2.1 dL_said_63 (by decide) (fun c63 => ?_) (fun c63 => ?_)
        · have hf := si_ip c63 hf
          exact B86 _ _ _ _ _ _ _ _ _ _ hf hw (lv_sub hl [0, 1, 2, 3, 4, 5, 6] rfl)
        · have hf := si_in c63 hf
          refine lv_iload X.1 X.2.1 dL_said_66 (lv_at hl 6 rfl) ?_
          refine lv_iconst (v := 2) X.1 X.2.1 dL_said_68 (by decide) ?_
          refine lv_irem X.1 X.2.1 dL_said_69 (by decide) ?_
          refine lv_if_ne (tgt := 86) X.1 X.2.1 dL_said_70 (by decide) (fun c70 => ?_) (fun c70 => ?_)
          · have hf := si_in c70 hf
            exact B86 _ _ _ _ _ _ _ _ _ _ hf hw (lv_sub hl [0, 1, 2, 3, 4, 5, 6] rfl)
          · have hf := si_ip c70 hf
            refine lv_iload X.1 X.2.1 dL_said_73 (lv_at hl 5 rfl) ?_
            refine lv_iconst (v := 1) X.1 X.2.1 dL_said_75 (by decide) ?_
            refine lv_iload X.1 X.2.1 dL_said_76 (lv_at hl 6 rfl) ?_
            refine lv_iconst (v := 1) X.1 X.2.1 dL_said_78 (by decide) ?_
            refine lv_isub X.1 X.2.1 dL_said_79 ?_
            refine lv_iconst (v := 2) X.1 X.2.1 dL_said_80 (by decide) ?_
            refine lv_idiv X.1 X.2.1 dL_said_81 (by decide) ?_
            refine lv_ishl X.1 X.2.1 dL_said_82 ?_
            refine lv_ior X.1 X.2.1 dL_said_83 ?_
            obtain ⟨v3, ev3, hf⟩ := si_ob hf
            refine si_nmI ev3 ?_
            refine lv_istore (lv' := [(5, .int v3), (0, .ref (E.2.1 0)), (1, .int x1), (2, .int x2), (3, .int x3), (4, .int x4), (7, .int x7)]) X.1 X.2.1 dL_said_84 hl (by decide) rfl (fun ls hl => ?_)
            exact B86 _ _ _ _ _ _ _ _ _ _ hf hw (lv_sub hl [1, 2, 3, 4, 5, 0, 6] rfl)
      intro x1 x2 x3 x4 x5 x6 x7  S H locs ls hf hw hl
      have hf : f_L_said_h13 F (f_L_said_l13 F n13) x1 x2 x3 x4 x5 x6 x7 S = some o := hf
      unfold f_L_said_h13 at hf
      refine lv_iload X.1 X.2.1 dL_said_13 (lv_at hl 7 rfl) ?_
      refine lv_iconst (v := 1) X.1 X.2.1 dL_said_15 (by decide) ?_
      refine lv_iconst (v := 2) X.1 X.2.1 dL_said_16 (by decide) ?_
      refine lv_iload_n X.1 X.2.1 dL_said_17 rfl (lv_at hl 2 rfl) ?_
      refine lv_imul X.1 X.2.1 dL_said_18 ?_
      refine lv_iadd X.1 X.2.1 dL_said_19 ?_
      refine lv_icmp_ge (tgt := 96) X.1 X.2.1 dL_said_20 (by decide) (fun c20 => ?_) (fun c20 => ?_)
      · have hf := si_ip c20 hf
        refine lv_iload_n X.1 X.2.1 dL_said_96 rfl (lv_at hl 3 rfl) ?_
        obtain ⟨q4, eq4, hf⟩ := si_ob hf
        refine si_cSi [.int x3] cal_J6_bitCount_0f7a4 gm_RL_98 X hw hA hl.1 (c_J6_bitCount_0f7a4 l E F x3 S q4 eq4) ⟨⟨rfl, rfl⟩, Nat.le_of_ble_eq_true rfl, Nat.le_of_ble_eq_true rfl⟩ rfl rfl (Nat.le_of_ble_eq_true rfl) ⟨Nat.zero_le _, Nat.zero_le _⟩ dL_said_97 (fun H locs hw => ?_)
        refine lv_istore (lv' := [(7, .int q4.1), (0, .ref (E.2.1 0)), (1, .int x1), (2, .int x2), (3, .int x3), (4, .int x4), (5, .int x5), (6, .int x6)]) X.1 X.2.1 dL_said_100 hl (by decide) rfl (fun ls hl => ?_)
        refine lv_aload_n X.1 X.2.1 dL_said_102 rfl (lv_at hl 1 rfl) ?_
        refine lv_iload_n X.1 X.2.1 dL_said_103 rfl (lv_at hl 2 rfl) ?_
        obtain ⟨q5, eq5, hf⟩ := si_ob hf
        refine si_cVi [.int x1] cal_X9_heavySuspects gm_RL_131 X hw hA hl.1 (c_X9_heavySuspects l E F x1 q4.2 q5 eq5) si_cl9 rfl ⟨⟨rfl, rfl⟩, Nat.le_of_ble_eq_true rfl, Nat.le_of_ble_eq_true rfl⟩ rfl rfl (Nat.le_of_ble_eq_true rfl) ⟨Nat.zero_le _, Nat.zero_le _⟩ dL_said_104 (fun H locs hw => ?_)
        refine lv_iload X.1 X.2.1 dL_said_107 (lv_at hl 5 rfl) ?_
        refine lv_icmp_ne (tgt := 168) X.1 X.2.1 dL_said_109 (by decide) (fun c109 => ?_) (fun c109 => ?_)
        · have hf := si_in c109 hf
          exact B168 _ _ _ _ hf hw (lv_sub hl [] rfl)
        · have hf := si_ip c109 hf
          refine lv_aload_n X.1 X.2.1 dL_said_112 rfl (lv_at hl 1 rfl) ?_
          refine lv_iload_n X.1 X.2.1 dL_said_113 rfl (lv_at hl 2 rfl) ?_
          obtain ⟨q6, eq6, hf⟩ := si_ob hf
          refine si_cVi [.int x1] cal_X9_lightSuspects gm_RL_134 X hw hA hl.1 (c_X9_lightSuspects l E F x1 q5.2 q6 eq6) si_cl9 rfl ⟨⟨rfl, rfl⟩, Nat.le_of_ble_eq_true rfl, Nat.le_of_ble_eq_true rfl⟩ rfl rfl (Nat.le_of_ble_eq_true rfl) ⟨Nat.zero_le _, Nat.zero_le _⟩ dL_said_114 (fun H locs hw => ?_)
          refine lv_iload X.1 X.2.1 dL_said_117 (lv_at hl 6 rfl) ?_
          refine lv_icmp_ne (tgt := 168) X.1 X.2.1 dL_said_119 (by decide) (fun c119 => ?_) (fun c119 => ?_)
          · have hf := si_in c119 hf
            exact B168 _ _ _ _ hf hw (lv_sub hl [] rfl)
          · have hf := si_ip c119 hf
            refine lv_aload_n X.1 X.2.1 dL_said_122 rfl (lv_at hl 1 rfl) ?_
            refine lv_iload_n X.1 X.2.1 dL_said_123 rfl (lv_at hl 2 rfl) ?_
            obtain ⟨q7, eq7, hf⟩ := si_ob hf
            refine si_cVi [.int x1] cal_X9_canBeGenuine gm_RL_137 X hw hA hl.1 (c_X9_canBeGenuine l E F x1 q6.2 q7 eq7) si_cl9 rfl ⟨⟨rfl, rfl⟩, Nat.le_of_ble_eq_true rfl, Nat.le_of_ble_eq_true rfl⟩ rfl rfl (Nat.le_of_ble_eq_true rfl) ⟨Nat.zero_le _, Nat.zero_le _⟩ dL_said_124 (fun H locs hw => ?_)
            refine lv_iload_n X.1 X.2.1 dL_said_127 rfl (lv_at hl 4 rfl) ?_
            refine lv_iconst (v := 1) X.1 X.2.1 dL_said_128 (by decide) ?_
            refine lv_iand X.1 X.2.1 dL_said_129 ?_
            refine lv_icmp_ne (tgt := 168) X.1 X.2.1 dL_said_130 (by decide) (fun c130 => ?_) (fun c130 => ?_)
            · have hf := si_in c130 hf
              exact B168 _ _ _ _ hf hw (lv_sub hl [] rfl)
            · have hf := si_ip c130 hf
              refine lv_aload_n X.1 X.2.1 dL_said_133 rfl (lv_at hl 1 rfl) ?_
              refine lv_iload_n X.1 X.2.1 dL_said_134 rfl (lv_at hl 2 rfl) ?_
              obtain ⟨q8, eq8, hf⟩ := si_ob hf
              refine si_cVi [.int x1] cal_X9_hypothesisCount gm_RL_140 X hw hA hl.1 (c_X9_hypothesisCount l E F x1 q7.2 q8 eq8) si_cl9 rfl ⟨⟨rfl, rfl⟩, Nat.le_of_ble_eq_true rfl, Nat.le_of_ble_eq_true rfl⟩ rfl rfl (Nat.le_of_ble_eq_true rfl) ⟨Nat.zero_le _, Nat.zero_le _⟩ dL_said_135 (fun H locs hw => ?_)
              refine lv_iload X.1 X.2.1 dL_said_138 (lv_at hl 0 rfl) ?_
              refine lv_icmp_ne (tgt := 168) X.1 X.2.1 dL_said_140 (by decide) (fun c140 => ?_) (fun c140 => ?_)
              · have hf := si_in c140 hf
                exact B168 _ _ _ _ hf hw (lv_sub hl [] rfl)
              · have hf := si_ip c140 hf
                refine lv_aload_n X.1 X.2.1 dL_said_143 rfl (lv_at hl 1 rfl) ?_
                refine lv_iload_n X.1 X.2.1 dL_said_144 rfl (lv_at hl 2 rfl) ?_
                obtain ⟨q9, eq9, hf⟩ := si_ob hf
                refine si_cVi [.int x1] cal_X9_finding gm_RL_143 X hw hA hl.1 (c_X9_finding l E F x1 q8.2 q9 eq9) si_cl9 rfl ⟨⟨rfl, rfl⟩, Nat.le_of_ble_eq_true rfl, Nat.le_of_ble_eq_true rfl⟩ rfl rfl (Nat.le_of_ble_eq_true rfl) ⟨Nat.zero_le _, Nat.zero_le _⟩ dL_said_145 (fun H locs hw => ?_)
                refine lv_iload X.1 X.2.1 dL_said_148 (lv_at hl 0 rfl) ?_
                refine lv_iconst (v := 1) X.1 X.2.1 dL_said_150 (by decide) ?_
                refine lv_icmp_ne (tgt := 159) X.1 X.2.1 dL_said_151 (by decide) (fun c151 => ?_) (fun c151 => ?_)
                · have hf := si_in c151 hf
                  refine lv_bipush (v := (-2)) X.1 X.2.1 dL_said_159 (by decide) ?_
                  exact B161 _ _ _ _ _ _ hf hw (lv_sub hl [] rfl)
                · have hf := si_ip c151 hf
                  refine lv_iload X.1 X.2.1 dL_said_154 (lv_at hl 7 rfl) ?_
                  refine lv_goto (tgt := 161) X.1 X.2.1 dL_said_156 (by decide) ?_
                  exact B161 _ _ _ _ _ _ hf hw (lv_sub hl [] rfl)
      · have hf := si_in c20 hf
        refine lv_iload_n X.1 X.2.1 dL_said_23 rfl (lv_at hl 3 rfl) ?_
        refine lv_iload X.1 X.2.1 dL_said_24 (lv_at hl 7 rfl) ?_
        refine lv_ishr X.1 X.2.1 dL_said_26 ?_
        refine lv_iconst (v := 1) X.1 X.2.1 dL_said_27 (by decide) ?_
        refine lv_iand X.1 X.2.1 dL_said_28 ?_
        refine lv_if_ne (tgt := 35) X.1 X.2.1 dL_said_29 (by decide) (fun c29 => ?_) (fun c29 => ?_)
        · have hf := si_in c29 hf
          refine lv_iload X.1 X.2.1 dL_said_35 (lv_at hl 7 rfl) ?_
          refine lv_if_le (tgt := 61) X.1 X.2.1 dL_said_37 (by decide) (fun c37 => ?_) (fun c37 => ?_)
          · have hf := si_ip c37 hf
            exact B61 _ _ _ _ _ _ _ _ _ _ hf hw (lv_sub hl [0, 1, 2, 3, 4, 5, 7] rfl)
          · have hf := si_in c37 hf
            refine lv_iload X.1 X.2.1 dL_said_40 (lv_at hl 7 rfl) ?_
            refine lv_iconst (v := 2) X.1 X.2.1 dL_said_42 (by decide) ?_
            refine lv_irem X.1 X.2.1 dL_said_43 (by decide) ?_
            refine lv_iconst (v := 1) X.1 X.2.1 dL_said_44 (by decide) ?_
            refine lv_icmp_ne (tgt := 61) X.1 X.2.1 dL_said_45 (by decide) (fun c45 => ?_) (fun c45 => ?_)
            · have hf := si_in c45 hf
              exact B61 _ _ _ _ _ _ _ _ _ _ hf hw (lv_sub hl [0, 1, 2, 3, 4, 5, 7] rfl)
            · have hf := si_ip c45 hf
              refine lv_iload X.1 X.2.1 dL_said_48 (lv_at hl 4 rfl) ?_
              refine lv_iconst (v := 1) X.1 X.2.1 dL_said_50 (by decide) ?_
              refine lv_iload X.1 X.2.1 dL_said_51 (lv_at hl 7 rfl) ?_
              refine lv_iconst (v := 1) X.1 X.2.1 dL_said_53 (by decide) ?_
              refine lv_isub X.1 X.2.1 dL_said_54 ?_
              refine lv_iconst (v := 2) X.1 X.2.1 dL_said_55 (by decide) ?_
              refine lv_idiv X.1 X.2.1 dL_said_56 (by decide) ?_
              refine lv_ishl X.1 X.2.1 dL_said_57 ?_
              refine lv_ior X.1 X.2.1 dL_said_58 ?_
              obtain ⟨v10, ev10, hf⟩ := si_ob hf
              refine si_nmI ev10 ?_
              refine lv_istore (lv' := [(4, .int v10), (0, .ref (E.2.1 0)), (1, .int x1), (2, .int x2), (3, .int x3), (5, .int x5), (6, .int x6), (7, .int x7)]) X.1 X.2.1 dL_said_59 hl (by decide) rfl (fun ls hl => ?_)
              exact B61 _ _ _ _ _ _ _ _ _ _ hf hw (lv_sub hl [1, 2, 3, 4, 0, 5, 7] rfl)
        · have hf := si_ip c29 hf
          refine lv_goto (tgt := 90) X.1 X.2.1 dL_said_32 (by decide) ?_
          exact B90 _ _ _ _ _ _ _ _ _ _ _ hf hw (lv_sub hl [0, 1, 2, 3, 4, 5, 6, 7] rfl)
  unfold f_L_said at hf
  refine lv_iconst (v := 0) X.1 X.2.1 dL_said_0 (by decide) ?_
  refine lv_istore (lv' := [(4, .int 0), (0, .ref (E.2.1 0)), (1, .int x1), (2, .int x2), (3, .int x3)]) X.1 X.2.1 dL_said_1 hl (by decide) rfl (fun ls hl => ?_)
  refine lv_iconst (v := 0) X.1 X.2.1 dL_said_3 (by decide) ?_
  refine lv_istore (lv' := [(5, .int 0), (4, .int 0), (0, .ref (E.2.1 0)), (1, .int x1), (2, .int x2), (3, .int x3)]) X.1 X.2.1 dL_said_4 hl (by decide) rfl (fun ls hl => ?_)
  refine lv_bipush (v := (-2)) X.1 X.2.1 dL_said_6 (by decide) ?_
  refine lv_istore (lv' := [(6, .int (-2)), (5, .int 0), (4, .int 0), (0, .ref (E.2.1 0)), (1, .int x1), (2, .int x2), (3, .int x3)]) X.1 X.2.1 dL_said_8 hl (by decide) rfl (fun ls hl => ?_)
  refine lv_iconst (v := 0) X.1 X.2.1 dL_said_10 (by decide) ?_
  refine lv_istore (lv' := [(7, .int 0), (6, .int (-2)), (5, .int 0), (4, .int 0), (0, .ref (E.2.1 0)), (1, .int x1), (2, .int x2), (3, .int x3)]) X.1 X.2.1 dL_said_11 hl (by decide) rfl (fun ls hl => ?_)
  exact B13 F _ _ _ _ _ _ _ _ _ _ _ hf hw (lv_sub hl [4, 5, 6, 7, 3, 2, 1, 0] rfl)
def f_L_isEnoughB_h203 (F : Nat) (d : Nat) (rr : Int32 → Int32 → Int32 → si_St → Option (Int32 × si_St)) (r47 : Int32 → Int32 → Int32 → Int32 → si_St → Option (Int32 × si_St)) (r58 : Int32 → Int32 → Int32 → Int32 → Int32 → si_St → Option (Int32 × si_St)) (x0 : Int32) (x1 : Int32) (x2 : Int32) (x5 : Int32) (x6 : Int32) (S : si_St) : Option (Int32 × si_St) :=
  Option.bind (some (x6 + 1)) fun v1 => r58 x0 x1 x2 x5 v1 S
def f_L_isEnoughB_h196 (F : Nat) (d : Nat) (rr : Int32 → Int32 → Int32 → si_St → Option (Int32 × si_St)) (r47 : Int32 → Int32 → Int32 → Int32 → si_St → Option (Int32 × si_St)) (r58 : Int32 → Int32 → Int32 → Int32 → Int32 → si_St → Option (Int32 × si_St)) (x0 : Int32) (x1 : Int32) (x2 : Int32) (x5 : Int32) (x6 : Int32) (x8 : Int32) (S : si_St) : Option (Int32 × si_St) :=
  if x8 = 0 then (f_L_isEnoughB_h203 F d rr r47 r58 x0 x1 x2 x5 x6 S) else (Option.bind (si_bz 1) fun v2 => some (v2, S))
def f_L_isEnoughB_h188 (F : Nat) (d : Nat) (rr : Int32 → Int32 → Int32 → si_St → Option (Int32 × si_St)) (r47 : Int32 → Int32 → Int32 → Int32 → si_St → Option (Int32 × si_St)) (r58 : Int32 → Int32 → Int32 → Int32 → Int32 → si_St → Option (Int32 × si_St)) (r148 : Int32 → Int32 → Int32 → Int32 → Int32 → Int32 → Int32 → si_St → Option (Int32 × si_St)) (x0 : Int32) (x1 : Int32) (x2 : Int32) (x5 : Int32) (x6 : Int32) (x9 : Int32) (t0 : Int32) (S : si_St) : Option (Int32 × si_St) :=
  Option.bind (some (x9 + 1)) fun v3 => r148 x0 x1 x2 x5 x6 t0 v3 S
def f_L_isEnoughB_h187 (F : Nat) (d : Nat) (rr : Int32 → Int32 → Int32 → si_St → Option (Int32 × si_St)) (r47 : Int32 → Int32 → Int32 → Int32 → si_St → Option (Int32 × si_St)) (r58 : Int32 → Int32 → Int32 → Int32 → Int32 → si_St → Option (Int32 × si_St)) (r148 : Int32 → Int32 → Int32 → Int32 → Int32 → Int32 → Int32 → si_St → Option (Int32 × si_St)) (x0 : Int32) (x1 : Int32) (x2 : Int32) (x5 : Int32) (x6 : Int32) (x9 : Int32) (S : si_St) : Option (Int32 × si_St) :=
  f_L_isEnoughB_h188 F d rr r47 r58 r148 x0 x1 x2 x5 x6 x9 0 S
def f_L_isEnoughB_h180 (F : Nat) (d : Nat) (rr : Int32 → Int32 → Int32 → si_St → Option (Int32 × si_St)) (r47 : Int32 → Int32 → Int32 → Int32 → si_St → Option (Int32 × si_St)) (r58 : Int32 → Int32 → Int32 → Int32 → Int32 → si_St → Option (Int32 × si_St)) (r148 : Int32 → Int32 → Int32 → Int32 → Int32 → Int32 → Int32 → si_St → Option (Int32 × si_St)) (x0 : Int32) (x1 : Int32) (x2 : Int32) (x5 : Int32) (x6 : Int32) (x9 : Int32) (t0 : Int32) (S : si_St) : Option (Int32 × si_St) :=
  if t0 = 0 then (f_L_isEnoughB_h187 F d rr r47 r58 r148 x0 x1 x2 x5 x6 x9 S) else (f_L_isEnoughB_h188 F d rr r47 r58 r148 x0 x1 x2 x5 x6 x9 1 S)
def f_L_isEnoughB_h148 (F : Nat) (d : Nat) (rr : Int32 → Int32 → Int32 → si_St → Option (Int32 × si_St)) (r47 : Int32 → Int32 → Int32 → Int32 → si_St → Option (Int32 × si_St)) (r58 : Int32 → Int32 → Int32 → Int32 → Int32 → si_St → Option (Int32 × si_St)) (r148 : Int32 → Int32 → Int32 → Int32 → Int32 → Int32 → Int32 → si_St → Option (Int32 × si_St)) (x0 : Int32) (x1 : Int32) (x2 : Int32) (x5 : Int32) (x6 : Int32) (x8 : Int32) (x9 : Int32) (S : si_St) : Option (Int32 × si_St) :=
  if 3 ≤ x9 then (f_L_isEnoughB_h196 F d rr r47 r58 x0 x1 x2 x5 x6 x8 S) else (if x8 = 0 then (f_L_isEnoughB_h196 F d rr r47 r58 x0 x1 x2 x5 x6 x8 S) else (Option.bind (sd_rd S (101 + d) x9) fun v4 => if v4 = x0 then (f_L_isEnoughB_h187 F d rr r47 r58 r148 x0 x1 x2 x5 x6 x9 S) else (Option.bind (sd_rd S (101 + d) x9) fun v5 => Option.bind (rr v5 x1 (x2 - 1) S) fun q6 => f_L_isEnoughB_h180 F d rr r47 r58 r148 x0 x1 x2 x5 x6 x9 q6.1 q6.2)))
def f_L_isEnoughB_l148 (F : Nat) (d : Nat) (rr : Int32 → Int32 → Int32 → si_St → Option (Int32 × si_St)) (r47 : Int32 → Int32 → Int32 → Int32 → si_St → Option (Int32 × si_St)) (r58 : Int32 → Int32 → Int32 → Int32 → Int32 → si_St → Option (Int32 × si_St)) : Nat → Int32 → Int32 → Int32 → Int32 → Int32 → Int32 → Int32 → si_St → Option (Int32 × si_St)
 | 0 => fun _ _ _ _ _ _ _ _ => none
 | n + 1 => fun x0 x1 x2 x5 x6 x8 x9 S => f_L_isEnoughB_h148 F d rr r47 r58 (f_L_isEnoughB_l148 F d rr r47 r58 n) x0 x1 x2 x5 x6 x8 x9 S
def f_L_isEnoughB_h136 (F : Nat) (d : Nat) (rr : Int32 → Int32 → Int32 → si_St → Option (Int32 × si_St)) (r47 : Int32 → Int32 → Int32 → Int32 → si_St → Option (Int32 × si_St)) (r58 : Int32 → Int32 → Int32 → Int32 → Int32 → si_St → Option (Int32 × si_St)) (r97 : Int32 → Int32 → Int32 → Int32 → Int32 → Int32 → si_St → Option (Int32 × si_St)) (x0 : Int32) (x1 : Int32) (x2 : Int32) (x5 : Int32) (x6 : Int32) (x8 : Int32) (S : si_St) : Option (Int32 × si_St) :=
  Option.bind (some (x8 + 1)) fun v7 => r97 x0 x1 x2 x5 x6 v7 S
def f_L_isEnoughB_h97 (F : Nat) (d : Nat) (rr : Int32 → Int32 → Int32 → si_St → Option (Int32 × si_St)) (r47 : Int32 → Int32 → Int32 → Int32 → si_St → Option (Int32 × si_St)) (r58 : Int32 → Int32 → Int32 → Int32 → Int32 → si_St → Option (Int32 × si_St)) (r97 : Int32 → Int32 → Int32 → Int32 → Int32 → Int32 → si_St → Option (Int32 × si_St)) (x0 : Int32) (x1 : Int32) (x2 : Int32) (x5 : Int32) (x6 : Int32) (x8 : Int32) (S : si_St) : Option (Int32 × si_St) :=
  if (1 + (2 * x1)) ≤ x8 then (f_L_isEnoughB_l148 F d rr r47 r58 F x0 x1 x2 x5 x6 1 0 S) else (if ((x0 >>> (x8 &&& 31)) &&& 1) = 1 then (Option.bind (f_L_result F x8 x5 x6 S) fun q8 => Option.bind (sd_rd q8.2 (101 + d) q8.1) fun v9 => Option.bind (sd_wr q8.2 (101 + d) q8.1 (v9 ||| (1 <<< (x8 &&& 31)))) fun S10 => f_L_isEnoughB_h136 F d rr r47 r58 r97 x0 x1 x2 x5 x6 x8 S10) else (f_L_isEnoughB_h136 F d rr r47 r58 r97 x0 x1 x2 x5 x6 x8 S))
def f_L_isEnoughB_l97 (F : Nat) (d : Nat) (rr : Int32 → Int32 → Int32 → si_St → Option (Int32 × si_St)) (r47 : Int32 → Int32 → Int32 → Int32 → si_St → Option (Int32 × si_St)) (r58 : Int32 → Int32 → Int32 → Int32 → Int32 → si_St → Option (Int32 × si_St)) : Nat → Int32 → Int32 → Int32 → Int32 → Int32 → Int32 → si_St → Option (Int32 × si_St)
 | 0 => fun _ _ _ _ _ _ _ => none
 | n + 1 => fun x0 x1 x2 x5 x6 x8 S => f_L_isEnoughB_h97 F d rr r47 r58 (f_L_isEnoughB_l97 F d rr r47 r58 n) x0 x1 x2 x5 x6 x8 S
def f_L_isEnoughB_h92 (F : Nat) (d : Nat) (rr : Int32 → Int32 → Int32 → si_St → Option (Int32 × si_St)) (r47 : Int32 → Int32 → Int32 → Int32 → si_St → Option (Int32 × si_St)) (r58 : Int32 → Int32 → Int32 → Int32 → Int32 → si_St → Option (Int32 × si_St)) (x0 : Int32) (x1 : Int32) (x2 : Int32) (x5 : Int32) (x6 : Int32) (S : si_St) : Option (Int32 × si_St) :=
  f_L_isEnoughB_l97 F d rr r47 r58 F x0 x1 x2 x5 x6 0 S
def f_L_isEnoughB_h58 (F : Nat) (d : Nat) (rr : Int32 → Int32 → Int32 → si_St → Option (Int32 × si_St)) (r47 : Int32 → Int32 → Int32 → Int32 → si_St → Option (Int32 × si_St)) (r58 : Int32 → Int32 → Int32 → Int32 → Int32 → si_St → Option (Int32 × si_St)) (x0 : Int32) (x1 : Int32) (x2 : Int32) (x5 : Int32) (x6 : Int32) (S : si_St) : Option (Int32 × si_St) :=
  if x5 ≤ x6 then (Option.bind (some (x5 + 1)) fun v11 => r47 x0 x1 x2 v11 S) else (if (x5 &&& x6) = 0 then (Option.bind (f_J6_bitCount_0f7a4 F x5 S) fun q12 => Option.bind (f_J6_bitCount_0f7a4 F x6 q12.2) fun q13 => if q12.1 = q13.1 then (Option.bind (sd_na q13.2 (101 + d) 3) fun S14 => f_L_isEnoughB_h92 F d rr r47 r58 x0 x1 x2 x5 x6 S14) else (f_L_isEnoughB_h203 F d rr r47 r58 x0 x1 x2 x5 x6 q13.2)) else (f_L_isEnoughB_h203 F d rr r47 r58 x0 x1 x2 x5 x6 S))
def f_L_isEnoughB_l58 (F : Nat) (d : Nat) (rr : Int32 → Int32 → Int32 → si_St → Option (Int32 × si_St)) (r47 : Int32 → Int32 → Int32 → Int32 → si_St → Option (Int32 × si_St)) : Nat → Int32 → Int32 → Int32 → Int32 → Int32 → si_St → Option (Int32 × si_St)
 | 0 => fun _ _ _ _ _ _ => none
 | n + 1 => fun x0 x1 x2 x5 x6 S => f_L_isEnoughB_h58 F d rr r47 (f_L_isEnoughB_l58 F d rr r47 n) x0 x1 x2 x5 x6 S
def f_L_isEnoughB_h47 (F : Nat) (d : Nat) (rr : Int32 → Int32 → Int32 → si_St → Option (Int32 × si_St)) (r47 : Int32 → Int32 → Int32 → Int32 → si_St → Option (Int32 × si_St)) (x0 : Int32) (x1 : Int32) (x2 : Int32) (x5 : Int32) (S : si_St) : Option (Int32 × si_St) :=
  if (1 <<< (x1 &&& 31)) ≤ x5 then (Option.bind (si_bz 0) fun v15 => some (v15, S)) else (f_L_isEnoughB_l58 F d rr r47 F x0 x1 x2 x5 1 S)
def f_L_isEnoughB_l47 (F : Nat) (d : Nat) (rr : Int32 → Int32 → Int32 → si_St → Option (Int32 × si_St)) : Nat → Int32 → Int32 → Int32 → Int32 → si_St → Option (Int32 × si_St)
 | 0 => fun _ _ _ _ _ => none
 | n + 1 => fun x0 x1 x2 x5 S => f_L_isEnoughB_h47 F d rr (f_L_isEnoughB_l47 F d rr n) x0 x1 x2 x5 S
def f_L_isEnoughB_h18 (F : Nat) (d : Nat) (rr : Int32 → Int32 → Int32 → si_St → Option (Int32 × si_St)) (r18 : Int32 → Int32 → Int32 → Int32 → Int32 → Int32 → si_St → Option (Int32 × si_St)) (x0 : Int32) (x1 : Int32) (x2 : Int32) (x3 : Int32) (x4 : Int32) (x5 : Int32) (S : si_St) : Option (Int32 × si_St) :=
  if x2 ≤ x5 then (if x3 ≤ x4 then (f_L_isEnoughB_l47 F d rr F x0 x1 x2 1 S) else (Option.bind (si_bz 0) fun v16 => some (v16, S))) else (Option.bind (some (x4 * 3)) fun v17 => Option.bind (some (x5 + 1)) fun v18 => r18 x0 x1 x2 x3 v17 v18 S)
def f_L_isEnoughB_l18 (F : Nat) (d : Nat) (rr : Int32 → Int32 → Int32 → si_St → Option (Int32 × si_St)) : Nat → Int32 → Int32 → Int32 → Int32 → Int32 → Int32 → si_St → Option (Int32 × si_St)
 | 0 => fun _ _ _ _ _ _ _ => none
 | n + 1 => fun x0 x1 x2 x3 x4 x5 S => f_L_isEnoughB_h18 F d rr (f_L_isEnoughB_l18 F d rr n) x0 x1 x2 x3 x4 x5 S
def f_L_isEnoughB_h0 (F : Nat) (d : Nat) (rr : Int32 → Int32 → Int32 → si_St → Option (Int32 × si_St)) (x0 : Int32) (x1 : Int32) (x2 : Int32) (S : si_St) : Option (Int32 × si_St) :=
  Option.bind (f_J6_bitCount_0f7a4 F x0 S) fun q19 => if 2 ≤ q19.1 then (f_L_isEnoughB_l18 F d rr F x0 x1 x2 q19.1 1 0 q19.2) else (Option.bind (si_bz 1) fun v20 => some (v20, q19.2))
def f_L_isEnoughB (F : Nat) (d : Nat) (rr : Int32 → Int32 → Int32 → si_St → Option (Int32 × si_St)) (x0 : Int32) (x1 : Int32) (x2 : Int32) (S : si_St) : Option (Int32 × si_St) :=
  f_L_isEnoughB_h0 F d rr x0 x1 x2 S
theorem mo_L_isEnoughB_h203 (F : Nat) (d : Nat) (rr : Int32 → Int32 → Int32 → si_St → Option (Int32 × si_St)) (hrr : ∀ (a b c : Int32) (S : si_St) (o : Int32 × si_St), rr a b c S = some o → sd_le S o.2) (r47 : Int32 → Int32 → Int32 → Int32 → si_St → Option (Int32 × si_St)) (r58 : Int32 → Int32 → Int32 → Int32 → Int32 → si_St → Option (Int32 × si_St)) (hr47 : ∀ (x0 : Int32) (x1 : Int32) (x2 : Int32) (x5 : Int32) (S : si_St) (o : Int32 × si_St), r47 x0 x1 x2 x5 S = some o → sd_le S o.2) (hr58 : ∀ (x0 : Int32) (x1 : Int32) (x2 : Int32) (x5 : Int32) (x6 : Int32) (S : si_St) (o : Int32 × si_St), r58 x0 x1 x2 x5 x6 S = some o → sd_le S o.2) (x0 : Int32) (x1 : Int32) (x2 : Int32) (x5 : Int32) (x6 : Int32) (S : si_St) (o : Int32 × si_St) (h : f_L_isEnoughB_h203 F d rr r47 r58 x0 x1 x2 x5 x6 S = some o) : sd_le S o.2 := by
  have g : sd_le S S := sd_le.rf
  unfold f_L_isEnoughB_h203 at h
  obtain ⟨v1, ev1, h⟩ := si_ob h
  exact g.tr (hr58 _ _ _ _ _ _ _ h)
theorem mo_L_isEnoughB_h196 (F : Nat) (d : Nat) (rr : Int32 → Int32 → Int32 → si_St → Option (Int32 × si_St)) (hrr : ∀ (a b c : Int32) (S : si_St) (o : Int32 × si_St), rr a b c S = some o → sd_le S o.2) (r47 : Int32 → Int32 → Int32 → Int32 → si_St → Option (Int32 × si_St)) (r58 : Int32 → Int32 → Int32 → Int32 → Int32 → si_St → Option (Int32 × si_St)) (hr47 : ∀ (x0 : Int32) (x1 : Int32) (x2 : Int32) (x5 : Int32) (S : si_St) (o : Int32 × si_St), r47 x0 x1 x2 x5 S = some o → sd_le S o.2) (hr58 : ∀ (x0 : Int32) (x1 : Int32) (x2 : Int32) (x5 : Int32) (x6 : Int32) (S : si_St) (o : Int32 × si_St), r58 x0 x1 x2 x5 x6 S = some o → sd_le S o.2) (x0 : Int32) (x1 : Int32) (x2 : Int32) (x5 : Int32) (x6 : Int32) (x8 : Int32) (S : si_St) (o : Int32 × si_St) (h : f_L_isEnoughB_h196 F d rr r47 r58 x0 x1 x2 x5 x6 x8 S = some o) : sd_le S o.2 := by
  have g : sd_le S S := sd_le.rf
  unfold f_L_isEnoughB_h196 at h
  rcases Decidable.em (x8 = 0) with c198 | c198
  · have h := si_ip c198 h
    exact g.tr (mo_L_isEnoughB_h203 F d rr hrr r47 r58 hr47 hr58 _ _ _ _ _ _ _ h)
  · have h := si_in c198 h
    obtain ⟨v2, ev2, h⟩ := si_ob h
    obtain rfl := Option.some.inj h
    exact g
theorem mo_L_isEnoughB_h188 (F : Nat) (d : Nat) (rr : Int32 → Int32 → Int32 → si_St → Option (Int32 × si_St)) (hrr : ∀ (a b c : Int32) (S : si_St) (o : Int32 × si_St), rr a b c S = some o → sd_le S o.2) (r47 : Int32 → Int32 → Int32 → Int32 → si_St → Option (Int32 × si_St)) (r58 : Int32 → Int32 → Int32 → Int32 → Int32 → si_St → Option (Int32 × si_St)) (r148 : Int32 → Int32 → Int32 → Int32 → Int32 → Int32 → Int32 → si_St → Option (Int32 × si_St)) (hr47 : ∀ (x0 : Int32) (x1 : Int32) (x2 : Int32) (x5 : Int32) (S : si_St) (o : Int32 × si_St), r47 x0 x1 x2 x5 S = some o → sd_le S o.2) (hr58 : ∀ (x0 : Int32) (x1 : Int32) (x2 : Int32) (x5 : Int32) (x6 : Int32) (S : si_St) (o : Int32 × si_St), r58 x0 x1 x2 x5 x6 S = some o → sd_le S o.2) (hr148 : ∀ (x0 : Int32) (x1 : Int32) (x2 : Int32) (x5 : Int32) (x6 : Int32) (x8 : Int32) (x9 : Int32) (S : si_St) (o : Int32 × si_St), r148 x0 x1 x2 x5 x6 x8 x9 S = some o → sd_le S o.2) (x0 : Int32) (x1 : Int32) (x2 : Int32) (x5 : Int32) (x6 : Int32) (x9 : Int32) (t0 : Int32) (S : si_St) (o : Int32 × si_St) (h : f_L_isEnoughB_h188 F d rr r47 r58 r148 x0 x1 x2 x5 x6 x9 t0 S = some o) : sd_le S o.2 := by
  have g : sd_le S S := sd_le.rf
  unfold f_L_isEnoughB_h188 at h
  obtain ⟨v3, ev3, h⟩ := si_ob h
  exact g.tr (hr148 _ _ _ _ _ _ _ _ _ h)
theorem mo_L_isEnoughB_h187 (F : Nat) (d : Nat) (rr : Int32 → Int32 → Int32 → si_St → Option (Int32 × si_St)) (hrr : ∀ (a b c : Int32) (S : si_St) (o : Int32 × si_St), rr a b c S = some o → sd_le S o.2) (r47 : Int32 → Int32 → Int32 → Int32 → si_St → Option (Int32 × si_St)) (r58 : Int32 → Int32 → Int32 → Int32 → Int32 → si_St → Option (Int32 × si_St)) (r148 : Int32 → Int32 → Int32 → Int32 → Int32 → Int32 → Int32 → si_St → Option (Int32 × si_St)) (hr47 : ∀ (x0 : Int32) (x1 : Int32) (x2 : Int32) (x5 : Int32) (S : si_St) (o : Int32 × si_St), r47 x0 x1 x2 x5 S = some o → sd_le S o.2) (hr58 : ∀ (x0 : Int32) (x1 : Int32) (x2 : Int32) (x5 : Int32) (x6 : Int32) (S : si_St) (o : Int32 × si_St), r58 x0 x1 x2 x5 x6 S = some o → sd_le S o.2) (hr148 : ∀ (x0 : Int32) (x1 : Int32) (x2 : Int32) (x5 : Int32) (x6 : Int32) (x8 : Int32) (x9 : Int32) (S : si_St) (o : Int32 × si_St), r148 x0 x1 x2 x5 x6 x8 x9 S = some o → sd_le S o.2) (x0 : Int32) (x1 : Int32) (x2 : Int32) (x5 : Int32) (x6 : Int32) (x9 : Int32) (S : si_St) (o : Int32 × si_St) (h : f_L_isEnoughB_h187 F d rr r47 r58 r148 x0 x1 x2 x5 x6 x9 S = some o) : sd_le S o.2 := by
  have g : sd_le S S := sd_le.rf
  unfold f_L_isEnoughB_h187 at h
  exact g.tr (mo_L_isEnoughB_h188 F d rr hrr r47 r58 r148 hr47 hr58 hr148 _ _ _ _ _ _ _ _ _ h)
theorem mo_L_isEnoughB_h180 (F : Nat) (d : Nat) (rr : Int32 → Int32 → Int32 → si_St → Option (Int32 × si_St)) (hrr : ∀ (a b c : Int32) (S : si_St) (o : Int32 × si_St), rr a b c S = some o → sd_le S o.2) (r47 : Int32 → Int32 → Int32 → Int32 → si_St → Option (Int32 × si_St)) (r58 : Int32 → Int32 → Int32 → Int32 → Int32 → si_St → Option (Int32 × si_St)) (r148 : Int32 → Int32 → Int32 → Int32 → Int32 → Int32 → Int32 → si_St → Option (Int32 × si_St)) (hr47 : ∀ (x0 : Int32) (x1 : Int32) (x2 : Int32) (x5 : Int32) (S : si_St) (o : Int32 × si_St), r47 x0 x1 x2 x5 S = some o → sd_le S o.2) (hr58 : ∀ (x0 : Int32) (x1 : Int32) (x2 : Int32) (x5 : Int32) (x6 : Int32) (S : si_St) (o : Int32 × si_St), r58 x0 x1 x2 x5 x6 S = some o → sd_le S o.2) (hr148 : ∀ (x0 : Int32) (x1 : Int32) (x2 : Int32) (x5 : Int32) (x6 : Int32) (x8 : Int32) (x9 : Int32) (S : si_St) (o : Int32 × si_St), r148 x0 x1 x2 x5 x6 x8 x9 S = some o → sd_le S o.2) (x0 : Int32) (x1 : Int32) (x2 : Int32) (x5 : Int32) (x6 : Int32) (x9 : Int32) (t0 : Int32) (S : si_St) (o : Int32 × si_St) (h : f_L_isEnoughB_h180 F d rr r47 r58 r148 x0 x1 x2 x5 x6 x9 t0 S = some o) : sd_le S o.2 := by
  have g : sd_le S S := sd_le.rf
  unfold f_L_isEnoughB_h180 at h
  rcases Decidable.em (t0 = 0) with c180 | c180
  · have h := si_ip c180 h
    exact g.tr (mo_L_isEnoughB_h187 F d rr hrr r47 r58 r148 hr47 hr58 hr148 _ _ _ _ _ _ _ _ h)
  · have h := si_in c180 h
    exact g.tr (mo_L_isEnoughB_h188 F d rr hrr r47 r58 r148 hr47 hr58 hr148 _ _ _ _ _ _ _ _ _ h)
theorem mo_L_isEnoughB_h148 (F : Nat) (d : Nat) (rr : Int32 → Int32 → Int32 → si_St → Option (Int32 × si_St)) (hrr : ∀ (a b c : Int32) (S : si_St) (o : Int32 × si_St), rr a b c S = some o → sd_le S o.2) (r47 : Int32 → Int32 → Int32 → Int32 → si_St → Option (Int32 × si_St)) (r58 : Int32 → Int32 → Int32 → Int32 → Int32 → si_St → Option (Int32 × si_St)) (r148 : Int32 → Int32 → Int32 → Int32 → Int32 → Int32 → Int32 → si_St → Option (Int32 × si_St)) (hr47 : ∀ (x0 : Int32) (x1 : Int32) (x2 : Int32) (x5 : Int32) (S : si_St) (o : Int32 × si_St), r47 x0 x1 x2 x5 S = some o → sd_le S o.2) (hr58 : ∀ (x0 : Int32) (x1 : Int32) (x2 : Int32) (x5 : Int32) (x6 : Int32) (S : si_St) (o : Int32 × si_St), r58 x0 x1 x2 x5 x6 S = some o → sd_le S o.2) (hr148 : ∀ (x0 : Int32) (x1 : Int32) (x2 : Int32) (x5 : Int32) (x6 : Int32) (x8 : Int32) (x9 : Int32) (S : si_St) (o : Int32 × si_St), r148 x0 x1 x2 x5 x6 x8 x9 S = some o → sd_le S o.2) (x0 : Int32) (x1 : Int32) (x2 : Int32) (x5 : Int32) (x6 : Int32) (x8 : Int32) (x9 : Int32) (S : si_St) (o : Int32 × si_St) (h : f_L_isEnoughB_h148 F d rr r47 r58 r148 x0 x1 x2 x5 x6 x8 x9 S = some o) : sd_le S o.2 := by
  have g : sd_le S S := sd_le.rf
  unfold f_L_isEnoughB_h148 at h
  rcases Decidable.em (3 ≤ x9) with c151 | c151
  · have h := si_ip c151 h
    exact g.tr (mo_L_isEnoughB_h196 F d rr hrr r47 r58 hr47 hr58 _ _ _ _ _ _ _ _ h)
  · have h := si_in c151 h
    rcases Decidable.em (x8 = 0) with c156 | c156
    · have h := si_ip c156 h
      exact g.tr (mo_L_isEnoughB_h196 F d rr hrr r47 r58 hr47 hr58 _ _ _ _ _ _ _ _ h)
    · have h := si_in c156 h
      obtain ⟨v4, ev4, h⟩ := si_ob h
      rcases Decidable.em (v4 = x0) with c165 | c165
      · have h := si_ip c165 h
        exact g.tr (mo_L_isEnoughB_h187 F d rr hrr r47 r58 r148 hr47 hr58 hr148 _ _ _ _ _ _ _ _ h)
      · have h := si_in c165 h
        obtain ⟨v5, ev5, h⟩ := si_ob h
        obtain ⟨q6, eq6, h⟩ := si_ob h
        have g := g.tr (hrr v5 x1 (x2 - 1) S q6 eq6)
        exact g.tr (mo_L_isEnoughB_h180 F d rr hrr r47 r58 r148 hr47 hr58 hr148 _ _ _ _ _ _ _ _ _ h)
theorem mo_L_isEnoughB_l148 (F : Nat) (d : Nat) (rr : Int32 → Int32 → Int32 → si_St → Option (Int32 × si_St)) (hrr : ∀ (a b c : Int32) (S : si_St) (o : Int32 × si_St), rr a b c S = some o → sd_le S o.2) (r47 : Int32 → Int32 → Int32 → Int32 → si_St → Option (Int32 × si_St)) (r58 : Int32 → Int32 → Int32 → Int32 → Int32 → si_St → Option (Int32 × si_St)) (hr47 : ∀ (x0 : Int32) (x1 : Int32) (x2 : Int32) (x5 : Int32) (S : si_St) (o : Int32 × si_St), r47 x0 x1 x2 x5 S = some o → sd_le S o.2) (hr58 : ∀ (x0 : Int32) (x1 : Int32) (x2 : Int32) (x5 : Int32) (x6 : Int32) (S : si_St) (o : Int32 × si_St), r58 x0 x1 x2 x5 x6 S = some o → sd_le S o.2) : ∀ (n : Nat) (x0 : Int32) (x1 : Int32) (x2 : Int32) (x5 : Int32) (x6 : Int32) (x8 : Int32) (x9 : Int32) (S : si_St) (o : Int32 × si_St), f_L_isEnoughB_l148 F d rr r47 r58 n x0 x1 x2 x5 x6 x8 x9 S = some o → sd_le S o.2 := by
  intro n
  induction n with
  | zero => intro x0 x1 x2 x5 x6 x8 x9 S o h; cases h
  | succ n ih =>
    intro x0 x1 x2 x5 x6 x8 x9 S o h
    exact mo_L_isEnoughB_h148 F d rr hrr r47 r58 (f_L_isEnoughB_l148 F d rr r47 r58 n) hr47 hr58 ih x0 x1 x2 x5 x6 x8 x9 S o h
theorem mo_L_isEnoughB_h136 (F : Nat) (d : Nat) (rr : Int32 → Int32 → Int32 → si_St → Option (Int32 × si_St)) (hrr : ∀ (a b c : Int32) (S : si_St) (o : Int32 × si_St), rr a b c S = some o → sd_le S o.2) (r47 : Int32 → Int32 → Int32 → Int32 → si_St → Option (Int32 × si_St)) (r58 : Int32 → Int32 → Int32 → Int32 → Int32 → si_St → Option (Int32 × si_St)) (r97 : Int32 → Int32 → Int32 → Int32 → Int32 → Int32 → si_St → Option (Int32 × si_St)) (hr47 : ∀ (x0 : Int32) (x1 : Int32) (x2 : Int32) (x5 : Int32) (S : si_St) (o : Int32 × si_St), r47 x0 x1 x2 x5 S = some o → sd_le S o.2) (hr58 : ∀ (x0 : Int32) (x1 : Int32) (x2 : Int32) (x5 : Int32) (x6 : Int32) (S : si_St) (o : Int32 × si_St), r58 x0 x1 x2 x5 x6 S = some o → sd_le S o.2) (hr97 : ∀ (x0 : Int32) (x1 : Int32) (x2 : Int32) (x5 : Int32) (x6 : Int32) (x8 : Int32) (S : si_St) (o : Int32 × si_St), r97 x0 x1 x2 x5 x6 x8 S = some o → sd_le S o.2) (x0 : Int32) (x1 : Int32) (x2 : Int32) (x5 : Int32) (x6 : Int32) (x8 : Int32) (S : si_St) (o : Int32 × si_St) (h : f_L_isEnoughB_h136 F d rr r47 r58 r97 x0 x1 x2 x5 x6 x8 S = some o) : sd_le S o.2 := by
  have g : sd_le S S := sd_le.rf
  unfold f_L_isEnoughB_h136 at h
  obtain ⟨v7, ev7, h⟩ := si_ob h
  exact g.tr (hr97 _ _ _ _ _ _ _ _ h)
theorem mo_L_isEnoughB_h97 (F : Nat) (d : Nat) (rr : Int32 → Int32 → Int32 → si_St → Option (Int32 × si_St)) (hrr : ∀ (a b c : Int32) (S : si_St) (o : Int32 × si_St), rr a b c S = some o → sd_le S o.2) (r47 : Int32 → Int32 → Int32 → Int32 → si_St → Option (Int32 × si_St)) (r58 : Int32 → Int32 → Int32 → Int32 → Int32 → si_St → Option (Int32 × si_St)) (r97 : Int32 → Int32 → Int32 → Int32 → Int32 → Int32 → si_St → Option (Int32 × si_St)) (hr47 : ∀ (x0 : Int32) (x1 : Int32) (x2 : Int32) (x5 : Int32) (S : si_St) (o : Int32 × si_St), r47 x0 x1 x2 x5 S = some o → sd_le S o.2) (hr58 : ∀ (x0 : Int32) (x1 : Int32) (x2 : Int32) (x5 : Int32) (x6 : Int32) (S : si_St) (o : Int32 × si_St), r58 x0 x1 x2 x5 x6 S = some o → sd_le S o.2) (hr97 : ∀ (x0 : Int32) (x1 : Int32) (x2 : Int32) (x5 : Int32) (x6 : Int32) (x8 : Int32) (S : si_St) (o : Int32 × si_St), r97 x0 x1 x2 x5 x6 x8 S = some o → sd_le S o.2) (x0 : Int32) (x1 : Int32) (x2 : Int32) (x5 : Int32) (x6 : Int32) (x8 : Int32) (S : si_St) (o : Int32 × si_St) (h : f_L_isEnoughB_h97 F d rr r47 r58 r97 x0 x1 x2 x5 x6 x8 S = some o) : sd_le S o.2 := by
  have g : sd_le S S := sd_le.rf
  unfold f_L_isEnoughB_h97 at h
  rcases Decidable.em ((1 + (2 * x1)) ≤ x8) with c104 | c104
  · have h := si_ip c104 h
    exact g.tr (mo_L_isEnoughB_l148 F d rr hrr r47 r58 hr47 hr58 F _ _ _ _ _ _ _ _ _ h)
  · have h := si_in c104 h
    rcases Decidable.em (((x0 >>> (x8 &&& 31)) &&& 1) = 1) with c114 | c114
    · have h := si_ip c114 h
      obtain ⟨q8, eq8, h⟩ := si_ob h
      have g := g.tr (fr_L_result F x8 x5 x6 S q8 eq8).le
      obtain ⟨v9, ev9, h⟩ := si_ob h
      obtain ⟨S10, eS10, h⟩ := si_ob h
      have g := g.tr (sd_wr_m eS10)
      exact g.tr (mo_L_isEnoughB_h136 F d rr hrr r47 r58 r97 hr47 hr58 hr97 _ _ _ _ _ _ _ _ h)
    · have h := si_in c114 h
      exact g.tr (mo_L_isEnoughB_h136 F d rr hrr r47 r58 r97 hr47 hr58 hr97 _ _ _ _ _ _ _ _ h)
theorem mo_L_isEnoughB_l97 (F : Nat) (d : Nat) (rr : Int32 → Int32 → Int32 → si_St → Option (Int32 × si_St)) (hrr : ∀ (a b c : Int32) (S : si_St) (o : Int32 × si_St), rr a b c S = some o → sd_le S o.2) (r47 : Int32 → Int32 → Int32 → Int32 → si_St → Option (Int32 × si_St)) (r58 : Int32 → Int32 → Int32 → Int32 → Int32 → si_St → Option (Int32 × si_St)) (hr47 : ∀ (x0 : Int32) (x1 : Int32) (x2 : Int32) (x5 : Int32) (S : si_St) (o : Int32 × si_St), r47 x0 x1 x2 x5 S = some o → sd_le S o.2) (hr58 : ∀ (x0 : Int32) (x1 : Int32) (x2 : Int32) (x5 : Int32) (x6 : Int32) (S : si_St) (o : Int32 × si_St), r58 x0 x1 x2 x5 x6 S = some o → sd_le S o.2) : ∀ (n : Nat) (x0 : Int32) (x1 : Int32) (x2 : Int32) (x5 : Int32) (x6 : Int32) (x8 : Int32) (S : si_St) (o : Int32 × si_St), f_L_isEnoughB_l97 F d rr r47 r58 n x0 x1 x2 x5 x6 x8 S = some o → sd_le S o.2 := by
  intro n
  induction n with
  | zero => intro x0 x1 x2 x5 x6 x8 S o h; cases h
  | succ n ih =>
    intro x0 x1 x2 x5 x6 x8 S o h
    exact mo_L_isEnoughB_h97 F d rr hrr r47 r58 (f_L_isEnoughB_l97 F d rr r47 r58 n) hr47 hr58 ih x0 x1 x2 x5 x6 x8 S o h
theorem mo_L_isEnoughB_h92 (F : Nat) (d : Nat) (rr : Int32 → Int32 → Int32 → si_St → Option (Int32 × si_St)) (hrr : ∀ (a b c : Int32) (S : si_St) (o : Int32 × si_St), rr a b c S = some o → sd_le S o.2) (r47 : Int32 → Int32 → Int32 → Int32 → si_St → Option (Int32 × si_St)) (r58 : Int32 → Int32 → Int32 → Int32 → Int32 → si_St → Option (Int32 × si_St)) (hr47 : ∀ (x0 : Int32) (x1 : Int32) (x2 : Int32) (x5 : Int32) (S : si_St) (o : Int32 × si_St), r47 x0 x1 x2 x5 S = some o → sd_le S o.2) (hr58 : ∀ (x0 : Int32) (x1 : Int32) (x2 : Int32) (x5 : Int32) (x6 : Int32) (S : si_St) (o : Int32 × si_St), r58 x0 x1 x2 x5 x6 S = some o → sd_le S o.2) (x0 : Int32) (x1 : Int32) (x2 : Int32) (x5 : Int32) (x6 : Int32) (S : si_St) (o : Int32 × si_St) (h : f_L_isEnoughB_h92 F d rr r47 r58 x0 x1 x2 x5 x6 S = some o) : sd_le S o.2 := by
  have g : sd_le S S := sd_le.rf
  unfold f_L_isEnoughB_h92 at h
  exact g.tr (mo_L_isEnoughB_l97 F d rr hrr r47 r58 hr47 hr58 F _ _ _ _ _ _ _ _ h)
theorem mo_L_isEnoughB_h58 (F : Nat) (d : Nat) (rr : Int32 → Int32 → Int32 → si_St → Option (Int32 × si_St)) (hrr : ∀ (a b c : Int32) (S : si_St) (o : Int32 × si_St), rr a b c S = some o → sd_le S o.2) (r47 : Int32 → Int32 → Int32 → Int32 → si_St → Option (Int32 × si_St)) (r58 : Int32 → Int32 → Int32 → Int32 → Int32 → si_St → Option (Int32 × si_St)) (hr47 : ∀ (x0 : Int32) (x1 : Int32) (x2 : Int32) (x5 : Int32) (S : si_St) (o : Int32 × si_St), r47 x0 x1 x2 x5 S = some o → sd_le S o.2) (hr58 : ∀ (x0 : Int32) (x1 : Int32) (x2 : Int32) (x5 : Int32) (x6 : Int32) (S : si_St) (o : Int32 × si_St), r58 x0 x1 x2 x5 x6 S = some o → sd_le S o.2) (x0 : Int32) (x1 : Int32) (x2 : Int32) (x5 : Int32) (x6 : Int32) (S : si_St) (o : Int32 × si_St) (h : f_L_isEnoughB_h58 F d rr r47 r58 x0 x1 x2 x5 x6 S = some o) : sd_le S o.2 := by
  have g : sd_le S S := sd_le.rf
  unfold f_L_isEnoughB_h58 at h
  rcases Decidable.em (x5 ≤ x6) with c62 | c62
  · have h := si_ip c62 h
    obtain ⟨v11, ev11, h⟩ := si_ob h
    exact g.tr (hr47 _ _ _ _ _ _ h)
  · have h := si_in c62 h
    rcases Decidable.em ((x5 &&& x6) = 0) with c70 | c70
    · have h := si_ip c70 h
      obtain ⟨q12, eq12, h⟩ := si_ob h
      have g := g.tr (fr_J6_bitCount_0f7a4 F x5 S q12 eq12).le
      obtain ⟨q13, eq13, h⟩ := si_ob h
      have g := g.tr (fr_J6_bitCount_0f7a4 F x6 q12.2 q13 eq13).le
      rcases Decidable.em (q12.1 = q13.1) with c83 | c83
      · have h := si_ip c83 h
        obtain ⟨S14, eS14, h⟩ := si_ob h
        have g := g.tr (sd_na_m eS14)
        exact g.tr (mo_L_isEnoughB_h92 F d rr hrr r47 r58 hr47 hr58 _ _ _ _ _ _ _ h)
      · have h := si_in c83 h
        exact g.tr (mo_L_isEnoughB_h203 F d rr hrr r47 r58 hr47 hr58 _ _ _ _ _ _ _ h)
    · have h := si_in c70 h
      exact g.tr (mo_L_isEnoughB_h203 F d rr hrr r47 r58 hr47 hr58 _ _ _ _ _ _ _ h)
theorem mo_L_isEnoughB_l58 (F : Nat) (d : Nat) (rr : Int32 → Int32 → Int32 → si_St → Option (Int32 × si_St)) (hrr : ∀ (a b c : Int32) (S : si_St) (o : Int32 × si_St), rr a b c S = some o → sd_le S o.2) (r47 : Int32 → Int32 → Int32 → Int32 → si_St → Option (Int32 × si_St)) (hr47 : ∀ (x0 : Int32) (x1 : Int32) (x2 : Int32) (x5 : Int32) (S : si_St) (o : Int32 × si_St), r47 x0 x1 x2 x5 S = some o → sd_le S o.2) : ∀ (n : Nat) (x0 : Int32) (x1 : Int32) (x2 : Int32) (x5 : Int32) (x6 : Int32) (S : si_St) (o : Int32 × si_St), f_L_isEnoughB_l58 F d rr r47 n x0 x1 x2 x5 x6 S = some o → sd_le S o.2 := by
  intro n
  induction n with
  | zero => intro x0 x1 x2 x5 x6 S o h; cases h
  | succ n ih =>
    intro x0 x1 x2 x5 x6 S o h
    exact mo_L_isEnoughB_h58 F d rr hrr r47 (f_L_isEnoughB_l58 F d rr r47 n) hr47 ih x0 x1 x2 x5 x6 S o h
theorem mo_L_isEnoughB_h47 (F : Nat) (d : Nat) (rr : Int32 → Int32 → Int32 → si_St → Option (Int32 × si_St)) (hrr : ∀ (a b c : Int32) (S : si_St) (o : Int32 × si_St), rr a b c S = some o → sd_le S o.2) (r47 : Int32 → Int32 → Int32 → Int32 → si_St → Option (Int32 × si_St)) (hr47 : ∀ (x0 : Int32) (x1 : Int32) (x2 : Int32) (x5 : Int32) (S : si_St) (o : Int32 × si_St), r47 x0 x1 x2 x5 S = some o → sd_le S o.2) (x0 : Int32) (x1 : Int32) (x2 : Int32) (x5 : Int32) (S : si_St) (o : Int32 × si_St) (h : f_L_isEnoughB_h47 F d rr r47 x0 x1 x2 x5 S = some o) : sd_le S o.2 := by
  have g : sd_le S S := sd_le.rf
  unfold f_L_isEnoughB_h47 at h
  rcases Decidable.em ((1 <<< (x1 &&& 31)) ≤ x5) with c52 | c52
  · have h := si_ip c52 h
    obtain ⟨v15, ev15, h⟩ := si_ob h
    obtain rfl := Option.some.inj h
    exact g
  · have h := si_in c52 h
    exact g.tr (mo_L_isEnoughB_l58 F d rr hrr r47 hr47 F _ _ _ _ _ _ _ h)
theorem mo_L_isEnoughB_l47 (F : Nat) (d : Nat) (rr : Int32 → Int32 → Int32 → si_St → Option (Int32 × si_St)) (hrr : ∀ (a b c : Int32) (S : si_St) (o : Int32 × si_St), rr a b c S = some o → sd_le S o.2) : ∀ (n : Nat) (x0 : Int32) (x1 : Int32) (x2 : Int32) (x5 : Int32) (S : si_St) (o : Int32 × si_St), f_L_isEnoughB_l47 F d rr n x0 x1 x2 x5 S = some o → sd_le S o.2 := by
  intro n
  induction n with
  | zero => intro x0 x1 x2 x5 S o h; cases h
  | succ n ih =>
    intro x0 x1 x2 x5 S o h
    exact mo_L_isEnoughB_h47 F d rr hrr (f_L_isEnoughB_l47 F d rr n) ih x0 x1 x2 x5 S o h
theorem mo_L_isEnoughB_h18 (F : Nat) (d : Nat) (rr : Int32 → Int32 → Int32 → si_St → Option (Int32 × si_St)) (hrr : ∀ (a b c : Int32) (S : si_St) (o : Int32 × si_St), rr a b c S = some o → sd_le S o.2) (r18 : Int32 → Int32 → Int32 → Int32 → Int32 → Int32 → si_St → Option (Int32 × si_St)) (hr18 : ∀ (x0 : Int32) (x1 : Int32) (x2 : Int32) (x3 : Int32) (x4 : Int32) (x5 : Int32) (S : si_St) (o : Int32 × si_St), r18 x0 x1 x2 x3 x4 x5 S = some o → sd_le S o.2) (x0 : Int32) (x1 : Int32) (x2 : Int32) (x3 : Int32) (x4 : Int32) (x5 : Int32) (S : si_St) (o : Int32 × si_St) (h : f_L_isEnoughB_h18 F d rr r18 x0 x1 x2 x3 x4 x5 S = some o) : sd_le S o.2 := by
  have g : sd_le S S := sd_le.rf
  unfold f_L_isEnoughB_h18 at h
  rcases Decidable.em (x2 ≤ x5) with c21 | c21
  · have h := si_ip c21 h
    rcases Decidable.em (x3 ≤ x4) with c39 | c39
    · have h := si_ip c39 h
      exact g.tr (mo_L_isEnoughB_l47 F d rr hrr F _ _ _ _ _ _ h)
    · have h := si_in c39 h
      obtain ⟨v16, ev16, h⟩ := si_ob h
      obtain rfl := Option.some.inj h
      exact g
  · have h := si_in c21 h
    obtain ⟨v17, ev17, h⟩ := si_ob h
    obtain ⟨v18, ev18, h⟩ := si_ob h
    exact g.tr (hr18 _ _ _ _ _ _ _ _ h)
theorem mo_L_isEnoughB_l18 (F : Nat) (d : Nat) (rr : Int32 → Int32 → Int32 → si_St → Option (Int32 × si_St)) (hrr : ∀ (a b c : Int32) (S : si_St) (o : Int32 × si_St), rr a b c S = some o → sd_le S o.2) : ∀ (n : Nat) (x0 : Int32) (x1 : Int32) (x2 : Int32) (x3 : Int32) (x4 : Int32) (x5 : Int32) (S : si_St) (o : Int32 × si_St), f_L_isEnoughB_l18 F d rr n x0 x1 x2 x3 x4 x5 S = some o → sd_le S o.2 := by
  intro n
  induction n with
  | zero => intro x0 x1 x2 x3 x4 x5 S o h; cases h
  | succ n ih =>
    intro x0 x1 x2 x3 x4 x5 S o h
    exact mo_L_isEnoughB_h18 F d rr hrr (f_L_isEnoughB_l18 F d rr n) ih x0 x1 x2 x3 x4 x5 S o h
theorem mo_L_isEnoughB_h0 (F : Nat) (d : Nat) (rr : Int32 → Int32 → Int32 → si_St → Option (Int32 × si_St)) (hrr : ∀ (a b c : Int32) (S : si_St) (o : Int32 × si_St), rr a b c S = some o → sd_le S o.2) (x0 : Int32) (x1 : Int32) (x2 : Int32) (S : si_St) (o : Int32 × si_St) (h : f_L_isEnoughB_h0 F d rr x0 x1 x2 S = some o) : sd_le S o.2 := by
  have g : sd_le S S := sd_le.rf
  unfold f_L_isEnoughB_h0 at h
  obtain ⟨q19, eq19, h⟩ := si_ob h
  have g := g.tr (fr_J6_bitCount_0f7a4 F x0 S q19 eq19).le
  rcases Decidable.em (2 ≤ q19.1) with c7 | c7
  · have h := si_ip c7 h
    exact g.tr (mo_L_isEnoughB_l18 F d rr hrr F _ _ _ _ _ _ _ _ h)
  · have h := si_in c7 h
    obtain ⟨v20, ev20, h⟩ := si_ob h
    obtain rfl := Option.some.inj h
    exact g
theorem mo_L_isEnoughB (F : Nat) (d : Nat) (rr : Int32 → Int32 → Int32 → si_St → Option (Int32 × si_St)) (hrr : ∀ (a b c : Int32) (S : si_St) (o : Int32 × si_St), rr a b c S = some o → sd_le S o.2) (x0 : Int32) (x1 : Int32) (x2 : Int32) (S : si_St) (o : Int32 × si_St) (h : f_L_isEnoughB F d rr x0 x1 x2 S = some o) : sd_le S o.2 := by
  have g : sd_le S S := sd_le.rf
  unfold f_L_isEnoughB at h
  exact g.tr (mo_L_isEnoughB_h0 F d rr hrr _ _ _ _ _ h)
set_option maxHeartbeats 400000000 in
set_option maxRecDepth 100000 in
theorem c_L_isEnoughB (l : Launch) (E0 : si_Ev) (F : Nat) (d : Nat) (rr : Int32 → Int32 → Int32 → si_St → Option (Int32 × si_St)) (hrr : ∀ (a b c : Int32) (S : si_St) (o : Int32 × si_St), rr a b c S = some o → sd_le S o.2) (hcc : ∀ (E : si_Ev) (a b c : Int32) (S : si_St) (o : Int32 × si_St), rr a b c S = some o → sd_Mi l (al_L_isEnough d) E yL_isEnough cL_isEnough 10 (some .boolean) (d + 1) (29 * d + 30) [.int a, .int b, .int c] S o) (x0 : Int32) (x1 : Int32) (x2 : Int32) (S0 : si_St) (o : Int32 × si_St) (hf : f_L_isEnoughB F d rr x0 x1 x2 S0 = some o) : sd_Mi l (al_L_isEnough (d + 1)) E0 yL_isEnough cL_isEnough 10 (some .boolean) (d + 2) (29 * d + 59) [.int x0, .int x1, .int x2] S0 o := by
  refine sd_ofWz (plainFor_of_name (by decide +kernel)) (Nat.le_of_ble_eq_true rfl) ?_
  intro p e s m args below meth c ls Q A X hmn hw hA hl hret
  have hl : lv_has ls 10 [(0, .int x0), (1, .int x1), (2, .int x2)] := hl
  have hR : sd_RR (sd_R (d + 2) (29 * d + 59) S0 o.2) S0 o.2 := ⟨Nat.le_refl _, Nat.le_refl _⟩
  have hE : sd_EE (al_L_isEnough (d + 1)) E0 E0 := sd_EE.rf
  have hc : sd_Ct S0 S0 0 0 := ⟨Nat.le_refl _, Nat.le_refl _⟩
  have hald : al_L_isEnough (d + 1) (101 + d) = true := by simp only [al_L_isEnough, decide_eq_true_eq]; omega
  have halr : ∀ k, al_L_isEnough (d + 1) k = false → al_L_isEnough d k = false := by
    intro k h
    simp only [al_L_isEnough, decide_eq_false_iff_not] at h ⊢
    omega
  have hnot_101d : al_L_isEnough d (101 + d) = false := by simp only [al_L_isEnough, decide_eq_false_iff_not]; omega
  have hrm : sd_Rm (d + 1) (29 * d + 30) (sd_R (d + 2) (29 * d + 59) S0 o.2) 10 := ⟨Nat.le_refl _, by show 8 + (10 + 11) + (29 * d + 30) ≤ 29 * d + 59; omega⟩
  have B47 : ∀ (n47 : Nat) (x0 : Int32) (x1 : Int32) (x2 : Int32) (x5 : Int32) (E : si_Ev) (S : si_St) (H : Heap) (locs : List Loc) (ls : Array Slot) (cs ss : Nat), f_L_isEnoughB_l47 F d rr n47 x0 x1 x2 x5 S = some o → sd_EE (al_L_isEnough (d + 1)) E0 E → si_Cx p s m args c cL_isEnough 10 yL_isEnough.cls E A → si_Ws E A s.heap S H locs → sd_Ct S0 S cs ss → lv_has ls 10 [(0, .int x0), (1, .int x1), (2, .int x2), (5, .int x5)] → W p l e (sd_R (d + 2) (29 * d + 59) S0 o.2) s m args below meth c H locs cs ss Q (F0 m 47 ls []) := by
    intro n47
    induction n47 with
    | zero => intro x0 x1 x2 x5  E S H locs ls cs ss hf; cases hf
    | succ n47 ih47 =>
      have B58 : ∀ (n58 : Nat) (x0 : Int32) (x1 : Int32) (x2 : Int32) (x5 : Int32) (x6 : Int32) (E : si_Ev) (S : si_St) (H : Heap) (locs : List Loc) (ls : Array Slot) (cs ss : Nat), f_L_isEnoughB_l58 F d rr (f_L_isEnoughB_l47 F d rr n47) n58 x0 x1 x2 x5 x6 S = some o → sd_EE (al_L_isEnough (d + 1)) E0 E → si_Cx p s m args c cL_isEnough 10 yL_isEnough.cls E A → si_Ws E A s.heap S H locs → sd_Ct S0 S cs ss → lv_has ls 10 [(0, .int x0), (1, .int x1), (2, .int x2), (5, .int x5), (6, .int x6)] → W p l e (sd_R (d + 2) (29 * d + 59) S0 o.2) s m args below meth c H locs cs ss Q (F0 m 58 ls []) := by
        intro n58
        induction n58 with
        | zero => intro x0 x1 x2 x5 x6  E S H locs ls cs ss hf; cases hf
        | succ n58 ih58 =>
          have B203 : ∀ (x0 : Int32) (x1 : Int32) (x2 : Int32) (x5 : Int32) (x6 : Int32) (E : si_Ev) (S : si_St) (H : Heap) (locs : List Loc) (ls : Array Slot) (cs ss : Nat), f_L_isEnoughB_h203 F d rr (f_L_isEnoughB_l47 F d rr n47) (f_L_isEnoughB_l58 F d rr (f_L_isEnoughB_l47 F d rr n47) n58) x0 x1 x2 x5 x6 S = some o → sd_EE (al_L_isEnough (d + 1)) E0 E → si_Cx p s m args c cL_isEnough 10 yL_isEnough.cls E A → si_Ws E A s.heap S H locs → sd_Ct S0 S cs ss → lv_has ls 10 [(0, .int x0), (1, .int x1), (2, .int x2), (5, .int x5), (6, .int x6)] → W p l e (sd_R (d + 2) (29 * d + 59) S0 o.2) s m args below meth c H locs cs ss Q (F0 m 203 ls []) := by
            intro x0 x1 x2 x5 x6  E S H locs ls cs ss hf hE X hw hc hl
            have hcs := sd_room hc (mo_L_isEnoughB_h203 F d rr hrr (f_L_isEnoughB_l47 F d rr n47) (f_L_isEnoughB_l58 F d rr (f_L_isEnoughB_l47 F d rr n47) n58) (mo_L_isEnoughB_l47 F d rr hrr n47) (mo_L_isEnoughB_l58 F d rr hrr (f_L_isEnoughB_l47 F d rr n47) (mo_L_isEnoughB_l47 F d rr hrr n47) n58) _ _ _ _ _ _ _ hf) hR
            unfold f_L_isEnoughB_h203 at hf
            obtain ⟨v1, ev1, hf⟩ := si_ob hf
            refine lv_iinc (v := v1) (lv' := [(6, .int v1), (0, .int x0), (1, .int x1), (2, .int x2), (5, .int x5)]) X.1 X.2.1 dL_isEnough_203 hl (k := 4) rfl (Option.some.inj ev1) (by decide) rfl (fun ls hl => ?_)
            refine lv_goto (tgt := 58) X.1 X.2.1 dL_isEnough_206 (by decide) ?_
            exact ih58 _ _ _ _ _ _ _ _ _ _ _ _ hf hE X hw hc (lv_sub hl [1, 2, 3, 4, 0] rfl)
          have B196 : ∀ (x0 : Int32) (x1 : Int32) (x2 : Int32) (x5 : Int32) (x6 : Int32) (x8 : Int32) (E : si_Ev) (S : si_St) (H : Heap) (locs : List Loc) (ls : Array Slot) (cs ss : Nat), f_L_isEnoughB_h196 F d rr (f_L_isEnoughB_l47 F d rr n47) (f_L_isEnoughB_l58 F d rr (f_L_isEnoughB_l47 F d rr n47) n58) x0 x1 x2 x5 x6 x8 S = some o → sd_EE (al_L_isEnough (d + 1)) E0 E → si_Cx p s m args c cL_isEnough 10 yL_isEnough.cls E A → si_Ws E A s.heap S H locs → sd_Ct S0 S cs ss → lv_has ls 10 [(0, .int x0), (1, .int x1), (2, .int x2), (5, .int x5), (6, .int x6), (8, .int x8)] → W p l e (sd_R (d + 2) (29 * d + 59) S0 o.2) s m args below meth c H locs cs ss Q (F0 m 196 ls []) := by
            intro x0 x1 x2 x5 x6 x8  E S H locs ls cs ss hf hE X hw hc hl
            have hcs := sd_room hc (mo_L_isEnoughB_h196 F d rr hrr (f_L_isEnoughB_l47 F d rr n47) (f_L_isEnoughB_l58 F d rr (f_L_isEnoughB_l47 F d rr n47) n58) (mo_L_isEnoughB_l47 F d rr hrr n47) (mo_L_isEnoughB_l58 F d rr hrr (f_L_isEnoughB_l47 F d rr n47) (mo_L_isEnoughB_l47 F d rr hrr n47) n58) _ _ _ _ _ _ _ _ hf) hR
            unfold f_L_isEnoughB_h196 at hf
            refine lv_iload X.1 X.2.1 dL_isEnough_196 (lv_at hl 5 rfl) ?_
            refine lv_if_eq (tgt := 203) X.1 X.2.1 dL_isEnough_198 (by decide) (fun c198 => ?_) (fun c198 => ?_)
            · have hf := si_ip c198 hf
              exact B203 _ _ _ _ _ _ _ _ _ _ _ _ hf hE X hw hc (lv_sub hl [0, 1, 2, 3, 4] rfl)
            · have hf := si_in c198 hf
              refine lv_iconst (v := 1) X.1 X.2.1 dL_isEnough_201 (by decide) ?_
              obtain ⟨v2, ev2, hf⟩ := si_ob hf
              exact hret _ _ _ _ _ _ _ _ _ (si_bzf ev2 hf) (si_nz (si_bz_inv ev2).1) ⟨hE, hw, hc⟩ dL_isEnough_202
          have B148 : ∀ (n148 : Nat) (x0 : Int32) (x1 : Int32) (x2 : Int32) (x5 : Int32) (x6 : Int32) (x8 : Int32) (x9 : Int32) (E : si_Ev) (S : si_St) (H : Heap) (locs : List Loc) (ls : Array Slot) (cs ss : Nat), f_L_isEnoughB_l148 F d rr (f_L_isEnoughB_l47 F d rr n47) (f_L_isEnoughB_l58 F d rr (f_L_isEnoughB_l47 F d rr n47) n58) n148 x0 x1 x2 x5 x6 x8 x9 S = some o → sd_EE (al_L_isEnough (d + 1)) E0 E → si_Cx p s m args c cL_isEnough 10 yL_isEnough.cls E A → si_Ws E A s.heap S H locs → sd_Ct S0 S cs ss → lv_has ls 10 [(0, .int x0), (1, .int x1), (2, .int x2), (5, .int x5), (6, .int x6), (7, .ref (E.2.1 (101 + d))), (8, .int x8), (9, .int x9)] → W p l e (sd_R (d + 2) (29 * d + 59) S0 o.2) s m args below meth c H locs cs ss Q (F0 m 148 ls []) := by
            intro n148
            induction n148 with
            | zero => intro x0 x1 x2 x5 x6 x8 x9  E S H locs ls cs ss hf; cases hf
            | succ n148 ih148 =>
              have B188 : ∀ (x0 : Int32) (x1 : Int32) (x2 : Int32) (x5 : Int32) (x6 : Int32) (x9 : Int32) (t0 : Int32) (E : si_Ev) (S : si_St) (H : Heap) (locs : List Loc) (ls : Array Slot) (cs ss : Nat), f_L_isEnoughB_h188 F d rr (f_L_isEnoughB_l47 F d rr n47) (f_L_isEnoughB_l58 F d rr (f_L_isEnoughB_l47 F d rr n47) n58) (f_L_isEnoughB_l148 F d rr (f_L_isEnoughB_l47 F d rr n47) (f_L_isEnoughB_l58 F d rr (f_L_isEnoughB_l47 F d rr n47) n58) n148) x0 x1 x2 x5 x6 x9 t0 S = some o → sd_EE (al_L_isEnough (d + 1)) E0 E → si_Cx p s m args c cL_isEnough 10 yL_isEnough.cls E A → si_Ws E A s.heap S H locs → sd_Ct S0 S cs ss → lv_has ls 10 [(0, .int x0), (1, .int x1), (2, .int x2), (5, .int x5), (6, .int x6), (7, .ref (E.2.1 (101 + d))), (9, .int x9)] → W p l e (sd_R (d + 2) (29 * d + 59) S0 o.2) s m args below meth c H locs cs ss Q (F0 m 188 ls [.int t0]) := by
                intro x0 x1 x2 x5 x6 x9 t0  E S H locs ls cs ss hf hE X hw hc hl
                have hcs := sd_room hc (mo_L_isEnoughB_h188 F d rr hrr (f_L_isEnoughB_l47 F d rr n47) (f_L_isEnoughB_l58 F d rr (f_L_isEnoughB_l47 F d rr n47) n58) (f_L_isEnoughB_l148 F d rr (f_L_isEnoughB_l47 F d rr n47) (f_L_isEnoughB_l58 F d rr (f_L_isEnoughB_l47 F d rr n47) n58) n148) (mo_L_isEnoughB_l47 F d rr hrr n47) (mo_L_isEnoughB_l58 F d rr hrr (f_L_isEnoughB_l47 F d rr n47) (mo_L_isEnoughB_l47 F d rr hrr n47) n58) (mo_L_isEnoughB_l148 F d rr hrr (f_L_isEnoughB_l47 F d rr n47) (f_L_isEnoughB_l58 F d rr (f_L_isEnoughB_l47 F d rr n47) n58) (mo_L_isEnoughB_l47 F d rr hrr n47) (mo_L_isEnoughB_l58 F d rr hrr (f_L_isEnoughB_l47 F d rr n47) (mo_L_isEnoughB_l47 F d rr hrr n47) n58) n148) _ _ _ _ _ _ _ _ _ hf) hR
                unfold f_L_isEnoughB_h188 at hf
                refine lv_istore (lv' := [(8, .int t0), (0, .int x0), (1, .int x1), (2, .int x2), (5, .int x5), (6, .int x6), (7, .ref (E.2.1 (101 + d))), (9, .int x9)]) X.1 X.2.1 dL_isEnough_188 hl (by decide) rfl (fun ls hl => ?_)
                obtain ⟨v3, ev3, hf⟩ := si_ob hf
                refine lv_iinc (v := v3) (lv' := [(9, .int v3), (8, .int t0), (0, .int x0), (1, .int x1), (2, .int x2), (5, .int x5), (6, .int x6), (7, .ref (E.2.1 (101 + d)))]) X.1 X.2.1 dL_isEnough_190 hl (k := 7) rfl (Option.some.inj ev3) (by decide) rfl (fun ls hl => ?_)
                refine lv_goto (tgt := 148) X.1 X.2.1 dL_isEnough_193 (by decide) ?_
                exact ih148 _ _ _ _ _ _ _ _ _ _ _ _ _ _ hf hE X hw hc (lv_sub hl [2, 3, 4, 5, 6, 7, 1, 0] rfl)
              have B187 : ∀ (x0 : Int32) (x1 : Int32) (x2 : Int32) (x5 : Int32) (x6 : Int32) (x9 : Int32) (E : si_Ev) (S : si_St) (H : Heap) (locs : List Loc) (ls : Array Slot) (cs ss : Nat), f_L_isEnoughB_h187 F d rr (f_L_isEnoughB_l47 F d rr n47) (f_L_isEnoughB_l58 F d rr (f_L_isEnoughB_l47 F d rr n47) n58) (f_L_isEnoughB_l148 F d rr (f_L_isEnoughB_l47 F d rr n47) (f_L_isEnoughB_l58 F d rr (f_L_isEnoughB_l47 F d rr n47) n58) n148) x0 x1 x2 x5 x6 x9 S = some o → sd_EE (al_L_isEnough (d + 1)) E0 E → si_Cx p s m args c cL_isEnough 10 yL_isEnough.cls E A → si_Ws E A s.heap S H locs → sd_Ct S0 S cs ss → lv_has ls 10 [(0, .int x0), (1, .int x1), (2, .int x2), (5, .int x5), (6, .int x6), (7, .ref (E.2.1 (101 + d))), (9, .int x9)] → W p l e (sd_R (d + 2) (29 * d + 59) S0 o.2) s m args below meth c H locs cs ss Q (F0 m 187 ls []) := by
                intro x0 x1 x2 x5 x6 x9  E S H locs ls cs ss hf hE X hw hc hl
                have hcs := sd_room hc (mo_L_isEnoughB_h187 F d rr hrr (f_L_isEnoughB_l47 F d rr n47) (f_L_isEnoughB_l58 F d rr (f_L_isEnoughB_l47 F d rr n47) n58) (f_L_isEnoughB_l148 F d rr (f_L_isEnoughB_l47 F d rr n47) (f_L_isEnoughB_l58 F d rr (f_L_isEnoughB_l47 F d rr n47) n58) n148) (mo_L_isEnoughB_l47 F d rr hrr n47) (mo_L_isEnoughB_l58 F d rr hrr (f_L_isEnoughB_l47 F d rr n47) (mo_L_isEnoughB_l47 F d rr hrr n47) n58) (mo_L_isEnoughB_l148 F d rr hrr (f_L_isEnoughB_l47 F d rr n47) (f_L_isEnoughB_l58 F d rr (f_L_isEnoughB_l47 F d rr n47) n58) (mo_L_isEnoughB_l47 F d rr hrr n47) (mo_L_isEnoughB_l58 F d rr hrr (f_L_isEnoughB_l47 F d rr n47) (mo_L_isEnoughB_l47 F d rr hrr n47) n58) n148) _ _ _ _ _ _ _ _ hf) hR
                unfold f_L_isEnoughB_h187 at hf
                refine lv_iconst (v := 0) X.1 X.2.1 dL_isEnough_187 (by decide) ?_
                exact B188 _ _ _ _ _ _ _ _ _ _ _ _ _ _ hf hE X hw hc (lv_sub hl [0, 1, 2, 3, 4, 5, 6] rfl)
              have B180 : ∀ (x0 : Int32) (x1 : Int32) (x2 : Int32) (x5 : Int32) (x6 : Int32) (x9 : Int32) (t0 : Int32) (E : si_Ev) (S : si_St) (H : Heap) (locs : List Loc) (ls : Array Slot) (cs ss : Nat), f_L_isEnoughB_h180 F d rr (f_L_isEnoughB_l47 F d rr n47) (f_L_isEnoughB_l58 F d rr (f_L_isEnoughB_l47 F d rr n47) n58) (f_L_isEnoughB_l148 F d rr (f_L_isEnoughB_l47 F d rr n47) (f_L_isEnoughB_l58 F d rr (f_L_isEnoughB_l47 F d rr n47) n58) n148) x0 x1 x2 x5 x6 x9 t0 S = some o → sd_EE (al_L_isEnough (d + 1)) E0 E → si_Cx p s m args c cL_isEnough 10 yL_isEnough.cls E A → si_Ws E A s.heap S H locs → sd_Ct S0 S cs ss → lv_has ls 10 [(0, .int x0), (1, .int x1), (2, .int x2), (5, .int x5), (6, .int x6), (7, .ref (E.2.1 (101 + d))), (9, .int x9)] → W p l e (sd_R (d + 2) (29 * d + 59) S0 o.2) s m args below meth c H locs cs ss Q (F0 m 180 ls [.int t0]) := by
                intro x0 x1 x2 x5 x6 x9 t0  E S H locs ls cs ss hf hE X hw hc hl
                have hcs := sd_room hc (mo_L_isEnoughB_h180 F d rr hrr (f_L_isEnoughB_l47 F d rr n47) (f_L_isEnoughB_l58 F d rr (f_L_isEnoughB_l47 F d rr n47) n58) (f_L_isEnoughB_l148 F d rr (f_L_isEnoughB_l47 F d rr n47) (f_L_isEnoughB_l58 F d rr (f_L_isEnoughB_l47 F d rr n47) n58) n148) (mo_L_isEnoughB_l47 F d rr hrr n47) (mo_L_isEnoughB_l58 F d rr hrr (f_L_isEnoughB_l47 F d rr n47) (mo_L_isEnoughB_l47 F d rr hrr n47) n58) (mo_L_isEnoughB_l148 F d rr hrr (f_L_isEnoughB_l47 F d rr n47) (f_L_isEnoughB_l58 F d rr (f_L_isEnoughB_l47 F d rr n47) n58) (mo_L_isEnoughB_l47 F d rr hrr n47) (mo_L_isEnoughB_l58 F d rr hrr (f_L_isEnoughB_l47 F d rr n47) (mo_L_isEnoughB_l47 F d rr hrr n47) n58) n148) _ _ _ _ _ _ _ _ _ hf) hR
                unfold f_L_isEnoughB_h180 at hf
                refine lv_if_eq (tgt := 187) X.1 X.2.1 dL_isEnough_180 (by decide) (fun c180 => ?_) (fun c180 => ?_)
                · have hf := si_ip c180 hf
                  exact B187 _ _ _ _ _ _ _ _ _ _ _ _ _ hf hE X hw hc (lv_sub hl [0, 1, 2, 3, 4, 5, 6] rfl)
                · have hf := si_in c180 hf
                  refine lv_iconst (v := 1) X.1 X.2.1 dL_isEnough_183 (by decide) ?_
                  refine lv_goto (tgt := 188) X.1 X.2.1 dL_isEnough_184 (by decide) ?_
                  exact B188 _ _ _ _ _ _ _ _ _ _ _ _ _ _ hf hE X hw hc (lv_sub hl [0, 1, 2, 3, 4, 5, 6] rfl)
              intro x0 x1 x2 x5 x6 x8 x9  E S H locs ls cs ss hf hE X hw hc hl
              have hf : f_L_isEnoughB_h148 F d rr (f_L_isEnoughB_l47 F d rr n47) (f_L_isEnoughB_l58 F d rr (f_L_isEnoughB_l47 F d rr n47) n58) (f_L_isEnoughB_l148 F d rr (f_L_isEnoughB_l47 F d rr n47) (f_L_isEnoughB_l58 F d rr (f_L_isEnoughB_l47 F d rr n47) n58) n148) x0 x1 x2 x5 x6 x8 x9 S = some o := hf
              have ih_mo := mo_L_isEnoughB_l148 F d rr hrr (f_L_isEnoughB_l47 F d rr n47) (f_L_isEnoughB_l58 F d rr (f_L_isEnoughB_l47 F d rr n47) n58) (mo_L_isEnoughB_l47 F d rr hrr n47) (mo_L_isEnoughB_l58 F d rr hrr (f_L_isEnoughB_l47 F d rr n47) (mo_L_isEnoughB_l47 F d rr hrr n47) n58) n148
              have hcs := sd_room hc (mo_L_isEnoughB_h148 F d rr hrr (f_L_isEnoughB_l47 F d rr n47) (f_L_isEnoughB_l58 F d rr (f_L_isEnoughB_l47 F d rr n47) n58) (f_L_isEnoughB_l148 F d rr (f_L_isEnoughB_l47 F d rr n47) (f_L_isEnoughB_l58 F d rr (f_L_isEnoughB_l47 F d rr n47) n58) n148) (mo_L_isEnoughB_l47 F d rr hrr n47) (mo_L_isEnoughB_l58 F d rr hrr (f_L_isEnoughB_l47 F d rr n47) (mo_L_isEnoughB_l47 F d rr hrr n47) n58) ih_mo _ _ _ _ _ _ _ _ _ hf) hR
              unfold f_L_isEnoughB_h148 at hf
              refine lv_iload X.1 X.2.1 dL_isEnough_148 (lv_at hl 7 rfl) ?_
              refine lv_iconst (v := 3) X.1 X.2.1 dL_isEnough_150 (by decide) ?_
              refine lv_icmp_ge (tgt := 196) X.1 X.2.1 dL_isEnough_151 (by decide) (fun c151 => ?_) (fun c151 => ?_)
              · have hf := si_ip c151 hf
                exact B196 _ _ _ _ _ _ _ _ _ _ _ _ _ hf hE X hw hc (lv_sub hl [0, 1, 2, 3, 4, 6] rfl)
              · have hf := si_in c151 hf
                refine lv_iload X.1 X.2.1 dL_isEnough_154 (lv_at hl 6 rfl) ?_
                refine lv_if_eq (tgt := 196) X.1 X.2.1 dL_isEnough_156 (by decide) (fun c156 => ?_) (fun c156 => ?_)
                · have hf := si_ip c156 hf
                  exact B196 _ _ _ _ _ _ _ _ _ _ _ _ _ hf hE X hw hc (lv_sub hl [0, 1, 2, 3, 4, 6] rfl)
                · have hf := si_in c156 hf
                  refine lv_aload X.1 X.2.1 dL_isEnough_159 (lv_at hl 5 rfl) ?_
                  refine lv_iload X.1 X.2.1 dL_isEnough_161 (lv_at hl 7 rfl) ?_
                  obtain ⟨v4, ev4, hf⟩ := si_ob hf
                  refine sd_iald X hw (sd_kd101 d) ev4 dL_isEnough_163 ?_
                  refine lv_iload_n X.1 X.2.1 dL_isEnough_164 rfl (lv_at hl 0 rfl) ?_
                  refine lv_icmp_eq (tgt := 187) X.1 X.2.1 dL_isEnough_165 (by decide) (fun c165 => ?_) (fun c165 => ?_)
                  · have hf := si_ip c165 hf
                    exact B187 _ _ _ _ _ _ _ _ _ _ _ _ _ hf hE X hw hc (lv_sub hl [0, 1, 2, 3, 4, 5, 7] rfl)
                  · have hf := si_in c165 hf
                    refine lv_aload X.1 X.2.1 dL_isEnough_168 (lv_at hl 5 rfl) ?_
                    refine lv_iload X.1 X.2.1 dL_isEnough_170 (lv_at hl 7 rfl) ?_
                    obtain ⟨v5, ev5, hf⟩ := si_ob hf
                    refine sd_iald X hw (sd_kd101 d) ev5 dL_isEnough_172 ?_
                    refine lv_iload_n X.1 X.2.1 dL_isEnough_173 rfl (lv_at hl 1 rfl) ?_
                    refine lv_iload_n X.1 X.2.1 dL_isEnough_174 rfl (lv_at hl 2 rfl) ?_
                    refine lv_iconst (v := 1) X.1 X.2.1 dL_isEnough_175 (by decide) ?_
                    refine lv_isub X.1 X.2.1 dL_isEnough_176 ?_
                    obtain ⟨q6, eq6, hf⟩ := si_ob hf
                    refine sd_goi (sd_runS (As := [.int v5, .int x1, .int (x2 - 1)]) (rest := []) cal_L_isEnough gm_RL_107 X hw hA hl.1 ((hcc E v5 x1 (x2 - 1) S q6 eq6) H.size) hrm rfl (Nat.le_of_ble_eq_true rfl) (sd_room2 hc (hrr v5 x1 (x2 - 1) S q6 eq6) (mo_L_isEnoughB_h180 F d rr hrr (f_L_isEnoughB_l47 F d rr n47) (f_L_isEnoughB_l58 F d rr (f_L_isEnoughB_l47 F d rr n47) n58) (f_L_isEnoughB_l148 F d rr (f_L_isEnoughB_l47 F d rr n47) (f_L_isEnoughB_l58 F d rr (f_L_isEnoughB_l47 F d rr n47) n58) n148) (mo_L_isEnoughB_l47 F d rr hrr n47) (mo_L_isEnoughB_l58 F d rr hrr (f_L_isEnoughB_l47 F d rr n47) (mo_L_isEnoughB_l47 F d rr hrr n47) n58) (mo_L_isEnoughB_l148 F d rr hrr (f_L_isEnoughB_l47 F d rr n47) (f_L_isEnoughB_l58 F d rr (f_L_isEnoughB_l47 F d rr n47) n58) (mo_L_isEnoughB_l47 F d rr hrr n47) (mo_L_isEnoughB_l58 F d rr hrr (f_L_isEnoughB_l47 F d rr n47) (mo_L_isEnoughB_l47 F d rr hrr n47) n58) n148) _ _ _ _ _ _ _ _ _ hf) hR) dL_isEnough_177) X hw hA hE hc (hrr v5 x1 (x2 - 1) S q6 eq6) halr (fun E H locs cs ss hZ hE X hw hc => ?_)
                    rw [← hZ.at (101 + d) hnot_101d] at hl
                    exact B180 _ _ _ _ _ _ _ _ _ _ _ _ _ _ hf hE X hw hc (lv_sub hl [0, 1, 2, 3, 4, 5, 7] rfl)
          have B97 : ∀ (n97 : Nat) (x0 : Int32) (x1 : Int32) (x2 : Int32) (x5 : Int32) (x6 : Int32) (x8 : Int32) (E : si_Ev) (S : si_St) (H : Heap) (locs : List Loc) (ls : Array Slot) (cs ss : Nat), f_L_isEnoughB_l97 F d rr (f_L_isEnoughB_l47 F d rr n47) (f_L_isEnoughB_l58 F d rr (f_L_isEnoughB_l47 F d rr n47) n58) n97 x0 x1 x2 x5 x6 x8 S = some o → sd_EE (al_L_isEnough (d + 1)) E0 E → si_Cx p s m args c cL_isEnough 10 yL_isEnough.cls E A → si_Ws E A s.heap S H locs → sd_Ct S0 S cs ss → lv_has ls 10 [(0, .int x0), (1, .int x1), (2, .int x2), (5, .int x5), (6, .int x6), (7, .ref (E.2.1 (101 + d))), (8, .int x8)] → W p l e (sd_R (d + 2) (29 * d + 59) S0 o.2) s m args below meth c H locs cs ss Q (F0 m 97 ls []) := by
            intro n97
            induction n97 with
            | zero => intro x0 x1 x2 x5 x6 x8  E S H locs ls cs ss hf; cases hf
            | succ n97 ih97 =>
              have B136 : ∀ (x0 : Int32) (x1 : Int32) (x2 : Int32) (x5 : Int32) (x6 : Int32) (x8 : Int32) (E : si_Ev) (S : si_St) (H : Heap) (locs : List Loc) (ls : Array Slot) (cs ss : Nat), f_L_isEnoughB_h136 F d rr (f_L_isEnoughB_l47 F d rr n47) (f_L_isEnoughB_l58 F d rr (f_L_isEnoughB_l47 F d rr n47) n58) (f_L_isEnoughB_l97 F d rr (f_L_isEnoughB_l47 F d rr n47) (f_L_isEnoughB_l58 F d rr (f_L_isEnoughB_l47 F d rr n47) n58) n97) x0 x1 x2 x5 x6 x8 S = some o → sd_EE (al_L_isEnough (d + 1)) E0 E → si_Cx p s m args c cL_isEnough 10 yL_isEnough.cls E A → si_Ws E A s.heap S H locs → sd_Ct S0 S cs ss → lv_has ls 10 [(0, .int x0), (1, .int x1), (2, .int x2), (5, .int x5), (6, .int x6), (7, .ref (E.2.1 (101 + d))), (8, .int x8)] → W p l e (sd_R (d + 2) (29 * d + 59) S0 o.2) s m args below meth c H locs cs ss Q (F0 m 136 ls []) := by
                intro x0 x1 x2 x5 x6 x8  E S H locs ls cs ss hf hE X hw hc hl
                have hcs := sd_room hc (mo_L_isEnoughB_h136 F d rr hrr (f_L_isEnoughB_l47 F d rr n47) (f_L_isEnoughB_l58 F d rr (f_L_isEnoughB_l47 F d rr n47) n58) (f_L_isEnoughB_l97 F d rr (f_L_isEnoughB_l47 F d rr n47) (f_L_isEnoughB_l58 F d rr (f_L_isEnoughB_l47 F d rr n47) n58) n97) (mo_L_isEnoughB_l47 F d rr hrr n47) (mo_L_isEnoughB_l58 F d rr hrr (f_L_isEnoughB_l47 F d rr n47) (mo_L_isEnoughB_l47 F d rr hrr n47) n58) (mo_L_isEnoughB_l97 F d rr hrr (f_L_isEnoughB_l47 F d rr n47) (f_L_isEnoughB_l58 F d rr (f_L_isEnoughB_l47 F d rr n47) n58) (mo_L_isEnoughB_l47 F d rr hrr n47) (mo_L_isEnoughB_l58 F d rr hrr (f_L_isEnoughB_l47 F d rr n47) (mo_L_isEnoughB_l47 F d rr hrr n47) n58) n97) _ _ _ _ _ _ _ _ hf) hR
                unfold f_L_isEnoughB_h136 at hf
                obtain ⟨v7, ev7, hf⟩ := si_ob hf
                refine lv_iinc (v := v7) (lv' := [(8, .int v7), (0, .int x0), (1, .int x1), (2, .int x2), (5, .int x5), (6, .int x6), (7, .ref (E.2.1 (101 + d)))]) X.1 X.2.1 dL_isEnough_136 hl (k := 6) rfl (Option.some.inj ev7) (by decide) rfl (fun ls hl => ?_)
                refine lv_goto (tgt := 97) X.1 X.2.1 dL_isEnough_139 (by decide) ?_
                exact ih97 _ _ _ _ _ _ _ _ _ _ _ _ _ hf hE X hw hc (lv_sub hl [1, 2, 3, 4, 5, 6, 0] rfl)
              intro x0 x1 x2 x5 x6 x8  E S H locs ls cs ss hf hE X hw hc hl
              have hf : f_L_isEnoughB_h97 F d rr (f_L_isEnoughB_l47 F d rr n47) (f_L_isEnoughB_l58 F d rr (f_L_isEnoughB_l47 F d rr n47) n58) (f_L_isEnoughB_l97 F d rr (f_L_isEnoughB_l47 F d rr n47) (f_L_isEnoughB_l58 F d rr (f_L_isEnoughB_l47 F d rr n47) n58) n97) x0 x1 x2 x5 x6 x8 S = some o := hf
              have ih_mo := mo_L_isEnoughB_l97 F d rr hrr (f_L_isEnoughB_l47 F d rr n47) (f_L_isEnoughB_l58 F d rr (f_L_isEnoughB_l47 F d rr n47) n58) (mo_L_isEnoughB_l47 F d rr hrr n47) (mo_L_isEnoughB_l58 F d rr hrr (f_L_isEnoughB_l47 F d rr n47) (mo_L_isEnoughB_l47 F d rr hrr n47) n58) n97
              have hcs := sd_room hc (mo_L_isEnoughB_h97 F d rr hrr (f_L_isEnoughB_l47 F d rr n47) (f_L_isEnoughB_l58 F d rr (f_L_isEnoughB_l47 F d rr n47) n58) (f_L_isEnoughB_l97 F d rr (f_L_isEnoughB_l47 F d rr n47) (f_L_isEnoughB_l58 F d rr (f_L_isEnoughB_l47 F d rr n47) n58) n97) (mo_L_isEnoughB_l47 F d rr hrr n47) (mo_L_isEnoughB_l58 F d rr hrr (f_L_isEnoughB_l47 F d rr n47) (mo_L_isEnoughB_l47 F d rr hrr n47) n58) ih_mo _ _ _ _ _ _ _ _ hf) hR
              unfold f_L_isEnoughB_h97 at hf
              refine lv_iload X.1 X.2.1 dL_isEnough_97 (lv_at hl 6 rfl) ?_
              refine lv_iconst (v := 1) X.1 X.2.1 dL_isEnough_99 (by decide) ?_
              refine lv_iconst (v := 2) X.1 X.2.1 dL_isEnough_100 (by decide) ?_
              refine lv_iload_n X.1 X.2.1 dL_isEnough_101 rfl (lv_at hl 1 rfl) ?_
              refine lv_imul X.1 X.2.1 dL_isEnough_102 ?_
              refine lv_iadd X.1 X.2.1 dL_isEnough_103 ?_
              refine lv_icmp_ge (tgt := 142) X.1 X.2.1 dL_isEnough_104 (by decide) (fun c104 => ?_) (fun c104 => ?_)
              · have hf := si_ip c104 hf
                refine lv_iconst (v := 1) X.1 X.2.1 dL_isEnough_142 (by decide) ?_
                refine lv_istore (lv' := [(8, .int 1), (0, .int x0), (1, .int x1), (2, .int x2), (5, .int x5), (6, .int x6), (7, .ref (E.2.1 (101 + d)))]) X.1 X.2.1 dL_isEnough_143 hl (by decide) rfl (fun ls hl => ?_)
                refine lv_iconst (v := 0) X.1 X.2.1 dL_isEnough_145 (by decide) ?_
                refine lv_istore (lv' := [(9, .int 0), (8, .int 1), (0, .int x0), (1, .int x1), (2, .int x2), (5, .int x5), (6, .int x6), (7, .ref (E.2.1 (101 + d)))]) X.1 X.2.1 dL_isEnough_146 hl (by decide) rfl (fun ls hl => ?_)
                exact B148 F _ _ _ _ _ _ _ _ _ _ _ _ _ _ hf hE X hw hc (lv_sub hl [2, 3, 4, 5, 6, 7, 1, 0] rfl)
              · have hf := si_in c104 hf
                refine lv_iload_n X.1 X.2.1 dL_isEnough_107 rfl (lv_at hl 0 rfl) ?_
                refine lv_iload X.1 X.2.1 dL_isEnough_108 (lv_at hl 6 rfl) ?_
                refine lv_ishr X.1 X.2.1 dL_isEnough_110 ?_
                refine lv_iconst (v := 1) X.1 X.2.1 dL_isEnough_111 (by decide) ?_
                refine lv_iand X.1 X.2.1 dL_isEnough_112 ?_
                refine lv_iconst (v := 1) X.1 X.2.1 dL_isEnough_113 (by decide) ?_
                refine lv_icmp_ne (tgt := 136) X.1 X.2.1 dL_isEnough_114 (by decide) (fun c114 => ?_) (fun c114 => ?_)
                · have hf := si_in c114 hf
                  exact B136 _ _ _ _ _ _ _ _ _ _ _ _ _ hf hE X hw hc (lv_sub hl [0, 1, 2, 3, 4, 5, 6] rfl)
                · have hf := si_ip c114 hf
                  refine lv_aload X.1 X.2.1 dL_isEnough_117 (lv_at hl 5 rfl) ?_
                  refine lv_iload X.1 X.2.1 dL_isEnough_119 (lv_at hl 6 rfl) ?_
                  refine lv_iload X.1 X.2.1 dL_isEnough_121 (lv_at hl 3 rfl) ?_
                  refine lv_iload X.1 X.2.1 dL_isEnough_123 (lv_at hl 4 rfl) ?_
                  obtain ⟨q8, eq8, hf⟩ := si_ob hf
                  refine si_cSi [.int x8, .int x5, .int x6] cal_L_result gm_RL_103 X hw hA hl.1 (c_L_result l E F x8 x5 x6 S q8 eq8) ⟨⟨rfl, rfl⟩, sd_ble1 (d := d) rfl, sd_ble2 (d := d) rfl⟩ rfl rfl (Nat.le_of_ble_eq_true rfl) hcs dL_isEnough_125 (fun H locs hw => ?_)
                  have hc := hc.up (fr_L_result F x8 x5 x6 S q8 eq8).le
                  refine lv_dup2_11 X.1 X.2.1 dL_isEnough_128 rfl rfl ?_
                  obtain ⟨v9, ev9, hf⟩ := si_ob hf
                  refine sd_iald X hw (sd_kd101 d) ev9 dL_isEnough_129 ?_
                  refine lv_iconst (v := 1) X.1 X.2.1 dL_isEnough_130 (by decide) ?_
                  refine lv_iload X.1 X.2.1 dL_isEnough_131 (lv_at hl 6 rfl) ?_
                  refine lv_ishl X.1 X.2.1 dL_isEnough_133 ?_
                  refine lv_ior X.1 X.2.1 dL_isEnough_134 ?_
                  obtain ⟨S10, eS10, hf⟩ := si_ob hf
                  refine sd_iast X hw (sd_kd101 d) eS10 dL_isEnough_135 (fun H locs hw => ?_)
                  have hc := hc.up (sd_wr_m eS10)
                  exact B136 _ _ _ _ _ _ _ _ _ _ _ _ _ hf hE X hw hc (lv_sub hl [0, 1, 2, 3, 4, 5, 6] rfl)
          have B92 : ∀ (x0 : Int32) (x1 : Int32) (x2 : Int32) (x5 : Int32) (x6 : Int32) (E : si_Ev) (S : si_St) (H : Heap) (locs : List Loc) (ls : Array Slot) (cs ss : Nat), f_L_isEnoughB_h92 F d rr (f_L_isEnoughB_l47 F d rr n47) (f_L_isEnoughB_l58 F d rr (f_L_isEnoughB_l47 F d rr n47) n58) x0 x1 x2 x5 x6 S = some o → sd_EE (al_L_isEnough (d + 1)) E0 E → si_Cx p s m args c cL_isEnough 10 yL_isEnough.cls E A → si_Ws E A s.heap S H locs → sd_Ct S0 S cs ss → lv_has ls 10 [(0, .int x0), (1, .int x1), (2, .int x2), (5, .int x5), (6, .int x6)] → W p l e (sd_R (d + 2) (29 * d + 59) S0 o.2) s m args below meth c H locs cs ss Q (F0 m 92 ls [.ref (E.2.1 (101 + d))]) := by
            intro x0 x1 x2 x5 x6  E S H locs ls cs ss hf hE X hw hc hl
            have hcs := sd_room hc (mo_L_isEnoughB_h92 F d rr hrr (f_L_isEnoughB_l47 F d rr n47) (f_L_isEnoughB_l58 F d rr (f_L_isEnoughB_l47 F d rr n47) n58) (mo_L_isEnoughB_l47 F d rr hrr n47) (mo_L_isEnoughB_l58 F d rr hrr (f_L_isEnoughB_l47 F d rr n47) (mo_L_isEnoughB_l47 F d rr hrr n47) n58) _ _ _ _ _ _ _ hf) hR
            unfold f_L_isEnoughB_h92 at hf
            refine lv_astore (lv' := [(7, .ref (E.2.1 (101 + d))), (0, .int x0), (1, .int x1), (2, .int x2), (5, .int x5), (6, .int x6)]) X.1 X.2.1 dL_isEnough_92 hl (by decide) rfl (fun ls hl => ?_)
            refine lv_iconst (v := 0) X.1 X.2.1 dL_isEnough_94 (by decide) ?_
            refine lv_istore (lv' := [(8, .int 0), (7, .ref (E.2.1 (101 + d))), (0, .int x0), (1, .int x1), (2, .int x2), (5, .int x5), (6, .int x6)]) X.1 X.2.1 dL_isEnough_95 hl (by decide) rfl (fun ls hl => ?_)
            exact B97 F _ _ _ _ _ _ _ _ _ _ _ _ _ hf hE X hw hc (lv_sub hl [2, 3, 4, 5, 6, 1, 0] rfl)
          intro x0 x1 x2 x5 x6  E S H locs ls cs ss hf hE X hw hc hl
          have hf : f_L_isEnoughB_h58 F d rr (f_L_isEnoughB_l47 F d rr n47) (f_L_isEnoughB_l58 F d rr (f_L_isEnoughB_l47 F d rr n47) n58) x0 x1 x2 x5 x6 S = some o := hf
          have ih_mo := mo_L_isEnoughB_l58 F d rr hrr (f_L_isEnoughB_l47 F d rr n47) (mo_L_isEnoughB_l47 F d rr hrr n47) n58
          have hcs := sd_room hc (mo_L_isEnoughB_h58 F d rr hrr (f_L_isEnoughB_l47 F d rr n47) (f_L_isEnoughB_l58 F d rr (f_L_isEnoughB_l47 F d rr n47) n58) (mo_L_isEnoughB_l47 F d rr hrr n47) ih_mo _ _ _ _ _ _ _ hf) hR
          unfold f_L_isEnoughB_h58 at hf
          refine lv_iload X.1 X.2.1 dL_isEnough_58 (lv_at hl 4 rfl) ?_
          refine lv_iload X.1 X.2.1 dL_isEnough_60 (lv_at hl 3 rfl) ?_
          refine lv_icmp_ge (tgt := 209) X.1 X.2.1 dL_isEnough_62 (by decide) (fun c62 => ?_) (fun c62 => ?_)
          · have hf := si_ip c62 hf
            obtain ⟨v11, ev11, hf⟩ := si_ob hf
            refine lv_iinc (v := v11) (lv' := [(5, .int v11), (0, .int x0), (1, .int x1), (2, .int x2), (6, .int x6)]) X.1 X.2.1 dL_isEnough_209 hl (k := 3) rfl (Option.some.inj ev11) (by decide) rfl (fun ls hl => ?_)
            refine lv_goto (tgt := 47) X.1 X.2.1 dL_isEnough_212 (by decide) ?_
            exact ih47 _ _ _ _ _ _ _ _ _ _ _ hf hE X hw hc (lv_sub hl [1, 2, 3, 0] rfl)
          · have hf := si_in c62 hf
            refine lv_iload X.1 X.2.1 dL_isEnough_65 (lv_at hl 3 rfl) ?_
            refine lv_iload X.1 X.2.1 dL_isEnough_67 (lv_at hl 4 rfl) ?_
            refine lv_iand X.1 X.2.1 dL_isEnough_69 ?_
            refine lv_if_ne (tgt := 203) X.1 X.2.1 dL_isEnough_70 (by decide) (fun c70 => ?_) (fun c70 => ?_)
            · have hf := si_in c70 hf
              exact B203 _ _ _ _ _ _ _ _ _ _ _ _ hf hE X hw hc (lv_sub hl [0, 1, 2, 3, 4] rfl)
            · have hf := si_ip c70 hf
              refine lv_iload X.1 X.2.1 dL_isEnough_73 (lv_at hl 3 rfl) ?_
              obtain ⟨q12, eq12, hf⟩ := si_ob hf
              refine si_cSi [.int x5] cal_J6_bitCount_0f7a4 gm_RL_98 X hw hA hl.1 (c_J6_bitCount_0f7a4 l E F x5 S q12 eq12) ⟨⟨rfl, rfl⟩, sd_ble1 (d := d) rfl, sd_ble2 (d := d) rfl⟩ rfl rfl (Nat.le_of_ble_eq_true rfl) hcs dL_isEnough_75 (fun H locs hw => ?_)
              have hc := hc.up (fr_J6_bitCount_0f7a4 F x5 S q12 eq12).le
              refine lv_iload X.1 X.2.1 dL_isEnough_78 (lv_at hl 4 rfl) ?_
              obtain ⟨q13, eq13, hf⟩ := si_ob hf
              refine si_cSi [.int x6] cal_J6_bitCount_0f7a4 gm_RL_98 X hw hA hl.1 (c_J6_bitCount_0f7a4 l E F x6 q12.2 q13 eq13) ⟨⟨rfl, rfl⟩, sd_ble1 (d := d) rfl, sd_ble2 (d := d) rfl⟩ rfl rfl (Nat.le_of_ble_eq_true rfl) hcs dL_isEnough_80 (fun H locs hw => ?_)
              have hc := hc.up (fr_J6_bitCount_0f7a4 F x6 q12.2 q13 eq13).le
              refine lv_icmp_eq (tgt := 89) X.1 X.2.1 dL_isEnough_83 (by decide) (fun c83 => ?_) (fun c83 => ?_)
              · have hf := si_ip c83 hf
                refine lv_iconst (v := 3) X.1 X.2.1 dL_isEnough_89 (by decide) ?_
                obtain ⟨S14, eS14, hf⟩ := si_ob hf
                refine sd_newI X hw hA hE hc hR ga_int (sd_kd101 d) hald eS14 (mo_L_isEnoughB_h92 F d rr hrr (f_L_isEnoughB_l47 F d rr n47) (f_L_isEnoughB_l58 F d rr (f_L_isEnoughB_l47 F d rr n47) n58) (mo_L_isEnoughB_l47 F d rr hrr n47) (mo_L_isEnoughB_l58 F d rr hrr (f_L_isEnoughB_l47 F d rr n47) (mo_L_isEnoughB_l47 F d rr hrr n47) n58) _ _ _ _ _ _ _ hf) dL_isEnough_90 (fun E H cs ss hZ hE X hw hc => ?_)
                exact B92 _ _ _ _ _ _ _ _ _ _ _ _ hf hE X hw hc (lv_sub hl [0, 1, 2, 3, 4] rfl)
              · have hf := si_in c83 hf
                refine lv_goto (tgt := 203) X.1 X.2.1 dL_isEnough_86 (by decide) ?_
                exact B203 _ _ _ _ _ _ _ _ _ _ _ _ hf hE X hw hc (lv_sub hl [0, 1, 2, 3, 4] rfl)
      intro x0 x1 x2 x5  E S H locs ls cs ss hf hE X hw hc hl
      have hf : f_L_isEnoughB_h47 F d rr (f_L_isEnoughB_l47 F d rr n47) x0 x1 x2 x5 S = some o := hf
      have ih_mo := mo_L_isEnoughB_l47 F d rr hrr n47
      have hcs := sd_room hc (mo_L_isEnoughB_h47 F d rr hrr (f_L_isEnoughB_l47 F d rr n47) ih_mo _ _ _ _ _ _ hf) hR
      unfold f_L_isEnoughB_h47 at hf
      refine lv_iload X.1 X.2.1 dL_isEnough_47 (lv_at hl 3 rfl) ?_
      refine lv_iconst (v := 1) X.1 X.2.1 dL_isEnough_49 (by decide) ?_
      refine lv_iload_n X.1 X.2.1 dL_isEnough_50 rfl (lv_at hl 1 rfl) ?_
      refine lv_ishl X.1 X.2.1 dL_isEnough_51 ?_
      refine lv_icmp_ge (tgt := 215) X.1 X.2.1 dL_isEnough_52 (by decide) (fun c52 => ?_) (fun c52 => ?_)
      · have hf := si_ip c52 hf
        refine lv_iconst (v := 0) X.1 X.2.1 dL_isEnough_215 (by decide) ?_
        obtain ⟨v15, ev15, hf⟩ := si_ob hf
        exact hret _ _ _ _ _ _ _ _ _ (si_bzf ev15 hf) (si_nz (si_bz_inv ev15).1) ⟨hE, hw, hc⟩ dL_isEnough_216
      · have hf := si_in c52 hf
        refine lv_iconst (v := 1) X.1 X.2.1 dL_isEnough_55 (by decide) ?_
        refine lv_istore (lv' := [(6, .int 1), (0, .int x0), (1, .int x1), (2, .int x2), (5, .int x5)]) X.1 X.2.1 dL_isEnough_56 hl (by decide) rfl (fun ls hl => ?_)
        exact B58 F _ _ _ _ _ _ _ _ _ _ _ _ hf hE X hw hc (lv_sub hl [1, 2, 3, 4, 0] rfl)
  have B18 : ∀ (n18 : Nat) (x0 : Int32) (x1 : Int32) (x2 : Int32) (x3 : Int32) (x4 : Int32) (x5 : Int32) (E : si_Ev) (S : si_St) (H : Heap) (locs : List Loc) (ls : Array Slot) (cs ss : Nat), f_L_isEnoughB_l18 F d rr n18 x0 x1 x2 x3 x4 x5 S = some o → sd_EE (al_L_isEnough (d + 1)) E0 E → si_Cx p s m args c cL_isEnough 10 yL_isEnough.cls E A → si_Ws E A s.heap S H locs → sd_Ct S0 S cs ss → lv_has ls 10 [(0, .int x0), (1, .int x1), (2, .int x2), (3, .int x3), (4, .int x4), (5, .int x5)] → W p l e (sd_R (d + 2) (29 * d + 59) S0 o.2) s m args below meth c H locs cs ss Q (F0 m 18 ls []) := by
    intro n18
    induction n18 with
    | zero => intro x0 x1 x2 x3 x4 x5  E S H locs ls cs ss hf; cases hf
    | succ n18 ih18 =>
      intro x0 x1 x2 x3 x4 x5  E S H locs ls cs ss hf hE X hw hc hl
      have hf : f_L_isEnoughB_h18 F d rr (f_L_isEnoughB_l18 F d rr n18) x0 x1 x2 x3 x4 x5 S = some o := hf
      have ih_mo := mo_L_isEnoughB_l18 F d rr hrr n18
      have hcs := sd_room hc (mo_L_isEnoughB_h18 F d rr hrr (f_L_isEnoughB_l18 F d rr n18) ih_mo _ _ _ _ _ _ _ _ hf) hR
      unfold f_L_isEnoughB_h18 at hf
      refine lv_iload X.1 X.2.1 dL_isEnough_18 (lv_at hl 5 rfl) ?_
      refine lv_iload_n X.1 X.2.1 dL_isEnough_20 rfl (lv_at hl 2 rfl) ?_
      refine lv_icmp_ge (tgt := 36) X.1 X.2.1 dL_isEnough_21 (by decide) (fun c21 => ?_) (fun c21 => ?_)
      · have hf := si_ip c21 hf
        refine lv_iload_n X.1 X.2.1 dL_isEnough_36 rfl (lv_at hl 3 rfl) ?_
        refine lv_iload X.1 X.2.1 dL_isEnough_37 (lv_at hl 4 rfl) ?_
        refine lv_icmp_le (tgt := 44) X.1 X.2.1 dL_isEnough_39 (by decide) (fun c39 => ?_) (fun c39 => ?_)
        · have hf := si_ip c39 hf
          refine lv_iconst (v := 1) X.1 X.2.1 dL_isEnough_44 (by decide) ?_
          refine lv_istore (lv' := [(5, .int 1), (0, .int x0), (1, .int x1), (2, .int x2), (3, .int x3), (4, .int x4)]) X.1 X.2.1 dL_isEnough_45 hl (by decide) rfl (fun ls hl => ?_)
          exact B47 F _ _ _ _ _ _ _ _ _ _ _ hf hE X hw hc (lv_sub hl [1, 2, 3, 0] rfl)
        · have hf := si_in c39 hf
          refine lv_iconst (v := 0) X.1 X.2.1 dL_isEnough_42 (by decide) ?_
          obtain ⟨v16, ev16, hf⟩ := si_ob hf
          exact hret _ _ _ _ _ _ _ _ _ (si_bzf ev16 hf) (si_nz (si_bz_inv ev16).1) ⟨hE, hw, hc⟩ dL_isEnough_43
      · have hf := si_in c21 hf
        refine lv_iload X.1 X.2.1 dL_isEnough_24 (lv_at hl 4 rfl) ?_
        refine lv_iconst (v := 3) X.1 X.2.1 dL_isEnough_26 (by decide) ?_
        refine lv_imul X.1 X.2.1 dL_isEnough_27 ?_
        obtain ⟨v17, ev17, hf⟩ := si_ob hf
        refine si_nmI ev17 ?_
        refine lv_istore (lv' := [(4, .int v17), (0, .int x0), (1, .int x1), (2, .int x2), (3, .int x3), (5, .int x5)]) X.1 X.2.1 dL_isEnough_28 hl (by decide) rfl (fun ls hl => ?_)
        obtain ⟨v18, ev18, hf⟩ := si_ob hf
        refine lv_iinc (v := v18) (lv' := [(5, .int v18), (4, .int v17), (0, .int x0), (1, .int x1), (2, .int x2), (3, .int x3)]) X.1 X.2.1 dL_isEnough_30 hl (k := 5) rfl (Option.some.inj ev18) (by decide) rfl (fun ls hl => ?_)
        refine lv_goto (tgt := 18) X.1 X.2.1 dL_isEnough_33 (by decide) ?_
        exact ih18 _ _ _ _ _ _ _ _ _ _ _ _ _ hf hE X hw hc (lv_sub hl [2, 3, 4, 5, 1, 0] rfl)
  have B0 : ∀ (x0 : Int32) (x1 : Int32) (x2 : Int32) (E : si_Ev) (S : si_St) (H : Heap) (locs : List Loc) (ls : Array Slot) (cs ss : Nat), f_L_isEnoughB_h0 F d rr x0 x1 x2 S = some o → sd_EE (al_L_isEnough (d + 1)) E0 E → si_Cx p s m args c cL_isEnough 10 yL_isEnough.cls E A → si_Ws E A s.heap S H locs → sd_Ct S0 S cs ss → lv_has ls 10 [(0, .int x0), (1, .int x1), (2, .int x2)] → W p l e (sd_R (d + 2) (29 * d + 59) S0 o.2) s m args below meth c H locs cs ss Q (F0 m 0 ls []) := by
    intro x0 x1 x2  E S H locs ls cs ss hf hE X hw hc hl
    have hcs := sd_room hc (mo_L_isEnoughB_h0 F d rr hrr _ _ _ _ _ hf) hR
    unfold f_L_isEnoughB_h0 at hf
    refine lv_iload_n X.1 X.2.1 dL_isEnough_0 rfl (lv_at hl 0 rfl) ?_
    obtain ⟨q19, eq19, hf⟩ := si_ob hf
    refine si_cSi [.int x0] cal_J6_bitCount_0f7a4 gm_RL_98 X hw hA hl.1 (c_J6_bitCount_0f7a4 l E F x0 S q19 eq19) ⟨⟨rfl, rfl⟩, sd_ble1 (d := d) rfl, sd_ble2 (d := d) rfl⟩ rfl rfl (Nat.le_of_ble_eq_true rfl) hcs dL_isEnough_1 (fun H locs hw => ?_)
    have hc := hc.up (fr_J6_bitCount_0f7a4 F x0 S q19 eq19).le
    refine lv_istore_n (lv' := [(3, .int q19.1), (0, .int x0), (1, .int x1), (2, .int x2)]) X.1 X.2.1 dL_isEnough_4 rfl hl (by decide) rfl (fun ls hl => ?_)
    refine lv_iload_n X.1 X.2.1 dL_isEnough_5 rfl (lv_at hl 0 rfl) ?_
    refine lv_iconst (v := 2) X.1 X.2.1 dL_isEnough_6 (by decide) ?_
    refine lv_icmp_ge (tgt := 12) X.1 X.2.1 dL_isEnough_7 (by decide) (fun c7 => ?_) (fun c7 => ?_)
    · have hf := si_ip c7 hf
      refine lv_iconst (v := 1) X.1 X.2.1 dL_isEnough_12 (by decide) ?_
      refine lv_istore (lv' := [(4, .int 1), (3, .int q19.1), (0, .int x0), (1, .int x1), (2, .int x2)]) X.1 X.2.1 dL_isEnough_13 hl (by decide) rfl (fun ls hl => ?_)
      refine lv_iconst (v := 0) X.1 X.2.1 dL_isEnough_15 (by decide) ?_
      refine lv_istore (lv' := [(5, .int 0), (4, .int 1), (3, .int q19.1), (0, .int x0), (1, .int x1), (2, .int x2)]) X.1 X.2.1 dL_isEnough_16 hl (by decide) rfl (fun ls hl => ?_)
      exact B18 F _ _ _ _ _ _ _ _ _ _ _ _ _ hf hE X hw hc (lv_sub hl [3, 4, 5, 2, 1, 0] rfl)
    · have hf := si_in c7 hf
      refine lv_iconst (v := 1) X.1 X.2.1 dL_isEnough_10 (by decide) ?_
      obtain ⟨v20, ev20, hf⟩ := si_ob hf
      exact hret _ _ _ _ _ _ _ _ _ (si_bzf ev20 hf) (si_nz (si_bz_inv ev20).1) ⟨hE, hw, hc⟩ dL_isEnough_11
  unfold f_L_isEnoughB at hf
  exact B0 _ _ _ _ _ _ _ _ _ _ hf hE X hw hc (lv_sub hl [0, 1, 2] rfl)

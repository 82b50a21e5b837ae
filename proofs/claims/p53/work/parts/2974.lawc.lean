theorem dL_needed_0 : decode cL_needed 0 = .ok (.aload_n 0, 1) := by decide +kernel
theorem dL_needed_1 : decode cL_needed 1 = .ok (.iload_n 1, 1) := by decide +kernel
theorem dL_needed_2 : decode cL_needed 2 = .ok (.invokevirtual 146, 3) := by decide +kernel
theorem dL_needed_5 : decode cL_needed 5 = .ok (.istore 4, 2) := by decide +kernel
theorem dL_needed_7 : decode cL_needed 7 = .ok (.aload_n 0, 1) := by decide +kernel
theorem dL_needed_8 : decode cL_needed 8 = .ok (.iload_n 1, 1) := by decide +kernel
theorem dL_needed_9 : decode cL_needed 9 = .ok (.invokevirtual 149, 3) := by decide +kernel
theorem dL_needed_12 : decode cL_needed 12 = .ok (.istore 5, 2) := by decide +kernel
theorem dL_needed_14 : decode cL_needed 14 = .ok (.aload_n 0, 1) := by decide +kernel
theorem dL_needed_15 : decode cL_needed 15 = .ok (.iload_n 1, 1) := by decide +kernel
theorem dL_needed_16 : decode cL_needed 16 = .ok (.invokevirtual 152, 3) := by decide +kernel
theorem dL_needed_19 : decode cL_needed 19 = .ok (.istore 6, 2) := by decide +kernel
theorem dL_needed_21 : decode cL_needed 21 = .ok (.iload_n 3, 1) := by decide +kernel
theorem dL_needed_22 : decode cL_needed 22 = .ok (.invokestatic 98, 3) := by decide +kernel
theorem dL_needed_25 : decode cL_needed 25 = .ok (.istore 7, 2) := by decide +kernel
theorem dL_needed_27 : decode cL_needed 27 = .ok (.iload 7, 2) := by decide +kernel
theorem dL_needed_29 : decode cL_needed 29 = .ok (.iconst 2, 1) := by decide +kernel
theorem dL_needed_30 : decode cL_needed 30 = .ok (.if_icmp .ge 28, 3) := by decide +kernel
theorem dL_needed_33 : decode cL_needed 33 = .ok (.iload 4, 2) := by decide +kernel
theorem dL_needed_35 : decode cL_needed 35 = .ok (.ifCond .ne 21, 3) := by decide +kernel
theorem dL_needed_38 : decode cL_needed 38 = .ok (.iload 5, 2) := by decide +kernel
theorem dL_needed_40 : decode cL_needed 40 = .ok (.bipush (-2), 2) := by decide +kernel
theorem dL_needed_42 : decode cL_needed 42 = .ok (.if_icmp .ne 14, 3) := by decide +kernel
theorem dL_needed_45 : decode cL_needed 45 = .ok (.iload 6, 2) := by decide +kernel
theorem dL_needed_47 : decode cL_needed 47 = .ok (.bipush (-2), 2) := by decide +kernel
theorem dL_needed_49 : decode cL_needed 49 = .ok (.if_icmp .ne 7, 3) := by decide +kernel
theorem dL_needed_52 : decode cL_needed 52 = .ok (.iconst 1, 1) := by decide +kernel
theorem dL_needed_53 : decode cL_needed 53 = .ok (.goto 4, 3) := by decide +kernel
theorem dL_needed_56 : decode cL_needed 56 = .ok (.iconst 0, 1) := by decide +kernel
theorem dL_needed_57 : decode cL_needed 57 = .ok (.ireturn, 1) := by decide +kernel
theorem dL_needed_58 : decode cL_needed 58 = .ok (.iload 4, 2) := by decide +kernel
theorem dL_needed_60 : decode cL_needed 60 = .ok (.bipush (-2), 2) := by decide +kernel
theorem dL_needed_62 : decode cL_needed 62 = .ok (.if_icmp .ne 32, 3) := by decide +kernel
theorem dL_needed_65 : decode cL_needed 65 = .ok (.iload 5, 2) := by decide +kernel
theorem dL_needed_67 : decode cL_needed 67 = .ok (.bipush (-2), 2) := by decide +kernel
theorem dL_needed_69 : decode cL_needed 69 = .ok (.if_icmp .ne 23, 3) := by decide +kernel
theorem dL_needed_72 : decode cL_needed 72 = .ok (.iload 6, 2) := by decide +kernel
theorem dL_needed_74 : decode cL_needed 74 = .ok (.bipush (-2), 2) := by decide +kernel
theorem dL_needed_76 : decode cL_needed 76 = .ok (.if_icmp .ne 16, 3) := by decide +kernel
theorem dL_needed_79 : decode cL_needed 79 = .ok (.iload_n 3, 1) := by decide +kernel
theorem dL_needed_80 : decode cL_needed 80 = .ok (.iload_n 2, 1) := by decide +kernel
theorem dL_needed_81 : decode cL_needed 81 = .ok (.iconst 4, 1) := by decide +kernel
theorem dL_needed_82 : decode cL_needed 82 = .ok (.invokestatic 107, 3) := by decide +kernel
theorem dL_needed_85 : decode cL_needed 85 = .ok (.ifCond .ne 7, 3) := by decide +kernel
theorem dL_needed_88 : decode cL_needed 88 = .ok (.iconst 1, 1) := by decide +kernel
theorem dL_needed_89 : decode cL_needed 89 = .ok (.goto 4, 3) := by decide +kernel
theorem dL_needed_92 : decode cL_needed 92 = .ok (.iconst 0, 1) := by decide +kernel
theorem dL_needed_93 : decode cL_needed 93 = .ok (.ireturn, 1) := by decide +kernel
theorem dL_needed_94 : decode cL_needed 94 = .ok (.iload 4, 2) := by decide +kernel
theorem dL_needed_96 : decode cL_needed 96 = .ok (.iconst 1, 1) := by decide +kernel
theorem dL_needed_97 : decode cL_needed 97 = .ok (.if_icmp .lt 25, 3) := by decide +kernel
theorem dL_needed_100 : decode cL_needed 100 = .ok (.iload_n 3, 1) := by decide +kernel
theorem dL_needed_101 : decode cL_needed 101 = .ok (.iload_n 2, 1) := by decide +kernel
theorem dL_needed_102 : decode cL_needed 102 = .ok (.iload 4, 2) := by decide +kernel
theorem dL_needed_104 : decode cL_needed 104 = .ok (.invokestatic 107, 3) := by decide +kernel
theorem dL_needed_107 : decode cL_needed 107 = .ok (.ifCond .eq 15, 3) := by decide +kernel
theorem dL_needed_110 : decode cL_needed 110 = .ok (.iload_n 3, 1) := by decide +kernel
theorem dL_needed_111 : decode cL_needed 111 = .ok (.iload_n 2, 1) := by decide +kernel
theorem dL_needed_112 : decode cL_needed 112 = .ok (.iload 4, 2) := by decide +kernel
theorem dL_needed_114 : decode cL_needed 114 = .ok (.iconst 1, 1) := by decide +kernel
theorem dL_needed_115 : decode cL_needed 115 = .ok (.isub, 1) := by decide +kernel
theorem dL_needed_116 : decode cL_needed 116 = .ok (.invokestatic 107, 3) := by decide +kernel
theorem dL_needed_119 : decode cL_needed 119 = .ok (.ifCond .eq 5, 3) := by decide +kernel
theorem dL_needed_122 : decode cL_needed 122 = .ok (.iconst 0, 1) := by decide +kernel
theorem dL_needed_123 : decode cL_needed 123 = .ok (.ireturn, 1) := by decide +kernel
theorem dL_needed_124 : decode cL_needed 124 = .ok (.iload 5, 2) := by decide +kernel
theorem dL_needed_126 : decode cL_needed 126 = .ok (.iconst 1, 1) := by decide +kernel
theorem dL_needed_127 : decode cL_needed 127 = .ok (.if_icmp .lt 30, 3) := by decide +kernel
theorem dL_needed_130 : decode cL_needed 130 = .ok (.iload 6, 2) := by decide +kernel
theorem dL_needed_132 : decode cL_needed 132 = .ok (.iconst 1, 1) := by decide +kernel
theorem dL_needed_133 : decode cL_needed 133 = .ok (.if_icmp .lt 24, 3) := by decide +kernel
theorem dL_needed_136 : decode cL_needed 136 = .ok (.iload 5, 2) := by decide +kernel
theorem dL_needed_138 : decode cL_needed 138 = .ok (.iload 6, 2) := by decide +kernel
theorem dL_needed_140 : decode cL_needed 140 = .ok (.iand, 1) := by decide +kernel
theorem dL_needed_141 : decode cL_needed 141 = .ok (.ifCond .ne 16, 3) := by decide +kernel
theorem dL_needed_144 : decode cL_needed 144 = .ok (.iload 5, 2) := by decide +kernel
theorem dL_needed_146 : decode cL_needed 146 = .ok (.invokestatic 98, 3) := by decide +kernel
theorem dL_needed_149 : decode cL_needed 149 = .ok (.iload 6, 2) := by decide +kernel
theorem dL_needed_151 : decode cL_needed 151 = .ok (.invokestatic 98, 3) := by decide +kernel
theorem dL_needed_154 : decode cL_needed 154 = .ok (.if_icmp .eq 5, 3) := by decide +kernel
theorem dL_needed_157 : decode cL_needed 157 = .ok (.iconst 0, 1) := by decide +kernel
theorem dL_needed_158 : decode cL_needed 158 = .ok (.ireturn, 1) := by decide +kernel
theorem dL_needed_159 : decode cL_needed 159 = .ok (.iconst 3, 1) := by decide +kernel
theorem dL_needed_160 : decode cL_needed 160 = .ok (.newarray .int, 2) := by decide +kernel
theorem dL_needed_162 : decode cL_needed 162 = .ok (.astore 8, 2) := by decide +kernel
theorem dL_needed_164 : decode cL_needed 164 = .ok (.iconst 0, 1) := by decide +kernel
theorem dL_needed_165 : decode cL_needed 165 = .ok (.istore 9, 2) := by decide +kernel
theorem dL_needed_167 : decode cL_needed 167 = .ok (.iload 9, 2) := by decide +kernel
theorem dL_needed_169 : decode cL_needed 169 = .ok (.iconst 1, 1) := by decide +kernel
theorem dL_needed_170 : decode cL_needed 170 = .ok (.iconst 2, 1) := by decide +kernel
theorem dL_needed_171 : decode cL_needed 171 = .ok (.iload_n 2, 1) := by decide +kernel
theorem dL_needed_172 : decode cL_needed 172 = .ok (.imul, 1) := by decide +kernel
theorem dL_needed_173 : decode cL_needed 173 = .ok (.iadd, 1) := by decide +kernel
theorem dL_needed_174 : decode cL_needed 174 = .ok (.if_icmp .ge 38, 3) := by decide +kernel
theorem dL_needed_177 : decode cL_needed 177 = .ok (.iload_n 3, 1) := by decide +kernel
theorem dL_needed_178 : decode cL_needed 178 = .ok (.iload 9, 2) := by decide +kernel
theorem dL_needed_180 : decode cL_needed 180 = .ok (.ishr, 1) := by decide +kernel
theorem dL_needed_181 : decode cL_needed 181 = .ok (.iconst 1, 1) := by decide +kernel
theorem dL_needed_182 : decode cL_needed 182 = .ok (.iand, 1) := by decide +kernel
theorem dL_needed_183 : decode cL_needed 183 = .ok (.iconst 1, 1) := by decide +kernel
theorem dL_needed_184 : decode cL_needed 184 = .ok (.if_icmp .ne 22, 3) := by decide +kernel
theorem dL_needed_187 : decode cL_needed 187 = .ok (.aload 8, 2) := by decide +kernel
theorem dL_needed_189 : decode cL_needed 189 = .ok (.iload 9, 2) := by decide +kernel
theorem dL_needed_191 : decode cL_needed 191 = .ok (.iload 5, 2) := by decide +kernel
theorem dL_needed_193 : decode cL_needed 193 = .ok (.iload 6, 2) := by decide +kernel
theorem dL_needed_195 : decode cL_needed 195 = .ok (.invokestatic 103, 3) := by decide +kernel
theorem dL_needed_198 : decode cL_needed 198 = .ok (.dup2, 1) := by decide +kernel
theorem dL_needed_199 : decode cL_needed 199 = .ok (.iaload, 1) := by decide +kernel
theorem dL_needed_200 : decode cL_needed 200 = .ok (.iconst 1, 1) := by decide +kernel
theorem dL_needed_201 : decode cL_needed 201 = .ok (.iload 9, 2) := by decide +kernel
theorem dL_needed_203 : decode cL_needed 203 = .ok (.ishl, 1) := by decide +kernel
theorem dL_needed_204 : decode cL_needed 204 = .ok (.ior, 1) := by decide +kernel
theorem dL_needed_205 : decode cL_needed 205 = .ok (.iastore, 1) := by decide +kernel
theorem dL_needed_206 : decode cL_needed 206 = .ok (.iinc 9 1, 3) := by decide +kernel
theorem dL_needed_209 : decode cL_needed 209 = .ok (.goto (-42), 3) := by decide +kernel
theorem dL_needed_212 : decode cL_needed 212 = .ok (.iconst 0, 1) := by decide +kernel
theorem dL_needed_213 : decode cL_needed 213 = .ok (.istore 9, 2) := by decide +kernel
theorem dL_needed_215 : decode cL_needed 215 = .ok (.iload 9, 2) := by decide +kernel
theorem dL_needed_217 : decode cL_needed 217 = .ok (.iconst 3, 1) := by decide +kernel
theorem dL_needed_218 : decode cL_needed 218 = .ok (.if_icmp .ge 27, 3) := by decide +kernel
theorem dL_needed_221 : decode cL_needed 221 = .ok (.aload 8, 2) := by decide +kernel
theorem dL_needed_223 : decode cL_needed 223 = .ok (.iload 9, 2) := by decide +kernel
theorem dL_needed_225 : decode cL_needed 225 = .ok (.iaload, 1) := by decide +kernel
theorem dL_needed_226 : decode cL_needed 226 = .ok (.iload_n 2, 1) := by decide +kernel
theorem dL_needed_227 : decode cL_needed 227 = .ok (.iload 4, 2) := by decide +kernel
theorem dL_needed_229 : decode cL_needed 229 = .ok (.iconst 1, 1) := by decide +kernel
theorem dL_needed_230 : decode cL_needed 230 = .ok (.isub, 1) := by decide +kernel
theorem dL_needed_231 : decode cL_needed 231 = .ok (.invokestatic 107, 3) := by decide +kernel
theorem dL_needed_234 : decode cL_needed 234 = .ok (.ifCond .ne 5, 3) := by decide +kernel
theorem dL_needed_237 : decode cL_needed 237 = .ok (.iconst 0, 1) := by decide +kernel
theorem dL_needed_238 : decode cL_needed 238 = .ok (.ireturn, 1) := by decide +kernel
theorem dL_needed_239 : decode cL_needed 239 = .ok (.iinc 9 1, 3) := by decide +kernel
theorem dL_needed_242 : decode cL_needed 242 = .ok (.goto (-27), 3) := by decide +kernel
theorem dL_needed_245 : decode cL_needed 245 = .ok (.iconst 1, 1) := by decide +kernel
theorem dL_needed_246 : decode cL_needed 246 = .ok (.ireturn, 1) := by decide +kernel
theorem dL_law_0 : decode cL_law 0 = .ok (.new 18, 3) := by decide +kernel
theorem dL_law_3 : decode cL_law 3 = .ok (.dup, 1) := by decide +kernel
theorem dL_law_4 : decode cL_law 4 = .ok (.invokespecial 111, 3) := by decide +kernel
theorem dL_law_7 : decode cL_law 7 = .ok (.astore_n 1, 1) := by decide +kernel
theorem dL_law_8 : decode cL_law 8 = .ok (.aload_n 0, 1) := by decide +kernel
theorem dL_law_9 : decode cL_law 9 = .ok (.arraylength, 1) := by decide +kernel
theorem dL_law_10 : decode cL_law 10 = .ok (.istore_n 2, 1) := by decide +kernel
theorem dL_law_11 : decode cL_law 11 = .ok (.iconst 0, 1) := by decide +kernel
theorem dL_law_12 : decode cL_law 12 = .ok (.istore_n 3, 1) := by decide +kernel
theorem dL_law_13 : decode cL_law 13 = .ok (.iload_n 3, 1) := by decide +kernel
theorem dL_law_14 : decode cL_law 14 = .ok (.iload_n 2, 1) := by decide +kernel
theorem dL_law_15 : decode cL_law 15 = .ok (.if_icmp .ge 407, 3) := by decide +kernel
theorem dL_law_18 : decode cL_law 18 = .ok (.iload_n 3, 1) := by decide +kernel
theorem dL_law_19 : decode cL_law 19 = .ok (.iconst 5, 1) := by decide +kernel
theorem dL_law_20 : decode cL_law 20 = .ok (.if_icmp .ge 402, 3) := by decide +kernel
theorem dL_law_23 : decode cL_law 23 = .ok (.aload_n 1, 1) := by decide +kernel
theorem dL_law_24 : decode cL_law 24 = .ok (.aload_n 0, 1) := by decide +kernel
theorem dL_law_25 : decode cL_law 25 = .ok (.iload_n 3, 1) := by decide +kernel
theorem dL_law_26 : decode cL_law 26 = .ok (.iaload, 1) := by decide +kernel
theorem dL_law_27 : decode cL_law 27 = .ok (.invokestatic 112, 3) := by decide +kernel
theorem dL_law_30 : decode cL_law 30 = .ok (.astore 4, 2) := by decide +kernel
theorem dL_law_32 : decode cL_law 32 = .ok (.aload 4, 2) := by decide +kernel
theorem dL_law_34 : decode cL_law 34 = .ok (.ifnonnull 5, 3) := by decide +kernel
theorem dL_law_37 : decode cL_law 37 = .ok (.iconst 0, 1) := by decide +kernel
theorem dL_law_38 : decode cL_law 38 = .ok (.ireturn, 1) := by decide +kernel
theorem dL_law_39 : decode cL_law 39 = .ok (.iconst 1, 1) := by decide +kernel
theorem dL_law_40 : decode cL_law 40 = .ok (.newarray .int, 2) := by decide +kernel
theorem dL_law_42 : decode cL_law 42 = .ok (.dup, 1) := by decide +kernel
theorem dL_law_43 : decode cL_law 43 = .ok (.iconst 0, 1) := by decide +kernel
theorem dL_law_44 : decode cL_law 44 = .ok (.aload_n 0, 1) := by decide +kernel
theorem dL_law_45 : decode cL_law 45 = .ok (.iload_n 3, 1) := by decide +kernel
theorem dL_law_46 : decode cL_law 46 = .ok (.iaload, 1) := by decide +kernel
theorem dL_law_47 : decode cL_law 47 = .ok (.iconst 1, 1) := by decide +kernel
theorem dL_law_48 : decode cL_law 48 = .ok (.iadd, 1) := by decide +kernel
theorem dL_law_49 : decode cL_law 49 = .ok (.iastore, 1) := by decide +kernel
theorem dL_law_50 : decode cL_law 50 = .ok (.astore 5, 2) := by decide +kernel
theorem dL_law_52 : decode cL_law 52 = .ok (.iconst 0, 1) := by decide +kernel
theorem dL_law_53 : decode cL_law 53 = .ok (.istore 6, 2) := by decide +kernel
theorem dL_law_55 : decode cL_law 55 = .ok (.iload 6, 2) := by decide +kernel
theorem dL_law_57 : decode cL_law 57 = .ok (.aload 4, 2) := by decide +kernel
theorem dL_law_59 : decode cL_law 59 = .ok (.getfield 66, 3) := by decide +kernel
theorem dL_law_62 : decode cL_law 62 = .ok (.arraylength, 1) := by decide +kernel
theorem dL_law_63 : decode cL_law 63 = .ok (.iconst 2, 1) := by decide +kernel
theorem dL_law_64 : decode cL_law 64 = .ok (.idiv, 1) := by decide +kernel
theorem dL_law_65 : decode cL_law 65 = .ok (.if_icmp .ge 351, 3) := by decide +kernel
theorem dL_law_68 : decode cL_law 68 = .ok (.aload 4, 2) := by decide +kernel
theorem dL_law_70 : decode cL_law 70 = .ok (.getfield 66, 3) := by decide +kernel
theorem dL_law_73 : decode cL_law 73 = .ok (.iconst 2, 1) := by decide +kernel
theorem dL_law_74 : decode cL_law 74 = .ok (.iload 6, 2) := by decide +kernel
theorem dL_law_76 : decode cL_law 76 = .ok (.imul, 1) := by decide +kernel
theorem dL_law_77 : decode cL_law 77 = .ok (.iaload, 1) := by decide +kernel
theorem dL_law_78 : decode cL_law 78 = .ok (.istore 7, 2) := by decide +kernel
theorem dL_law_80 : decode cL_law 80 = .ok (.iload 7, 2) := by decide +kernel
theorem dL_law_82 : decode cL_law 82 = .ok (.iconst 5, 1) := by decide +kernel
theorem dL_law_83 : decode cL_law 83 = .ok (.if_icmp .le 6, 3) := by decide +kernel
theorem dL_law_86 : decode cL_law 86 = .ok (.iconst 0, 1) := by decide +kernel
theorem dL_law_87 : decode cL_law 87 = .ok (.istore 7, 2) := by decide +kernel
theorem dL_law_89 : decode cL_law 89 = .ok (.iconst 0, 1) := by decide +kernel
theorem dL_law_90 : decode cL_law 90 = .ok (.istore 8, 2) := by decide +kernel
theorem dL_law_92 : decode cL_law 92 = .ok (.aload 4, 2) := by decide +kernel
theorem dL_law_94 : decode cL_law 94 = .ok (.getfield 66, 3) := by decide +kernel
theorem dL_law_97 : decode cL_law 97 = .ok (.iconst 2, 1) := by decide +kernel
theorem dL_law_98 : decode cL_law 98 = .ok (.iload 6, 2) := by decide +kernel
theorem dL_law_100 : decode cL_law 100 = .ok (.imul, 1) := by decide +kernel
theorem dL_law_101 : decode cL_law 101 = .ok (.iconst 1, 1) := by decide +kernel
theorem dL_law_102 : decode cL_law 102 = .ok (.iadd, 1) := by decide +kernel
theorem dL_law_103 : decode cL_law 103 = .ok (.iaload, 1) := by decide +kernel
theorem dL_law_104 : decode cL_law 104 = .ok (.iconst 1, 1) := by decide +kernel
theorem dL_law_105 : decode cL_law 105 = .ok (.if_icmp .ne 7, 3) := by decide +kernel
theorem dL_law_108 : decode cL_law 108 = .ok (.iconst 0, 1) := by decide +kernel
theorem dL_law_109 : decode cL_law 109 = .ok (.goto 4, 3) := by decide +kernel
theorem dL_law_112 : decode cL_law 112 = .ok (.iconst 1, 1) := by decide +kernel
theorem dL_law_113 : decode cL_law 113 = .ok (.istore 9, 2) := by decide +kernel
theorem dL_law_115 : decode cL_law 115 = .ok (.iload 9, 2) := by decide +kernel
theorem dL_law_117 : decode cL_law 117 = .ok (.iconst 1, 1) := by decide +kernel
theorem dL_law_118 : decode cL_law 118 = .ok (.iconst 2, 1) := by decide +kernel
theorem dL_law_119 : decode cL_law 119 = .ok (.aload 4, 2) := by decide +kernel
theorem dL_law_121 : decode cL_law 121 = .ok (.getfield 66, 3) := by decide +kernel
theorem dL_law_124 : decode cL_law 124 = .ok (.iconst 2, 1) := by decide +kernel
theorem dL_law_125 : decode cL_law 125 = .ok (.iload 6, 2) := by decide +kernel
theorem dL_law_127 : decode cL_law 127 = .ok (.imul, 1) := by decide +kernel
theorem dL_law_128 : decode cL_law 128 = .ok (.iaload, 1) := by decide +kernel
theorem dL_law_129 : decode cL_law 129 = .ok (.imul, 1) := by decide +kernel
theorem dL_law_130 : decode cL_law 130 = .ok (.iadd, 1) := by decide +kernel
theorem dL_law_131 : decode cL_law 131 = .ok (.if_icmp .ge 18, 3) := by decide +kernel
theorem dL_law_134 : decode cL_law 134 = .ok (.iload 8, 2) := by decide +kernel
theorem dL_law_136 : decode cL_law 136 = .ok (.iconst 1, 1) := by decide +kernel
theorem dL_law_137 : decode cL_law 137 = .ok (.iload 9, 2) := by decide +kernel
theorem dL_law_139 : decode cL_law 139 = .ok (.ishl, 1) := by decide +kernel
theorem dL_law_140 : decode cL_law 140 = .ok (.ior, 1) := by decide +kernel
theorem dL_law_141 : decode cL_law 141 = .ok (.istore 8, 2) := by decide +kernel
theorem dL_law_143 : decode cL_law 143 = .ok (.iinc 9 1, 3) := by decide +kernel
theorem dL_law_146 : decode cL_law 146 = .ok (.goto (-31), 3) := by decide +kernel
theorem dL_law_149 : decode cL_law 149 = .ok (.iconst 0, 1) := by decide +kernel
theorem dL_law_150 : decode cL_law 150 = .ok (.istore 9, 2) := by decide +kernel
theorem dL_law_152 : decode cL_law 152 = .ok (.iload 9, 2) := by decide +kernel
theorem dL_law_154 : decode cL_law 154 = .ok (.iconst 5, 1) := by decide +kernel
theorem dL_law_155 : decode cL_law 155 = .ok (.if_icmp .ge 255, 3) := by decide +kernel
theorem dL_law_158 : decode cL_law 158 = .ok (.aload_n 1, 1) := by decide +kernel
theorem dL_law_159 : decode cL_law 159 = .ok (.iload 6, 2) := by decide +kernel
theorem dL_law_161 : decode cL_law 161 = .ok (.aload 4, 2) := by decide +kernel
theorem dL_law_163 : decode cL_law 163 = .ok (.getfield 66, 3) := by decide +kernel
theorem dL_law_166 : decode cL_law 166 = .ok (.iconst 2, 1) := by decide +kernel
theorem dL_law_167 : decode cL_law 167 = .ok (.iload 6, 2) := by decide +kernel
theorem dL_law_169 : decode cL_law 169 = .ok (.imul, 1) := by decide +kernel
theorem dL_law_170 : decode cL_law 170 = .ok (.iaload, 1) := by decide +kernel
theorem dL_law_171 : decode cL_law 171 = .ok (.iload 8, 2) := by decide +kernel
theorem dL_law_173 : decode cL_law 173 = .ok (.invokestatic 116, 3) := by decide +kernel
theorem dL_law_176 : decode cL_law 176 = .ok (.ifCond .eq 21, 3) := by decide +kernel
theorem dL_law_179 : decode cL_law 179 = .ok (.iload 7, 2) := by decide +kernel
theorem dL_law_181 : decode cL_law 181 = .ok (.ifCond .le 18, 3) := by decide +kernel
theorem dL_law_184 : decode cL_law 184 = .ok (.aload_n 1, 1) := by decide +kernel
theorem dL_law_185 : decode cL_law 185 = .ok (.iload 6, 2) := by decide +kernel
theorem dL_law_187 : decode cL_law 187 = .ok (.iload 7, 2) := by decide +kernel
theorem dL_law_189 : decode cL_law 189 = .ok (.iload 8, 2) := by decide +kernel
theorem dL_law_191 : decode cL_law 191 = .ok (.invokestatic 120, 3) := by decide +kernel
theorem dL_law_194 : decode cL_law 194 = .ok (.ifCond .ne 5, 3) := by decide +kernel
theorem dL_law_197 : decode cL_law 197 = .ok (.iconst 0, 1) := by decide +kernel
theorem dL_law_198 : decode cL_law 198 = .ok (.ireturn, 1) := by decide +kernel
theorem dL_law_199 : decode cL_law 199 = .ok (.aload 5, 2) := by decide +kernel
theorem dL_law_201 : decode cL_law 201 = .ok (.iconst 1, 1) := by decide +kernel
theorem dL_law_202 : decode cL_law 202 = .ok (.aload 4, 2) := by decide +kernel
theorem dL_law_204 : decode cL_law 204 = .ok (.getfield 66, 3) := by decide +kernel
theorem dL_law_207 : decode cL_law 207 = .ok (.iconst 2, 1) := by decide +kernel
theorem dL_law_208 : decode cL_law 208 = .ok (.iload 6, 2) := by decide +kernel
theorem dL_law_210 : decode cL_law 210 = .ok (.imul, 1) := by decide +kernel
theorem dL_law_211 : decode cL_law 211 = .ok (.iaload, 1) := by decide +kernel
theorem dL_law_212 : decode cL_law 212 = .ok (.ishl, 1) := by decide +kernel
theorem dL_law_213 : decode cL_law 213 = .ok (.invokestatic 28, 3) := by decide +kernel
theorem dL_law_216 : decode cL_law 216 = .ok (.istore 10, 2) := by decide +kernel
theorem dL_law_218 : decode cL_law 218 = .ok (.aload 5, 2) := by decide +kernel
theorem dL_law_220 : decode cL_law 220 = .ok (.iconst 1, 1) := by decide +kernel
theorem dL_law_221 : decode cL_law 221 = .ok (.aload 4, 2) := by decide +kernel
theorem dL_law_223 : decode cL_law 223 = .ok (.getfield 66, 3) := by decide +kernel
theorem dL_law_226 : decode cL_law 226 = .ok (.iconst 2, 1) := by decide +kernel
theorem dL_law_227 : decode cL_law 227 = .ok (.iload 6, 2) := by decide +kernel
theorem dL_law_229 : decode cL_law 229 = .ok (.imul, 1) := by decide +kernel
theorem dL_law_230 : decode cL_law 230 = .ok (.iaload, 1) := by decide +kernel
theorem dL_law_231 : decode cL_law 231 = .ok (.ishl, 1) := by decide +kernel
theorem dL_law_232 : decode cL_law 232 = .ok (.invokestatic 28, 3) := by decide +kernel
theorem dL_law_235 : decode cL_law 235 = .ok (.iload 10, 2) := by decide +kernel
theorem dL_law_237 : decode cL_law 237 = .ok (.iconst (-1), 1) := by decide +kernel
theorem dL_law_238 : decode cL_law 238 = .ok (.ixor, 1) := by decide +kernel
theorem dL_law_239 : decode cL_law 239 = .ok (.iand, 1) := by decide +kernel
theorem dL_law_240 : decode cL_law 240 = .ok (.istore 11, 2) := by decide +kernel
theorem dL_law_242 : decode cL_law 242 = .ok (.aload 5, 2) := by decide +kernel
theorem dL_law_244 : decode cL_law 244 = .ok (.iconst 3, 1) := by decide +kernel
theorem dL_law_245 : decode cL_law 245 = .ok (.invokestatic 28, 3) := by decide +kernel
theorem dL_law_248 : decode cL_law 248 = .ok (.istore 12, 2) := by decide +kernel
theorem dL_law_250 : decode cL_law 250 = .ok (.iconst 0, 1) := by decide +kernel
theorem dL_law_251 : decode cL_law 251 = .ok (.istore 13, 2) := by decide +kernel
theorem dL_law_253 : decode cL_law 253 = .ok (.iconst 0, 1) := by decide +kernel
theorem dL_law_254 : decode cL_law 254 = .ok (.istore 14, 2) := by decide +kernel
theorem dL_law_256 : decode cL_law 256 = .ok (.iload 14, 2) := by decide +kernel
theorem dL_law_258 : decode cL_law 258 = .ok (.iconst 1, 1) := by decide +kernel
theorem dL_law_259 : decode cL_law 259 = .ok (.iconst 2, 1) := by decide +kernel
theorem dL_law_260 : decode cL_law 260 = .ok (.aload 4, 2) := by decide +kernel
theorem dL_law_262 : decode cL_law 262 = .ok (.getfield 66, 3) := by decide +kernel
theorem dL_law_265 : decode cL_law 265 = .ok (.iconst 2, 1) := by decide +kernel
theorem dL_law_266 : decode cL_law 266 = .ok (.iload 6, 2) := by decide +kernel
theorem dL_law_268 : decode cL_law 268 = .ok (.imul, 1) := by decide +kernel
theorem dL_law_269 : decode cL_law 269 = .ok (.iaload, 1) := by decide +kernel
theorem dL_law_270 : decode cL_law 270 = .ok (.imul, 1) := by decide +kernel
theorem dL_law_271 : decode cL_law 271 = .ok (.iadd, 1) := by decide +kernel
theorem dL_law_272 : decode cL_law 272 = .ok (.if_icmp .ge 47, 3) := by decide +kernel
theorem dL_law_275 : decode cL_law 275 = .ok (.iload 13, 2) := by decide +kernel
theorem dL_law_277 : decode cL_law 277 = .ok (.iload 8, 2) := by decide +kernel
theorem dL_law_279 : decode cL_law 279 = .ok (.iload 14, 2) := by decide +kernel
theorem dL_law_281 : decode cL_law 281 = .ok (.ishr, 1) := by decide +kernel
theorem dL_law_282 : decode cL_law 282 = .ok (.iconst 1, 1) := by decide +kernel
theorem dL_law_283 : decode cL_law 283 = .ok (.iand, 1) := by decide +kernel
theorem dL_law_284 : decode cL_law 284 = .ok (.iconst 1, 1) := by decide +kernel
theorem dL_law_285 : decode cL_law 285 = .ok (.if_icmp .ne 24, 3) := by decide +kernel
theorem dL_law_288 : decode cL_law 288 = .ok (.iload 14, 2) := by decide +kernel
theorem dL_law_290 : decode cL_law 290 = .ok (.iload 10, 2) := by decide +kernel
theorem dL_law_292 : decode cL_law 292 = .ok (.iload 11, 2) := by decide +kernel
theorem dL_law_294 : decode cL_law 294 = .ok (.invokestatic 103, 3) := by decide +kernel
theorem dL_law_297 : decode cL_law 297 = .ok (.iload 12, 2) := by decide +kernel
theorem dL_law_299 : decode cL_law 299 = .ok (.if_icmp .ne 10, 3) := by decide +kernel
theorem dL_law_302 : decode cL_law 302 = .ok (.iconst 1, 1) := by decide +kernel
theorem dL_law_303 : decode cL_law 303 = .ok (.iload 14, 2) := by decide +kernel
theorem dL_law_305 : decode cL_law 305 = .ok (.ishl, 1) := by decide +kernel
theorem dL_law_306 : decode cL_law 306 = .ok (.goto 4, 3) := by decide +kernel
theorem dL_law_309 : decode cL_law 309 = .ok (.iconst 0, 1) := by decide +kernel
theorem dL_law_310 : decode cL_law 310 = .ok (.ior, 1) := by decide +kernel
theorem dL_law_311 : decode cL_law 311 = .ok (.istore 13, 2) := by decide +kernel
theorem dL_law_313 : decode cL_law 313 = .ok (.iinc 14 1, 3) := by decide +kernel
theorem dL_law_316 : decode cL_law 316 = .ok (.goto (-60), 3) := by decide +kernel
theorem dL_law_319 : decode cL_law 319 = .ok (.iload 10, 2) := by decide +kernel
theorem dL_law_321 : decode cL_law 321 = .ok (.ifCond .eq 20, 3) := by decide +kernel
theorem dL_law_324 : decode cL_law 324 = .ok (.iload 10, 2) := by decide +kernel
theorem dL_law_326 : decode cL_law 326 = .ok (.invokestatic 98, 3) := by decide +kernel
theorem dL_law_329 : decode cL_law 329 = .ok (.iload 11, 2) := by decide +kernel
theorem dL_law_331 : decode cL_law 331 = .ok (.invokestatic 98, 3) := by decide +kernel
theorem dL_law_334 : decode cL_law 334 = .ok (.if_icmp .ne 7, 3) := by decide +kernel
theorem dL_law_337 : decode cL_law 337 = .ok (.iconst 1, 1) := by decide +kernel
theorem dL_law_338 : decode cL_law 338 = .ok (.goto 4, 3) := by decide +kernel
theorem dL_law_341 : decode cL_law 341 = .ok (.iconst 0, 1) := by decide +kernel
theorem dL_law_342 : decode cL_law 342 = .ok (.istore 14, 2) := by decide +kernel
theorem dL_law_344 : decode cL_law 344 = .ok (.aload_n 1, 1) := by decide +kernel
theorem dL_law_345 : decode cL_law 345 = .ok (.iload 6, 2) := by decide +kernel
theorem dL_law_347 : decode cL_law 347 = .ok (.iload 10, 2) := by decide +kernel
theorem dL_law_349 : decode cL_law 349 = .ok (.iload 11, 2) := by decide +kernel
theorem dL_law_351 : decode cL_law 351 = .ok (.iload 12, 2) := by decide +kernel
theorem dL_law_353 : decode cL_law 353 = .ok (.invokevirtual 123, 3) := by decide +kernel
theorem dL_law_356 : decode cL_law 356 = .ok (.iload 14, 2) := by decide +kernel
theorem dL_law_358 : decode cL_law 358 = .ok (.ifCond .ne 7, 3) := by decide +kernel
theorem dL_law_361 : decode cL_law 361 = .ok (.iconst (-1), 1) := by decide +kernel
theorem dL_law_362 : decode cL_law 362 = .ok (.goto 18, 3) := by decide +kernel
theorem dL_law_365 : decode cL_law 365 = .ok (.iload 13, 2) := by decide +kernel
theorem dL_law_367 : decode cL_law 367 = .ok (.ifCond .ne 8, 3) := by decide +kernel
theorem dL_law_370 : decode cL_law 370 = .ok (.bipush (-2), 2) := by decide +kernel
theorem dL_law_372 : decode cL_law 372 = .ok (.goto 8, 3) := by decide +kernel
theorem dL_law_375 : decode cL_law 375 = .ok (.iload 13, 2) := by decide +kernel
theorem dL_law_377 : decode cL_law 377 = .ok (.invokestatic 98, 3) := by decide +kernel
theorem dL_law_380 : decode cL_law 380 = .ok (.if_icmp .eq 5, 3) := by decide +kernel
theorem dL_law_383 : decode cL_law 383 = .ok (.iconst 0, 1) := by decide +kernel
theorem dL_law_384 : decode cL_law 384 = .ok (.ireturn, 1) := by decide +kernel
theorem dL_law_385 : decode cL_law 385 = .ok (.iload 14, 2) := by decide +kernel
theorem dL_law_387 : decode cL_law 387 = .ok (.ifCond .eq 13, 3) := by decide +kernel
theorem dL_law_390 : decode cL_law 390 = .ok (.iload 13, 2) := by decide +kernel
theorem dL_law_392 : decode cL_law 392 = .ok (.ifCond .eq 8, 3) := by decide +kernel
theorem dL_law_395 : decode cL_law 395 = .ok (.iload 13, 2) := by decide +kernel
theorem dL_law_397 : decode cL_law 397 = .ok (.goto 5, 3) := by decide +kernel
theorem dL_law_400 : decode cL_law 400 = .ok (.iload 8, 2) := by decide +kernel
theorem dL_law_402 : decode cL_law 402 = .ok (.istore 8, 2) := by decide +kernel
theorem dL_law_404 : decode cL_law 404 = .ok (.iinc 9 1, 3) := by decide +kernel
theorem dL_law_407 : decode cL_law 407 = .ok (.goto (-255), 3) := by decide +kernel
theorem dL_law_410 : decode cL_law 410 = .ok (.iinc 6 1, 3) := by decide +kernel
theorem dL_law_413 : decode cL_law 413 = .ok (.goto (-358), 3) := by decide +kernel
theorem dL_law_416 : decode cL_law 416 = .ok (.iinc 3 1, 3) := by decide +kernel
theorem dL_law_419 : decode cL_law 419 = .ok (.goto (-406), 3) := by decide +kernel
theorem dL_law_422 : decode cL_law 422 = .ok (.aload_n 1, 1) := by decide +kernel
theorem dL_law_423 : decode cL_law 423 = .ok (.bipush 12, 2) := by decide +kernel
theorem dL_law_425 : decode cL_law 425 = .ok (.iconst 0, 1) := by decide +kernel
theorem dL_law_426 : decode cL_law 426 = .ok (.invokevirtual 127, 3) := by decide +kernel
theorem dL_law_429 : decode cL_law 429 = .ok (.iconst 3, 1) := by decide +kernel
theorem dL_law_430 : decode cL_law 430 = .ok (.if_icmp .ne 60, 3) := by decide +kernel
theorem dL_law_433 : decode cL_law 433 = .ok (.aload_n 1, 1) := by decide +kernel
theorem dL_law_434 : decode cL_law 434 = .ok (.bipush 12, 2) := by decide +kernel
theorem dL_law_436 : decode cL_law 436 = .ok (.iconst 1, 1) := by decide +kernel
theorem dL_law_437 : decode cL_law 437 = .ok (.invokevirtual 127, 3) := by decide +kernel
theorem dL_law_440 : decode cL_law 440 = .ok (.iconst 3, 1) := by decide +kernel
theorem dL_law_441 : decode cL_law 441 = .ok (.if_icmp .ne 49, 3) := by decide +kernel
theorem dL_law_444 : decode cL_law 444 = .ok (.aload_n 1, 1) := by decide +kernel
theorem dL_law_445 : decode cL_law 445 = .ok (.iconst 2, 1) := by decide +kernel
theorem dL_law_446 : decode cL_law 446 = .ok (.iconst 0, 1) := by decide +kernel
theorem dL_law_447 : decode cL_law 447 = .ok (.invokevirtual 127, 3) := by decide +kernel
theorem dL_law_450 : decode cL_law 450 = .ok (.bipush (-2), 2) := by decide +kernel
theorem dL_law_452 : decode cL_law 452 = .ok (.if_icmp .ne 38, 3) := by decide +kernel
theorem dL_law_455 : decode cL_law 455 = .ok (.aload_n 1, 1) := by decide +kernel
theorem dL_law_456 : decode cL_law 456 = .ok (.iconst 3, 1) := by decide +kernel
theorem dL_law_457 : decode cL_law 457 = .ok (.iconst 1, 1) := by decide +kernel
theorem dL_law_458 : decode cL_law 458 = .ok (.invokevirtual 127, 3) := by decide +kernel
theorem dL_law_461 : decode cL_law 461 = .ok (.iconst 2, 1) := by decide +kernel
theorem dL_law_462 : decode cL_law 462 = .ok (.if_icmp .ne 28, 3) := by decide +kernel
theorem dL_law_465 : decode cL_law 465 = .ok (.aload_n 1, 1) := by decide +kernel
theorem dL_law_466 : decode cL_law 466 = .ok (.iconst 1, 1) := by decide +kernel
theorem dL_law_467 : decode cL_law 467 = .ok (.iconst 1, 1) := by decide +kernel
theorem dL_law_468 : decode cL_law 468 = .ok (.invokevirtual 127, 3) := by decide +kernel
theorem dL_law_471 : decode cL_law 471 = .ok (.iconst (-1), 1) := by decide +kernel
theorem dL_law_472 : decode cL_law 472 = .ok (.if_icmp .ne 18, 3) := by decide +kernel
theorem dL_law_475 : decode cL_law 475 = .ok (.aload_n 1, 1) := by decide +kernel
theorem dL_law_476 : decode cL_law 476 = .ok (.bipush 13, 2) := by decide +kernel
theorem dL_law_478 : decode cL_law 478 = .ok (.iconst 1, 1) := by decide +kernel
theorem dL_law_479 : decode cL_law 479 = .ok (.invokevirtual 127, 3) := by decide +kernel
theorem dL_law_482 : decode cL_law 482 = .ok (.iconst (-1), 1) := by decide +kernel
theorem dL_law_483 : decode cL_law 483 = .ok (.if_icmp .ne 7, 3) := by decide +kernel
theorem dL_law_486 : decode cL_law 486 = .ok (.iconst 1, 1) := by decide +kernel
theorem dL_law_487 : decode cL_law 487 = .ok (.goto 4, 3) := by decide +kernel
theorem dL_law_490 : decode cL_law 490 = .ok (.iconst 0, 1) := by decide +kernel
theorem dL_law_491 : decode cL_law 491 = .ok (.ireturn, 1) := by decide +kernel
def al_L_needed : Nat → Bool := fun a => decide (a = 99 ∨ 101 ≤ a)
theorem sd_als_L_needed_L_isEnough : ∀ k, al_L_needed k = false → (al_L_isEnough 6) k = false := by
  intro k h
  simp only [al_L_needed, al_L_isEnough, decide_eq_false_iff_not] at h ⊢
  omega
def f_L_needed_h122 (F : Nat) (S : si_St) : Option (Int32 × si_St) :=
  Option.bind (si_bz 0) fun v1 => some (v1, S)
def f_L_needed_h157 (F : Nat) (S : si_St) : Option (Int32 × si_St) :=
  Option.bind (si_bz 0) fun v2 => some (v2, S)
def f_L_needed_h234 (F : Nat) (r215 : Int32 → Int32 → Int32 → si_St → Option (Int32 × si_St)) (x2 : Int32) (x4 : Int32) (x9 : Int32) (t0 : Int32) (S : si_St) : Option (Int32 × si_St) :=
  if t0 = 0 then (Option.bind (si_bz 0) fun v4 => some (v4, S)) else (Option.bind (some (x9 + 1)) fun v3 => r215 x2 x4 v3 S)
def f_L_needed_h215 (F : Nat) (r215 : Int32 → Int32 → Int32 → si_St → Option (Int32 × si_St)) (x2 : Int32) (x4 : Int32) (x9 : Int32) (S : si_St) : Option (Int32 × si_St) :=
  if 3 ≤ x9 then (Option.bind (si_bz 1) fun v5 => some (v5, S)) else (Option.bind (sd_rd S 99 x9) fun v6 => Option.bind (f_L_isEnough F 6 v6 x2 (x4 - 1) S) fun q7 => f_L_needed_h234 F r215 x2 x4 x9 q7.1 q7.2)
def f_L_needed_l215 (F : Nat) : Nat → Int32 → Int32 → Int32 → si_St → Option (Int32 × si_St)
 | 0 => fun _ _ _ _ => none
 | n + 1 => fun x2 x4 x9 S => f_L_needed_h215 F (f_L_needed_l215 F n) x2 x4 x9 S
def f_L_needed_h206 (F : Nat) (r167 : Int32 → Int32 → Int32 → Int32 → Int32 → Int32 → si_St → Option (Int32 × si_St)) (x2 : Int32) (x3 : Int32) (x4 : Int32) (x5 : Int32) (x6 : Int32) (x9 : Int32) (S : si_St) : Option (Int32 × si_St) :=
  Option.bind (some (x9 + 1)) fun v8 => r167 x2 x3 x4 x5 x6 v8 S
def f_L_needed_h167 (F : Nat) (r167 : Int32 → Int32 → Int32 → Int32 → Int32 → Int32 → si_St → Option (Int32 × si_St)) (x2 : Int32) (x3 : Int32) (x4 : Int32) (x5 : Int32) (x6 : Int32) (x9 : Int32) (S : si_St) : Option (Int32 × si_St) :=
  if (1 + (2 * x2)) ≤ x9 then (f_L_needed_l215 F F x2 x4 0 S) else (if ((x3 >>> (x9 &&& 31)) &&& 1) = 1 then (Option.bind (f_L_result F x9 x5 x6 S) fun q9 => Option.bind (sd_rd q9.2 99 q9.1) fun v10 => Option.bind (sd_wr q9.2 99 q9.1 (v10 ||| (1 <<< (x9 &&& 31)))) fun S11 => f_L_needed_h206 F r167 x2 x3 x4 x5 x6 x9 S11) else (f_L_needed_h206 F r167 x2 x3 x4 x5 x6 x9 S))
def f_L_needed_l167 (F : Nat) : Nat → Int32 → Int32 → Int32 → Int32 → Int32 → Int32 → si_St → Option (Int32 × si_St)
 | 0 => fun _ _ _ _ _ _ _ => none
 | n + 1 => fun x2 x3 x4 x5 x6 x9 S => f_L_needed_h167 F (f_L_needed_l167 F n) x2 x3 x4 x5 x6 x9 S
def f_L_needed_h162 (F : Nat) (x2 : Int32) (x3 : Int32) (x4 : Int32) (x5 : Int32) (x6 : Int32) (S : si_St) : Option (Int32 × si_St) :=
  f_L_needed_l167 F F x2 x3 x4 x5 x6 0 S
def f_L_needed_h119 (F : Nat) (x2 : Int32) (x3 : Int32) (x4 : Int32) (x5 : Int32) (x6 : Int32) (t0 : Int32) (S : si_St) : Option (Int32 × si_St) :=
  if t0 = 0 then (if x5 < 1 then (f_L_needed_h157 F S) else (if x6 < 1 then (f_L_needed_h157 F S) else (if (x5 &&& x6) = 0 then (Option.bind (f_J6_bitCount_0f7a4 F x5 S) fun q12 => Option.bind (f_J6_bitCount_0f7a4 F x6 q12.2) fun q13 => if q12.1 = q13.1 then (Option.bind (sd_na q13.2 99 3) fun S14 => f_L_needed_h162 F x2 x3 x4 x5 x6 S14) else (f_L_needed_h157 F q13.2)) else (f_L_needed_h157 F S)))) else (f_L_needed_h122 F S)
def f_L_needed_h107 (F : Nat) (x2 : Int32) (x3 : Int32) (x4 : Int32) (x5 : Int32) (x6 : Int32) (t0 : Int32) (S : si_St) : Option (Int32 × si_St) :=
  if t0 = 0 then (f_L_needed_h122 F S) else (Option.bind (f_L_isEnough F 6 x3 x2 (x4 - 1) S) fun q15 => f_L_needed_h119 F x2 x3 x4 x5 x6 q15.1 q15.2)
def f_L_needed_h93 (F : Nat) (t0 : Int32) (S : si_St) : Option (Int32 × si_St) :=
  Option.bind (si_bz t0) fun v16 => some (v16, S)
def f_L_needed_h92 (F : Nat) (S : si_St) : Option (Int32 × si_St) :=
  f_L_needed_h93 F 0 S
def f_L_needed_h85 (F : Nat) (t0 : Int32) (S : si_St) : Option (Int32 × si_St) :=
  if t0 = 0 then (f_L_needed_h93 F 1 S) else (f_L_needed_h92 F S)
def f_L_needed_h57 (F : Nat) (t0 : Int32) (S : si_St) : Option (Int32 × si_St) :=
  Option.bind (si_bz t0) fun v17 => some (v17, S)
def f_L_needed_h56 (F : Nat) (S : si_St) : Option (Int32 × si_St) :=
  f_L_needed_h57 F 0 S
def f_L_needed_h0 (F : Nat) (x1 : Int32) (x2 : Int32) (x3 : Int32) (S : si_St) : Option (Int32 × si_St) :=
  Option.bind (f_X9_weighingsNeeded F x1 S) fun q18 => Option.bind (f_X9_bestLeft F x1 q18.2) fun q19 => Option.bind (f_X9_bestRight F x1 q19.2) fun q20 => Option.bind (f_J6_bitCount_0f7a4 F x3 q20.2) fun q21 => if 2 ≤ q21.1 then (if q18.1 = (-2) then (if q19.1 = (-2) then (if q20.1 = (-2) then (Option.bind (f_L_isEnough F 6 x3 x2 4 q21.2) fun q23 => f_L_needed_h85 F q23.1 q23.2) else (f_L_needed_h92 F q21.2)) else (f_L_needed_h92 F q21.2)) else (if q18.1 < 1 then (f_L_needed_h122 F q21.2) else (Option.bind (f_L_isEnough F 6 x3 x2 q18.1 q21.2) fun q22 => f_L_needed_h107 F x2 x3 q18.1 q19.1 q20.1 q22.1 q22.2))) else (if q18.1 = 0 then (if q19.1 = (-2) then (if q20.1 = (-2) then (f_L_needed_h57 F 1 q21.2) else (f_L_needed_h56 F q21.2)) else (f_L_needed_h56 F q21.2)) else (f_L_needed_h56 F q21.2))
def f_L_needed (F : Nat) (x1 : Int32) (x2 : Int32) (x3 : Int32) (S : si_St) : Option (Int32 × si_St) :=
  f_L_needed_h0 F x1 x2 x3 S
theorem mo_L_needed_h122 (F : Nat) (S : si_St) (o : Int32 × si_St) (h : f_L_needed_h122 F S = some o) : sd_le S o.2 := by
  have g : sd_le S S := sd_le.rf
  unfold f_L_needed_h122 at h
  obtain ⟨v1, ev1, h⟩ := si_ob h
  obtain rfl := Option.some.inj h
  exact g
theorem mo_L_needed_h157 (F : Nat) (S : si_St) (o : Int32 × si_St) (h : f_L_needed_h157 F S = some o) : sd_le S o.2 := by
  have g : sd_le S S := sd_le.rf
  unfold f_L_needed_h157 at h
  obtain ⟨v2, ev2, h⟩ := si_ob h
  obtain rfl := Option.some.inj h
  exact g
theorem mo_L_needed_h234 (F : Nat) (r215 : Int32 → Int32 → Int32 → si_St → Option (Int32 × si_St)) (hr215 : ∀ (x2 : Int32) (x4 : Int32) (x9 : Int32) (S : si_St) (o : Int32 × si_St), r215 x2 x4 x9 S = some o → sd_le S o.2) (x2 : Int32) (x4 : Int32) (x9 : Int32) (t0 : Int32) (S : si_St) (o : Int32 × si_St) (h : f_L_needed_h234 F r215 x2 x4 x9 t0 S = some o) : sd_le S o.2 := by
  have g : sd_le S S := sd_le.rf
  unfold f_L_needed_h234 at h
  rcases Decidable.em (t0 = 0) with c234 | c234
  · have h := si_ip c234 h
    obtain ⟨v4, ev4, h⟩ := si_ob h
    obtain rfl := Option.some.inj h
    exact g
  · have h := si_in c234 h
    obtain ⟨v3, ev3, h⟩ := si_ob h
    exact g.tr (hr215 _ _ _ _ _ h)
theorem mo_L_needed_h215 (F : Nat) (r215 : Int32 → Int32 → Int32 → si_St → Option (Int32 × si_St)) (hr215 : ∀ (x2 : Int32) (x4 : Int32) (x9 : Int32) (S : si_St) (o : Int32 × si_St), r215 x2 x4 x9 S = some o → sd_le S o.2) (x2 : Int32) (x4 : Int32) (x9 : Int32) (S : si_St) (o : Int32 × si_St) (h : f_L_needed_h215 F r215 x2 x4 x9 S = some o) : sd_le S o.2 := by
  have g : sd_le S S := sd_le.rf
  unfold f_L_needed_h215 at h
  rcases Decidable.em (3 ≤ x9) with c218 | c218
  · have h := si_ip c218 h
    obtain ⟨v5, ev5, h⟩ := si_ob h
    obtain rfl := Option.some.inj h
    exact g
  · have h := si_in c218 h
    obtain ⟨v6, ev6, h⟩ := si_ob h
    obtain ⟨q7, eq7, h⟩ := si_ob h
    have g := g.tr (mo_L_isEnough F 6 v6 x2 (x4 - 1) S q7 eq7)
    exact g.tr (mo_L_needed_h234 F r215 hr215 _ _ _ _ _ _ h)
theorem mo_L_needed_l215 (F : Nat) : ∀ (n : Nat) (x2 : Int32) (x4 : Int32) (x9 : Int32) (S : si_St) (o : Int32 × si_St), f_L_needed_l215 F n x2 x4 x9 S = some o → sd_le S o.2 := by
  intro n
  induction n with
  | zero => intro x2 x4 x9 S o h; cases h
  | succ n ih =>
    intro x2 x4 x9 S o h
    exact mo_L_needed_h215 F (f_L_needed_l215 F n) ih x2 x4 x9 S o h
theorem mo_L_needed_h206 (F : Nat) (r167 : Int32 → Int32 → Int32 → Int32 → Int32 → Int32 → si_St → Option (Int32 × si_St)) (hr167 : ∀ (x2 : Int32) (x3 : Int32) (x4 : Int32) (x5 : Int32) (x6 : Int32) (x9 : Int32) (S : si_St) (o : Int32 × si_St), r167 x2 x3 x4 x5 x6 x9 S = some o → sd_le S o.2) (x2 : Int32) (x3 : Int32) (x4 : Int32) (x5 : Int32) (x6 : Int32) (x9 : Int32) (S : si_St) (o : Int32 × si_St) (h : f_L_needed_h206 F r167 x2 x3 x4 x5 x6 x9 S = some o) : sd_le S o.2 := by
  have g : sd_le S S := sd_le.rf
  unfold f_L_needed_h206 at h
  obtain ⟨v8, ev8, h⟩ := si_ob h
  exact g.tr (hr167 _ _ _ _ _ _ _ _ h)
theorem mo_L_needed_h167 (F : Nat) (r167 : Int32 → Int32 → Int32 → Int32 → Int32 → Int32 → si_St → Option (Int32 × si_St)) (hr167 : ∀ (x2 : Int32) (x3 : Int32) (x4 : Int32) (x5 : Int32) (x6 : Int32) (x9 : Int32) (S : si_St) (o : Int32 × si_St), r167 x2 x3 x4 x5 x6 x9 S = some o → sd_le S o.2) (x2 : Int32) (x3 : Int32) (x4 : Int32) (x5 : Int32) (x6 : Int32) (x9 : Int32) (S : si_St) (o : Int32 × si_St) (h : f_L_needed_h167 F r167 x2 x3 x4 x5 x6 x9 S = some o) : sd_le S o.2 := by
  have g : sd_le S S := sd_le.rf
  unfold f_L_needed_h167 at h
  rcases Decidable.em ((1 + (2 * x2)) ≤ x9) with c174 | c174
  · have h := si_ip c174 h
    exact g.tr (mo_L_needed_l215 F F _ _ _ _ _ h)
  · have h := si_in c174 h
    rcases Decidable.em (((x3 >>> (x9 &&& 31)) &&& 1) = 1) with c184 | c184
    · have h := si_ip c184 h
      obtain ⟨q9, eq9, h⟩ := si_ob h
      have g := g.tr (fr_L_result F x9 x5 x6 S q9 eq9).le
      obtain ⟨v10, ev10, h⟩ := si_ob h
      obtain ⟨S11, eS11, h⟩ := si_ob h
      have g := g.tr (sd_wr_m eS11)
      exact g.tr (mo_L_needed_h206 F r167 hr167 _ _ _ _ _ _ _ _ h)
    · have h := si_in c184 h
      exact g.tr (mo_L_needed_h206 F r167 hr167 _ _ _ _ _ _ _ _ h)
theorem mo_L_needed_l167 (F : Nat) : ∀ (n : Nat) (x2 : Int32) (x3 : Int32) (x4 : Int32) (x5 : Int32) (x6 : Int32) (x9 : Int32) (S : si_St) (o : Int32 × si_St), f_L_needed_l167 F n x2 x3 x4 x5 x6 x9 S = some o → sd_le S o.2 := by
  intro n
  induction n with
  | zero => intro x2 x3 x4 x5 x6 x9 S o h; cases h
  | succ n ih =>
    intro x2 x3 x4 x5 x6 x9 S o h
    exact mo_L_needed_h167 F (f_L_needed_l167 F n) ih x2 x3 x4 x5 x6 x9 S o h
theorem mo_L_needed_h162 (F : Nat) (x2 : Int32) (x3 : Int32) (x4 : Int32) (x5 : Int32) (x6 : Int32) (S : si_St) (o : Int32 × si_St) (h : f_L_needed_h162 F x2 x3 x4 x5 x6 S = some o) : sd_le S o.2 := by
  have g : sd_le S S := sd_le.rf
  unfold f_L_needed_h162 at h
  exact g.tr (mo_L_needed_l167 F F _ _ _ _ _ _ _ _ h)
theorem mo_L_needed_h119 (F : Nat) (x2 : Int32) (x3 : Int32) (x4 : Int32) (x5 : Int32) (x6 : Int32) (t0 : Int32) (S : si_St) (o : Int32 × si_St) (h : f_L_needed_h119 F x2 x3 x4 x5 x6 t0 S = some o) : sd_le S o.2 := by
  have g : sd_le S S := sd_le.rf
  unfold f_L_needed_h119 at h
  rcases Decidable.em (t0 = 0) with c119 | c119
  · have h := si_ip c119 h
    rcases Decidable.em (x5 < 1) with c127 | c127
    · have h := si_ip c127 h
      exact g.tr (mo_L_needed_h157 F _ _ h)
    · have h := si_in c127 h
      rcases Decidable.em (x6 < 1) with c133 | c133
      · have h := si_ip c133 h
        exact g.tr (mo_L_needed_h157 F _ _ h)
      · have h := si_in c133 h
        rcases Decidable.em ((x5 &&& x6) = 0) with c141 | c141
        · have h := si_ip c141 h
          obtain ⟨q12, eq12, h⟩ := si_ob h
          have g := g.tr (fr_J6_bitCount_0f7a4 F x5 S q12 eq12).le
          obtain ⟨q13, eq13, h⟩ := si_ob h
          have g := g.tr (fr_J6_bitCount_0f7a4 F x6 q12.2 q13 eq13).le
          rcases Decidable.em (q12.1 = q13.1) with c154 | c154
          · have h := si_ip c154 h
            obtain ⟨S14, eS14, h⟩ := si_ob h
            have g := g.tr (sd_na_m eS14)
            exact g.tr (mo_L_needed_h162 F _ _ _ _ _ _ _ h)
          · have h := si_in c154 h
            exact g.tr (mo_L_needed_h157 F _ _ h)
        · have h := si_in c141 h
          exact g.tr (mo_L_needed_h157 F _ _ h)
  · have h := si_in c119 h
    exact g.tr (mo_L_needed_h122 F _ _ h)
theorem mo_L_needed_h107 (F : Nat) (x2 : Int32) (x3 : Int32) (x4 : Int32) (x5 : Int32) (x6 : Int32) (t0 : Int32) (S : si_St) (o : Int32 × si_St) (h : f_L_needed_h107 F x2 x3 x4 x5 x6 t0 S = some o) : sd_le S o.2 := by
  have g : sd_le S S := sd_le.rf
  unfold f_L_needed_h107 at h
  rcases Decidable.em (t0 = 0) with c107 | c107
  · have h := si_ip c107 h
    exact g.tr (mo_L_needed_h122 F _ _ h)
  · have h := si_in c107 h
    obtain ⟨q15, eq15, h⟩ := si_ob h
    have g := g.tr (mo_L_isEnough F 6 x3 x2 (x4 - 1) S q15 eq15)
    exact g.tr (mo_L_needed_h119 F _ _ _ _ _ _ _ _ h)
theorem mo_L_needed_h93 (F : Nat) (t0 : Int32) (S : si_St) (o : Int32 × si_St) (h : f_L_needed_h93 F t0 S = some o) : sd_le S o.2 := by
  have g : sd_le S S := sd_le.rf
  unfold f_L_needed_h93 at h
  obtain ⟨v16, ev16, h⟩ := si_ob h
  obtain rfl := Option.some.inj h
  exact g
theorem mo_L_needed_h92 (F : Nat) (S : si_St) (o : Int32 × si_St) (h : f_L_needed_h92 F S = some o) : sd_le S o.2 := by
  have g : sd_le S S := sd_le.rf
  unfold f_L_needed_h92 at h
  exact g.tr (mo_L_needed_h93 F _ _ _ h)
theorem mo_L_needed_h85 (F : Nat) (t0 : Int32) (S : si_St) (o : Int32 × si_St) (h : f_L_needed_h85 F t0 S = some o) : sd_le S o.2 := by
  have g : sd_le S S := sd_le.rf
  unfold f_L_needed_h85 at h
  rcases Decidable.em (t0 = 0) with c85 | c85
  · have h := si_ip c85 h
    exact g.tr (mo_L_needed_h93 F _ _ _ h)
  · have h := si_in c85 h
    exact g.tr (mo_L_needed_h92 F _ _ h)
theorem mo_L_needed_h57 (F : Nat) (t0 : Int32) (S : si_St) (o : Int32 × si_St) (h : f_L_needed_h57 F t0 S = some o) : sd_le S o.2 := by
  have g : sd_le S S := sd_le.rf
  unfold f_L_needed_h57 at h
  obtain ⟨v17, ev17, h⟩ := si_ob h
  obtain rfl := Option.some.inj h
  exact g
theorem mo_L_needed_h56 (F : Nat) (S : si_St) (o : Int32 × si_St) (h : f_L_needed_h56 F S = some o) : sd_le S o.2 := by
  have g : sd_le S S := sd_le.rf
  unfold f_L_needed_h56 at h
  exact g.tr (mo_L_needed_h57 F _ _ _ h)
theorem mo_L_needed_h0 (F : Nat) (x1 : Int32) (x2 : Int32) (x3 : Int32) (S : si_St) (o : Int32 × si_St) (h : f_L_needed_h0 F x1 x2 x3 S = some o) : sd_le S o.2 := by
  have g : sd_le S S := sd_le.rf
  unfold f_L_needed_h0 at h
  obtain ⟨q18, eq18, h⟩ := si_ob h
  have g := g.tr (fr_X9_weighingsNeeded F x1 S q18 eq18).le
  obtain ⟨q19, eq19, h⟩ := si_ob h
  have g := g.tr (fr_X9_bestLeft F x1 q18.2 q19 eq19).le
  obtain ⟨q20, eq20, h⟩ := si_ob h
  have g := g.tr (fr_X9_bestRight F x1 q19.2 q20 eq20).le
  obtain ⟨q21, eq21, h⟩ := si_ob h
  have g := g.tr (fr_J6_bitCount_0f7a4 F x3 q20.2 q21 eq21).le
  rcases Decidable.em (2 ≤ q21.1) with c30 | c30
  · have h := si_ip c30 h
    rcases Decidable.em (q18.1 = (-2)) with c62 | c62
    · have h := si_ip c62 h
      rcases Decidable.em (q19.1 = (-2)) with c69 | c69
      · have h := si_ip c69 h
        rcases Decidable.em (q20.1 = (-2)) with c76 | c76
        · have h := si_ip c76 h
          obtain ⟨q23, eq23, h⟩ := si_ob h
          have g := g.tr (mo_L_isEnough F 6 x3 x2 4 q21.2 q23 eq23)
          exact g.tr (mo_L_needed_h85 F _ _ _ h)
        · have h := si_in c76 h
          exact g.tr (mo_L_needed_h92 F _ _ h)
      · have h := si_in c69 h
        exact g.tr (mo_L_needed_h92 F _ _ h)
    · have h := si_in c62 h
      rcases Decidable.em (q18.1 < 1) with c97 | c97
      · have h := si_ip c97 h
        exact g.tr (mo_L_needed_h122 F _ _ h)
      · have h := si_in c97 h
        obtain ⟨q22, eq22, h⟩ := si_ob h
        have g := g.tr (mo_L_isEnough F 6 x3 x2 q18.1 q21.2 q22 eq22)
        exact g.tr (mo_L_needed_h107 F _ _ _ _ _ _ _ _ h)
  · have h := si_in c30 h
    rcases Decidable.em (q18.1 = 0) with c35 | c35
    · have h := si_ip c35 h
      rcases Decidable.em (q19.1 = (-2)) with c42 | c42
      · have h := si_ip c42 h
        rcases Decidable.em (q20.1 = (-2)) with c49 | c49
        · have h := si_ip c49 h
          exact g.tr (mo_L_needed_h57 F _ _ _ h)
        · have h := si_in c49 h
          exact g.tr (mo_L_needed_h56 F _ _ h)
      · have h := si_in c42 h
        exact g.tr (mo_L_needed_h56 F _ _ h)
    · have h := si_in c35 h
      exact g.tr (mo_L_needed_h56 F _ _ h)
theorem mo_L_needed (F : Nat) (x1 : Int32) (x2 : Int32) (x3 : Int32) (S : si_St) (o : Int32 × si_St) (h : f_L_needed F x1 x2 x3 S = some o) : sd_le S o.2 := by
  have g : sd_le S S := sd_le.rf
  unfold f_L_needed at h
  exact g.tr (mo_L_needed_h0 F _ _ _ _ _ h)
abbrev fr_L_needed : Nat := 8
abbrev lo_L_needed : Nat := 233
set_option maxHeartbeats 400000000 in
set_option maxRecDepth 100000 in
theorem c_L_needed (l : Launch) (E0 : si_Ev) (F : Nat) (x1 : Int32) (x2 : Int32) (x3 : Int32) (S0 : si_St) (o : Int32 × si_St) (hf : f_L_needed F x1 x2 x3 S0 = some o) : sd_Mi l al_L_needed E0 yL_needed cL_needed 10 (some .boolean) fr_L_needed lo_L_needed [.ref (E0.2.1 0), .int x1, .int x2, .int x3] S0 o := by
  refine sd_ofWz (plainFor_of_name (by decide +kernel)) (Nat.le_of_ble_eq_true rfl) ?_
  intro p e s m args below meth c ls Q A X hmn hw hA hl hret
  have hl : lv_has ls 10 [(0, .ref (E0.2.1 0)), (1, .int x1), (2, .int x2), (3, .int x3)] := hl
  have hR : sd_RR (sd_R fr_L_needed lo_L_needed S0 o.2) S0 o.2 := ⟨Nat.le_refl _, Nat.le_refl _⟩
  have hE : sd_EE al_L_needed E0 E0 := sd_EE.rf
  have hc : sd_Ct S0 S0 0 0 := ⟨Nat.le_refl _, Nat.le_refl _⟩
  have B122 : ∀ (E : si_Ev) (S : si_St) (H : Heap) (locs : List Loc) (ls : Array Slot) (cs ss : Nat), f_L_needed_h122 F S = some o → sd_EE al_L_needed E0 E → si_Cx p s m args c cL_needed 10 yL_needed.cls E A → si_Ws E A s.heap S H locs → sd_Ct S0 S cs ss → lv_has ls 10 [] → W p l e (sd_R fr_L_needed lo_L_needed S0 o.2) s m args below meth c H locs cs ss Q (F0 m 122 ls []) := by
    intro   E S H locs ls cs ss hf hE X hw hc hl
    have hcs := sd_room hc (mo_L_needed_h122 F _ _ hf) hR
    unfold f_L_needed_h122 at hf
    refine lv_iconst (v := 0) X.1 X.2.1 dL_needed_122 (by decide) ?_
    obtain ⟨v1, ev1, hf⟩ := si_ob hf
    exact hret _ _ _ _ _ _ _ _ _ (si_bzf ev1 hf) (si_nz (si_bz_inv ev1).1) ⟨hE, hw, hc⟩ dL_needed_123
  have B157 : ∀ (E : si_Ev) (S : si_St) (H : Heap) (locs : List Loc) (ls : Array Slot) (cs ss : Nat), f_L_needed_h157 F S = some o → sd_EE al_L_needed E0 E → si_Cx p s m args c cL_needed 10 yL_needed.cls E A → si_Ws E A s.heap S H locs → sd_Ct S0 S cs ss → lv_has ls 10 [] → W p l e (sd_R fr_L_needed lo_L_needed S0 o.2) s m args below meth c H locs cs ss Q (F0 m 157 ls []) := by
    intro   E S H locs ls cs ss hf hE X hw hc hl
    have hcs := sd_room hc (mo_L_needed_h157 F _ _ hf) hR
    unfold f_L_needed_h157 at hf
    refine lv_iconst (v := 0) X.1 X.2.1 dL_needed_157 (by decide) ?_
    obtain ⟨v2, ev2, hf⟩ := si_ob hf
    exact hret _ _ _ _ _ _ _ _ _ (si_bzf ev2 hf) (si_nz (si_bz_inv ev2).1) ⟨hE, hw, hc⟩ dL_needed_158
  have B215 : ∀ (n215 : Nat) (x2 : Int32) (x4 : Int32) (x9 : Int32) (E : si_Ev) (S : si_St) (H : Heap) (locs : List Loc) (ls : Array Slot) (cs ss : Nat), f_L_needed_l215 F n215 x2 x4 x9 S = some o → sd_EE al_L_needed E0 E → si_Cx p s m args c cL_needed 10 yL_needed.cls E A → si_Ws E A s.heap S H locs → sd_Ct S0 S cs ss → lv_has ls 10 [(2, .int x2), (4, .int x4), (8, .ref (E.2.1 99)), (9, .int x9)] → W p l e (sd_R fr_L_needed lo_L_needed S0 o.2) s m args below meth c H locs cs ss Q (F0 m 215 ls []) := by
    intro n215
    induction n215 with
    | zero => intro x2 x4 x9  E S H locs ls cs ss hf; cases hf
    | succ n215 ih215 =>
      have B234 : ∀ (x2 : Int32) (x4 : Int32) (x9 : Int32) (t0 : Int32) (E : si_Ev) (S : si_St) (H : Heap) (locs : List Loc) (ls : Array Slot) (cs ss : Nat), f_L_needed_h234 F (f_L_needed_l215 F n215) x2 x4 x9 t0 S = some o → sd_EE al_L_needed E0 E → si_Cx p s m args c cL_needed 10 yL_needed.cls E A → si_Ws E A s.heap S H locs → sd_Ct S0 S cs ss → lv_has ls 10 [(2, .int x2), (4, .int x4), (8, .ref (E.2.1 99)), (9, .int x9)] → W p l e (sd_R fr_L_needed lo_L_needed S0 o.2) s m args below meth c H locs cs ss Q (F0 m 234 ls [.int t0]) := by
        intro x2 x4 x9 t0  E S H locs ls cs ss hf hE X hw hc hl
        have hcs := sd_room hc (mo_L_needed_h234 F (f_L_needed_l215 F n215) (mo_L_needed_l215 F n215) _ _ _ _ _ _ hf) hR
        unfold f_L_needed_h234 at hf
        refine lv_if_ne (tgt := 239) X.1 X.2.1 dL_needed_234 (by decide) (fun c234 => ?_) (fun c234 => ?_)
        · have hf := si_in c234 hf
          obtain ⟨v3, ev3, hf⟩ := si_ob hf
          refine lv_iinc (v := v3) (lv' := [(9, .int v3), (2, .int x2), (4, .int x4), (8, .ref (E.2.1 99))]) X.1 X.2.1 dL_needed_239 hl (k := 3) rfl (Option.some.inj ev3) (by decide) rfl (fun ls hl => ?_)
          refine lv_goto (tgt := 215) X.1 X.2.1 dL_needed_242 (by decide) ?_
          exact ih215 _ _ _ _ _ _ _ _ _ _ hf hE X hw hc (lv_sub hl [1, 2, 3, 0] rfl)
        · have hf := si_ip c234 hf
          refine lv_iconst (v := 0) X.1 X.2.1 dL_needed_237 (by decide) ?_
          obtain ⟨v4, ev4, hf⟩ := si_ob hf
          exact hret _ _ _ _ _ _ _ _ _ (si_bzf ev4 hf) (si_nz (si_bz_inv ev4).1) ⟨hE, hw, hc⟩ dL_needed_238
      intro x2 x4 x9  E S H locs ls cs ss hf hE X hw hc hl
      have hf : f_L_needed_h215 F (f_L_needed_l215 F n215) x2 x4 x9 S = some o := hf
      have ih_mo := mo_L_needed_l215 F n215
      have hcs := sd_room hc (mo_L_needed_h215 F (f_L_needed_l215 F n215) ih_mo _ _ _ _ _ hf) hR
      unfold f_L_needed_h215 at hf
      refine lv_iload X.1 X.2.1 dL_needed_215 (lv_at hl 3 rfl) ?_
      refine lv_iconst (v := 3) X.1 X.2.1 dL_needed_217 (by decide) ?_
      refine lv_icmp_ge (tgt := 245) X.1 X.2.1 dL_needed_218 (by decide) (fun c218 => ?_) (fun c218 => ?_)
      · have hf := si_ip c218 hf
        refine lv_iconst (v := 1) X.1 X.2.1 dL_needed_245 (by decide) ?_
        obtain ⟨v5, ev5, hf⟩ := si_ob hf
        exact hret _ _ _ _ _ _ _ _ _ (si_bzf ev5 hf) (si_nz (si_bz_inv ev5).1) ⟨hE, hw, hc⟩ dL_needed_246
      · have hf := si_in c218 hf
        refine lv_aload X.1 X.2.1 dL_needed_221 (lv_at hl 2 rfl) ?_
        refine lv_iload X.1 X.2.1 dL_needed_223 (lv_at hl 3 rfl) ?_
        obtain ⟨v6, ev6, hf⟩ := si_ob hf
        refine sd_iald X hw rfl ev6 dL_needed_225 ?_
        refine lv_iload_n X.1 X.2.1 dL_needed_226 rfl (lv_at hl 0 rfl) ?_
        refine lv_iload X.1 X.2.1 dL_needed_227 (lv_at hl 1 rfl) ?_
        refine lv_iconst (v := 1) X.1 X.2.1 dL_needed_229 (by decide) ?_
        refine lv_isub X.1 X.2.1 dL_needed_230 ?_
        obtain ⟨q7, eq7, hf⟩ := si_ob hf
        refine sd_goi (sd_runS (As := [.int v6, .int x2, .int (x4 - 1)]) (rest := []) cal_L_isEnough gm_RL_107 X hw hA hl.1 ((c_L_isEnough l E F 6 v6 x2 (x4 - 1) S q7 eq7) H.size) ⟨Nat.le_of_ble_eq_true rfl, Nat.le_of_ble_eq_true rfl⟩ rfl (Nat.le_of_ble_eq_true rfl) (sd_room2 hc (mo_L_isEnough F 6 v6 x2 (x4 - 1) S q7 eq7) (mo_L_needed_h234 F (f_L_needed_l215 F n215) (mo_L_needed_l215 F n215) _ _ _ _ _ _ hf) hR) dL_needed_231) X hw hA hE hc (mo_L_isEnough F 6 v6 x2 (x4 - 1) S q7 eq7) (sd_als_L_needed_L_isEnough) (fun E H locs cs ss hZ hE X hw hc => ?_)
        rw [← hZ.at 99 rfl] at hl
        exact B234 _ _ _ _ _ _ _ _ _ _ _ hf hE X hw hc (lv_sub hl [0, 1, 2, 3] rfl)
  have B167 : ∀ (n167 : Nat) (x2 : Int32) (x3 : Int32) (x4 : Int32) (x5 : Int32) (x6 : Int32) (x9 : Int32) (E : si_Ev) (S : si_St) (H : Heap) (locs : List Loc) (ls : Array Slot) (cs ss : Nat), f_L_needed_l167 F n167 x2 x3 x4 x5 x6 x9 S = some o → sd_EE al_L_needed E0 E → si_Cx p s m args c cL_needed 10 yL_needed.cls E A → si_Ws E A s.heap S H locs → sd_Ct S0 S cs ss → lv_has ls 10 [(2, .int x2), (3, .int x3), (4, .int x4), (5, .int x5), (6, .int x6), (8, .ref (E.2.1 99)), (9, .int x9)] → W p l e (sd_R fr_L_needed lo_L_needed S0 o.2) s m args below meth c H locs cs ss Q (F0 m 167 ls []) := by
    intro n167
    induction n167 with
    | zero => intro x2 x3 x4 x5 x6 x9  E S H locs ls cs ss hf; cases hf
    | succ n167 ih167 =>
      have B206 : ∀ (x2 : Int32) (x3 : Int32) (x4 : Int32) (x5 : Int32) (x6 : Int32) (x9 : Int32) (E : si_Ev) (S : si_St) (H : Heap) (locs : List Loc) (ls : Array Slot) (cs ss : Nat), f_L_needed_h206 F (f_L_needed_l167 F n167) x2 x3 x4 x5 x6 x9 S = some o → sd_EE al_L_needed E0 E → si_Cx p s m args c cL_needed 10 yL_needed.cls E A → si_Ws E A s.heap S H locs → sd_Ct S0 S cs ss → lv_has ls 10 [(2, .int x2), (3, .int x3), (4, .int x4), (5, .int x5), (6, .int x6), (8, .ref (E.2.1 99)), (9, .int x9)] → W p l e (sd_R fr_L_needed lo_L_needed S0 o.2) s m args below meth c H locs cs ss Q (F0 m 206 ls []) := by
        intro x2 x3 x4 x5 x6 x9  E S H locs ls cs ss hf hE X hw hc hl
        have hcs := sd_room hc (mo_L_needed_h206 F (f_L_needed_l167 F n167) (mo_L_needed_l167 F n167) _ _ _ _ _ _ _ _ hf) hR
        unfold f_L_needed_h206 at hf
        obtain ⟨v8, ev8, hf⟩ := si_ob hf
        refine lv_iinc (v := v8) (lv' := [(9, .int v8), (2, .int x2), (3, .int x3), (4, .int x4), (5, .int x5), (6, .int x6), (8, .ref (E.2.1 99))]) X.1 X.2.1 dL_needed_206 hl (k := 6) rfl (Option.some.inj ev8) (by decide) rfl (fun ls hl => ?_)
        refine lv_goto (tgt := 167) X.1 X.2.1 dL_needed_209 (by decide) ?_
        exact ih167 _ _ _ _ _ _ _ _ _ _ _ _ _ hf hE X hw hc (lv_sub hl [1, 2, 3, 4, 5, 6, 0] rfl)
      intro x2 x3 x4 x5 x6 x9  E S H locs ls cs ss hf hE X hw hc hl
      have hf : f_L_needed_h167 F (f_L_needed_l167 F n167) x2 x3 x4 x5 x6 x9 S = some o := hf
      have ih_mo := mo_L_needed_l167 F n167
      have hcs := sd_room hc (mo_L_needed_h167 F (f_L_needed_l167 F n167) ih_mo _ _ _ _ _ _ _ _ hf) hR
      unfold f_L_needed_h167 at hf
      refine lv_iload X.1 X.2.1 dL_needed_167 (lv_at hl 6 rfl) ?_
      refine lv_iconst (v := 1) X.1 X.2.1 dL_needed_169 (by decide) ?_
      refine lv_iconst (v := 2) X.1 X.2.1 dL_needed_170 (by decide) ?_
      refine lv_iload_n X.1 X.2.1 dL_needed_171 rfl (lv_at hl 0 rfl) ?_
      refine lv_imul X.1 X.2.1 dL_needed_172 ?_
      refine lv_iadd X.1 X.2.1 dL_needed_173 ?_
      refine lv_icmp_ge (tgt := 212) X.1 X.2.1 dL_needed_174 (by decide) (fun c174 => ?_) (fun c174 => ?_)
      · have hf := si_ip c174 hf
        refine lv_iconst (v := 0) X.1 X.2.1 dL_needed_212 (by decide) ?_
        refine lv_istore (lv' := [(9, .int 0), (2, .int x2), (3, .int x3), (4, .int x4), (5, .int x5), (6, .int x6), (8, .ref (E.2.1 99))]) X.1 X.2.1 dL_needed_213 hl (by decide) rfl (fun ls hl => ?_)
        exact B215 F _ _ _ _ _ _ _ _ _ _ hf hE X hw hc (lv_sub hl [1, 3, 6, 0] rfl)
      · have hf := si_in c174 hf
        refine lv_iload_n X.1 X.2.1 dL_needed_177 rfl (lv_at hl 1 rfl) ?_
        refine lv_iload X.1 X.2.1 dL_needed_178 (lv_at hl 6 rfl) ?_
        refine lv_ishr X.1 X.2.1 dL_needed_180 ?_
        refine lv_iconst (v := 1) X.1 X.2.1 dL_needed_181 (by decide) ?_
        refine lv_iand X.1 X.2.1 dL_needed_182 ?_
        refine lv_iconst (v := 1) X.1 X.2.1 dL_needed_183 (by decide) ?_
        refine lv_icmp_ne (tgt := 206) X.1 X.2.1 dL_needed_184 (by decide) (fun c184 => ?_) (fun c184 => ?_)
        · have hf := si_in c184 hf
          exact B206 _ _ _ _ _ _ _ _ _ _ _ _ _ hf hE X hw hc (lv_sub hl [0, 1, 2, 3, 4, 5, 6] rfl)
        · have hf := si_ip c184 hf
          refine lv_aload X.1 X.2.1 dL_needed_187 (lv_at hl 5 rfl) ?_
          refine lv_iload X.1 X.2.1 dL_needed_189 (lv_at hl 6 rfl) ?_
          refine lv_iload X.1 X.2.1 dL_needed_191 (lv_at hl 3 rfl) ?_
          refine lv_iload X.1 X.2.1 dL_needed_193 (lv_at hl 4 rfl) ?_
          obtain ⟨q9, eq9, hf⟩ := si_ob hf
          refine si_cSi [.int x9, .int x5, .int x6] cal_L_result gm_RL_103 X hw hA hl.1 (c_L_result l E F x9 x5 x6 S q9 eq9) ⟨⟨rfl, rfl⟩, Nat.le_of_ble_eq_true rfl, Nat.le_of_ble_eq_true rfl⟩ rfl rfl (Nat.le_of_ble_eq_true rfl) hcs dL_needed_195 (fun H locs hw => ?_)
          have hc := hc.up (fr_L_result F x9 x5 x6 S q9 eq9).le
          refine lv_dup2_11 X.1 X.2.1 dL_needed_198 rfl rfl ?_
          obtain ⟨v10, ev10, hf⟩ := si_ob hf
          refine sd_iald X hw rfl ev10 dL_needed_199 ?_
          refine lv_iconst (v := 1) X.1 X.2.1 dL_needed_200 (by decide) ?_
          refine lv_iload X.1 X.2.1 dL_needed_201 (lv_at hl 6 rfl) ?_
          refine lv_ishl X.1 X.2.1 dL_needed_203 ?_
          refine lv_ior X.1 X.2.1 dL_needed_204 ?_
          obtain ⟨S11, eS11, hf⟩ := si_ob hf
          refine sd_iast X hw rfl eS11 dL_needed_205 (fun H locs hw => ?_)
          have hc := hc.up (sd_wr_m eS11)
          exact B206 _ _ _ _ _ _ _ _ _ _ _ _ _ hf hE X hw hc (lv_sub hl [0, 1, 2, 3, 4, 5, 6] rfl)
  have B162 : ∀ (x2 : Int32) (x3 : Int32) (x4 : Int32) (x5 : Int32) (x6 : Int32) (E : si_Ev) (S : si_St) (H : Heap) (locs : List Loc) (ls : Array Slot) (cs ss : Nat), f_L_needed_h162 F x2 x3 x4 x5 x6 S = some o → sd_EE al_L_needed E0 E → si_Cx p s m args c cL_needed 10 yL_needed.cls E A → si_Ws E A s.heap S H locs → sd_Ct S0 S cs ss → lv_has ls 10 [(2, .int x2), (3, .int x3), (4, .int x4), (5, .int x5), (6, .int x6)] → W p l e (sd_R fr_L_needed lo_L_needed S0 o.2) s m args below meth c H locs cs ss Q (F0 m 162 ls [.ref (E.2.1 99)]) := by
    intro x2 x3 x4 x5 x6  E S H locs ls cs ss hf hE X hw hc hl
    have hcs := sd_room hc (mo_L_needed_h162 F _ _ _ _ _ _ _ hf) hR
    unfold f_L_needed_h162 at hf
    refine lv_astore (lv' := [(8, .ref (E.2.1 99)), (2, .int x2), (3, .int x3), (4, .int x4), (5, .int x5), (6, .int x6)]) X.1 X.2.1 dL_needed_162 hl (by decide) rfl (fun ls hl => ?_)
    refine lv_iconst (v := 0) X.1 X.2.1 dL_needed_164 (by decide) ?_
    refine lv_istore (lv' := [(9, .int 0), (8, .ref (E.2.1 99)), (2, .int x2), (3, .int x3), (4, .int x4), (5, .int x5), (6, .int x6)]) X.1 X.2.1 dL_needed_165 hl (by decide) rfl (fun ls hl => ?_)
    exact B167 F _ _ _ _ _ _ _ _ _ _ _ _ _ hf hE X hw hc (lv_sub hl [2, 3, 4, 5, 6, 1, 0] rfl)
  have B119 : ∀ (x2 : Int32) (x3 : Int32) (x4 : Int32) (x5 : Int32) (x6 : Int32) (t0 : Int32) (E : si_Ev) (S : si_St) (H : Heap) (locs : List Loc) (ls : Array Slot) (cs ss : Nat), f_L_needed_h119 F x2 x3 x4 x5 x6 t0 S = some o → sd_EE al_L_needed E0 E → si_Cx p s m args c cL_needed 10 yL_needed.cls E A → si_Ws E A s.heap S H locs → sd_Ct S0 S cs ss → lv_has ls 10 [(2, .int x2), (3, .int x3), (4, .int x4), (5, .int x5), (6, .int x6)] → W p l e (sd_R fr_L_needed lo_L_needed S0 o.2) s m args below meth c H locs cs ss Q (F0 m 119 ls [.int t0]) := by
    intro x2 x3 x4 x5 x6 t0  E S H locs ls cs ss hf hE X hw hc hl
    have hcs := sd_room hc (mo_L_needed_h119 F _ _ _ _ _ _ _ _ hf) hR
    unfold f_L_needed_h119 at hf
    refine lv_if_eq (tgt := 124) X.1 X.2.1 dL_needed_119 (by decide) (fun c119 => ?_) (fun c119 => ?_)
    · have hf := si_ip c119 hf
      refine lv_iload X.1 X.2.1 dL_needed_124 (lv_at hl 3 rfl) ?_
      refine lv_iconst (v := 1) X.1 X.2.1 dL_needed_126 (by decide) ?_
      refine lv_icmp_lt (tgt := 157) X.1 X.2.1 dL_needed_127 (by decide) (fun c127 => ?_) (fun c127 => ?_)
      · have hf := si_ip c127 hf
        exact B157 _ _ _ _ _ _ _ hf hE X hw hc (lv_sub hl [] rfl)
      · have hf := si_in c127 hf
        refine lv_iload X.1 X.2.1 dL_needed_130 (lv_at hl 4 rfl) ?_
        refine lv_iconst (v := 1) X.1 X.2.1 dL_needed_132 (by decide) ?_
        refine lv_icmp_lt (tgt := 157) X.1 X.2.1 dL_needed_133 (by decide) (fun c133 => ?_) (fun c133 => ?_)
        · have hf := si_ip c133 hf
          exact B157 _ _ _ _ _ _ _ hf hE X hw hc (lv_sub hl [] rfl)
        · have hf := si_in c133 hf
          refine lv_iload X.1 X.2.1 dL_needed_136 (lv_at hl 3 rfl) ?_
          refine lv_iload X.1 X.2.1 dL_needed_138 (lv_at hl 4 rfl) ?_
          refine lv_iand X.1 X.2.1 dL_needed_140 ?_
          refine lv_if_ne (tgt := 157) X.1 X.2.1 dL_needed_141 (by decide) (fun c141 => ?_) (fun c141 => ?_)
          · have hf := si_in c141 hf
            exact B157 _ _ _ _ _ _ _ hf hE X hw hc (lv_sub hl [] rfl)
          · have hf := si_ip c141 hf
            refine lv_iload X.1 X.2.1 dL_needed_144 (lv_at hl 3 rfl) ?_
            obtain ⟨q12, eq12, hf⟩ := si_ob hf
            refine si_cSi [.int x5] cal_J6_bitCount_0f7a4 gm_RL_98 X hw hA hl.1 (c_J6_bitCount_0f7a4 l E F x5 S q12 eq12) ⟨⟨rfl, rfl⟩, Nat.le_of_ble_eq_true rfl, Nat.le_of_ble_eq_true rfl⟩ rfl rfl (Nat.le_of_ble_eq_true rfl) hcs dL_needed_146 (fun H locs hw => ?_)
            have hc := hc.up (fr_J6_bitCount_0f7a4 F x5 S q12 eq12).le
            refine lv_iload X.1 X.2.1 dL_needed_149 (lv_at hl 4 rfl) ?_
            obtain ⟨q13, eq13, hf⟩ := si_ob hf
            refine si_cSi [.int x6] cal_J6_bitCount_0f7a4 gm_RL_98 X hw hA hl.1 (c_J6_bitCount_0f7a4 l E F x6 q12.2 q13 eq13) ⟨⟨rfl, rfl⟩, Nat.le_of_ble_eq_true rfl, Nat.le_of_ble_eq_true rfl⟩ rfl rfl (Nat.le_of_ble_eq_true rfl) hcs dL_needed_151 (fun H locs hw => ?_)
            have hc := hc.up (fr_J6_bitCount_0f7a4 F x6 q12.2 q13 eq13).le
            refine lv_icmp_eq (tgt := 159) X.1 X.2.1 dL_needed_154 (by decide) (fun c154 => ?_) (fun c154 => ?_)
            · have hf := si_ip c154 hf
              refine lv_iconst (v := 3) X.1 X.2.1 dL_needed_159 (by decide) ?_
              obtain ⟨S14, eS14, hf⟩ := si_ob hf
              refine sd_newI X hw hA hE hc hR ga_int rfl rfl eS14 (mo_L_needed_h162 F _ _ _ _ _ _ _ hf) dL_needed_160 (fun E H cs ss hZ hE X hw hc => ?_)
              exact B162 _ _ _ _ _ _ _ _ _ _ _ _ hf hE X hw hc (lv_sub hl [0, 1, 2, 3, 4] rfl)
            · have hf := si_in c154 hf
              exact B157 _ _ _ _ _ _ _ hf hE X hw hc (lv_sub hl [] rfl)
    · have hf := si_in c119 hf
      exact B122 _ _ _ _ _ _ _ hf hE X hw hc (lv_sub hl [] rfl)
  have B107 : ∀ (x2 : Int32) (x3 : Int32) (x4 : Int32) (x5 : Int32) (x6 : Int32) (t0 : Int32) (E : si_Ev) (S : si_St) (H : Heap) (locs : List Loc) (ls : Array Slot) (cs ss : Nat), f_L_needed_h107 F x2 x3 x4 x5 x6 t0 S = some o → sd_EE al_L_needed E0 E → si_Cx p s m args c cL_needed 10 yL_needed.cls E A → si_Ws E A s.heap S H locs → sd_Ct S0 S cs ss → lv_has ls 10 [(2, .int x2), (3, .int x3), (4, .int x4), (5, .int x5), (6, .int x6)] → W p l e (sd_R fr_L_needed lo_L_needed S0 o.2) s m args below meth c H locs cs ss Q (F0 m 107 ls [.int t0]) := by
    intro x2 x3 x4 x5 x6 t0  E S H locs ls cs ss hf hE X hw hc hl
    have hcs := sd_room hc (mo_L_needed_h107 F _ _ _ _ _ _ _ _ hf) hR
    unfold f_L_needed_h107 at hf
    refine lv_if_eq (tgt := 122) X.1 X.2.1 dL_needed_107 (by decide) (fun c107 => ?_) (fun c107 => ?_)
    · have hf := si_ip c107 hf
      exact B122 _ _ _ _ _ _ _ hf hE X hw hc (lv_sub hl [] rfl)
    · have hf := si_in c107 hf
      refine lv_iload_n X.1 X.2.1 dL_needed_110 rfl (lv_at hl 1 rfl) ?_
      refine lv_iload_n X.1 X.2.1 dL_needed_111 rfl (lv_at hl 0 rfl) ?_
      refine lv_iload X.1 X.2.1 dL_needed_112 (lv_at hl 2 rfl) ?_
      refine lv_iconst (v := 1) X.1 X.2.1 dL_needed_114 (by decide) ?_
      refine lv_isub X.1 X.2.1 dL_needed_115 ?_
      obtain ⟨q15, eq15, hf⟩ := si_ob hf
      refine sd_goi (sd_runS (As := [.int x3, .int x2, .int (x4 - 1)]) (rest := []) cal_L_isEnough gm_RL_107 X hw hA hl.1 ((c_L_isEnough l E F 6 x3 x2 (x4 - 1) S q15 eq15) H.size) ⟨Nat.le_of_ble_eq_true rfl, Nat.le_of_ble_eq_true rfl⟩ rfl (Nat.le_of_ble_eq_true rfl) (sd_room2 hc (mo_L_isEnough F 6 x3 x2 (x4 - 1) S q15 eq15) (mo_L_needed_h119 F _ _ _ _ _ _ _ _ hf) hR) dL_needed_116) X hw hA hE hc (mo_L_isEnough F 6 x3 x2 (x4 - 1) S q15 eq15) (sd_als_L_needed_L_isEnough) (fun E H locs cs ss hZ hE X hw hc => ?_)
      exact B119 _ _ _ _ _ _ _ _ _ _ _ _ _ hf hE X hw hc (lv_sub hl [0, 1, 2, 3, 4] rfl)
  have B93 : ∀ (t0 : Int32) (E : si_Ev) (S : si_St) (H : Heap) (locs : List Loc) (ls : Array Slot) (cs ss : Nat), f_L_needed_h93 F t0 S = some o → sd_EE al_L_needed E0 E → si_Cx p s m args c cL_needed 10 yL_needed.cls E A → si_Ws E A s.heap S H locs → sd_Ct S0 S cs ss → lv_has ls 10 [] → W p l e (sd_R fr_L_needed lo_L_needed S0 o.2) s m args below meth c H locs cs ss Q (F0 m 93 ls [.int t0]) := by
    intro t0  E S H locs ls cs ss hf hE X hw hc hl
    have hcs := sd_room hc (mo_L_needed_h93 F _ _ _ hf) hR
    unfold f_L_needed_h93 at hf
    obtain ⟨v16, ev16, hf⟩ := si_ob hf
    exact hret _ _ _ _ _ _ _ _ _ (si_bzf ev16 hf) (si_nz (si_bz_inv ev16).1) ⟨hE, hw, hc⟩ dL_needed_93
  have B92 : ∀ (E : si_Ev) (S : si_St) (H : Heap) (locs : List Loc) (ls : Array Slot) (cs ss : Nat), f_L_needed_h92 F S = some o → sd_EE al_L_needed E0 E → si_Cx p s m args c cL_needed 10 yL_needed.cls E A → si_Ws E A s.heap S H locs → sd_Ct S0 S cs ss → lv_has ls 10 [] → W p l e (sd_R fr_L_needed lo_L_needed S0 o.2) s m args below meth c H locs cs ss Q (F0 m 92 ls []) := by
    intro   E S H locs ls cs ss hf hE X hw hc hl
    have hcs := sd_room hc (mo_L_needed_h92 F _ _ hf) hR
    unfold f_L_needed_h92 at hf
    refine lv_iconst (v := 0) X.1 X.2.1 dL_needed_92 (by decide) ?_
    exact B93 _ _ _ _ _ _ _ _ hf hE X hw hc (lv_sub hl [] rfl)
  have B85 : ∀ (t0 : Int32) (E : si_Ev) (S : si_St) (H : Heap) (locs : List Loc) (ls : Array Slot) (cs ss : Nat), f_L_needed_h85 F t0 S = some o → sd_EE al_L_needed E0 E → si_Cx p s m args c cL_needed 10 yL_needed.cls E A → si_Ws E A s.heap S H locs → sd_Ct S0 S cs ss → lv_has ls 10 [] → W p l e (sd_R fr_L_needed lo_L_needed S0 o.2) s m args below meth c H locs cs ss Q (F0 m 85 ls [.int t0]) := by
    intro t0  E S H locs ls cs ss hf hE X hw hc hl
    have hcs := sd_room hc (mo_L_needed_h85 F _ _ _ hf) hR
    unfold f_L_needed_h85 at hf
    refine lv_if_ne (tgt := 92) X.1 X.2.1 dL_needed_85 (by decide) (fun c85 => ?_) (fun c85 => ?_)
    · have hf := si_in c85 hf
      exact B92 _ _ _ _ _ _ _ hf hE X hw hc (lv_sub hl [] rfl)
    · have hf := si_ip c85 hf
      refine lv_iconst (v := 1) X.1 X.2.1 dL_needed_88 (by decide) ?_
      refine lv_goto (tgt := 93) X.1 X.2.1 dL_needed_89 (by decide) ?_
      exact B93 _ _ _ _ _ _ _ _ hf hE X hw hc (lv_sub hl [] rfl)
  have B57 : ∀ (t0 : Int32) (E : si_Ev) (S : si_St) (H : Heap) (locs : List Loc) (ls : Array Slot) (cs ss : Nat), f_L_needed_h57 F t0 S = some o → sd_EE al_L_needed E0 E → si_Cx p s m args c cL_needed 10 yL_needed.cls E A → si_Ws E A s.heap S H locs → sd_Ct S0 S cs ss → lv_has ls 10 [] → W p l e (sd_R fr_L_needed lo_L_needed S0 o.2) s m args below meth c H locs cs ss Q (F0 m 57 ls [.int t0]) := by
    intro t0  E S H locs ls cs ss hf hE X hw hc hl
    have hcs := sd_room hc (mo_L_needed_h57 F _ _ _ hf) hR
    unfold f_L_needed_h57 at hf
    obtain ⟨v17, ev17, hf⟩ := si_ob hf
    exact hret _ _ _ _ _ _ _ _ _ (si_bzf ev17 hf) (si_nz (si_bz_inv ev17).1) ⟨hE, hw, hc⟩ dL_needed_57
  have B56 : ∀ (E : si_Ev) (S : si_St) (H : Heap) (locs : List Loc) (ls : Array Slot) (cs ss : Nat), f_L_needed_h56 F S = some o → sd_EE al_L_needed E0 E → si_Cx p s m args c cL_needed 10 yL_needed.cls E A → si_Ws E A s.heap S H locs → sd_Ct S0 S cs ss → lv_has ls 10 [] → W p l e (sd_R fr_L_needed lo_L_needed S0 o.2) s m args below meth c H locs cs ss Q (F0 m 56 ls []) := by
    intro   E S H locs ls cs ss hf hE X hw hc hl
    have hcs := sd_room hc (mo_L_needed_h56 F _ _ hf) hR
    unfold f_L_needed_h56 at hf
    refine lv_iconst (v := 0) X.1 X.2.1 dL_needed_56 (by decide) ?_
    exact B57 _ _ _ _ _ _ _ _ hf hE X hw hc (lv_sub hl [] rfl)
  have B0 : ∀ (x1 : Int32) (x2 : Int32) (x3 : Int32) (E : si_Ev) (S : si_St) (H : Heap) (locs : List Loc) (ls : Array Slot) (cs ss : Nat), f_L_needed_h0 F x1 x2 x3 S = some o → sd_EE al_L_needed E0 E → si_Cx p s m args c cL_needed 10 yL_needed.cls E A → si_Ws E A s.heap S H locs → sd_Ct S0 S cs ss → lv_has ls 10 [(0, .ref (E.2.1 0)), (1, .int x1), (2, .int x2), (3, .int x3)] → W p l e (sd_R fr_L_needed lo_L_needed S0 o.2) s m args below meth c H locs cs ss Q (F0 m 0 ls []) := by
    intro x1 x2 x3  E S H locs ls cs ss hf hE X hw hc hl
    have hcs := sd_room hc (mo_L_needed_h0 F _ _ _ _ _ hf) hR
    unfold f_L_needed_h0 at hf
    refine lv_aload_n X.1 X.2.1 dL_needed_0 rfl (lv_at hl 0 rfl) ?_
    refine lv_iload_n X.1 X.2.1 dL_needed_1 rfl (lv_at hl 1 rfl) ?_
    obtain ⟨q18, eq18, hf⟩ := si_ob hf
    refine si_cVi [.int x1] cal_X9_weighingsNeeded gm_RL_146 X hw hA hl.1 (c_X9_weighingsNeeded l E F x1 S q18 eq18) si_cl9 rfl ⟨⟨rfl, rfl⟩, Nat.le_of_ble_eq_true rfl, Nat.le_of_ble_eq_true rfl⟩ rfl rfl (Nat.le_of_ble_eq_true rfl) hcs dL_needed_2 (fun H locs hw => ?_)
    have hc := hc.up (fr_X9_weighingsNeeded F x1 S q18 eq18).le
    refine lv_istore (lv' := [(4, .int q18.1), (0, .ref (E.2.1 0)), (1, .int x1), (2, .int x2), (3, .int x3)]) X.1 X.2.1 dL_needed_5 hl (by decide) rfl (fun ls hl => ?_)
    refine lv_aload_n X.1 X.2.1 dL_needed_7 rfl (lv_at hl 1 rfl) ?_
    refine lv_iload_n X.1 X.2.1 dL_needed_8 rfl (lv_at hl 2 rfl) ?_
    obtain ⟨q19, eq19, hf⟩ := si_ob hf
    refine si_cVi [.int x1] cal_X9_bestLeft gm_RL_149 X hw hA hl.1 (c_X9_bestLeft l E F x1 q18.2 q19 eq19) si_cl9 rfl ⟨⟨rfl, rfl⟩, Nat.le_of_ble_eq_true rfl, Nat.le_of_ble_eq_true rfl⟩ rfl rfl (Nat.le_of_ble_eq_true rfl) hcs dL_needed_9 (fun H locs hw => ?_)
    have hc := hc.up (fr_X9_bestLeft F x1 q18.2 q19 eq19).le
    refine lv_istore (lv' := [(5, .int q19.1), (4, .int q18.1), (0, .ref (E.2.1 0)), (1, .int x1), (2, .int x2), (3, .int x3)]) X.1 X.2.1 dL_needed_12 hl (by decide) rfl (fun ls hl => ?_)
    refine lv_aload_n X.1 X.2.1 dL_needed_14 rfl (lv_at hl 2 rfl) ?_
    refine lv_iload_n X.1 X.2.1 dL_needed_15 rfl (lv_at hl 3 rfl) ?_
    obtain ⟨q20, eq20, hf⟩ := si_ob hf
    refine si_cVi [.int x1] cal_X9_bestRight gm_RL_152 X hw hA hl.1 (c_X9_bestRight l E F x1 q19.2 q20 eq20) si_cl9 rfl ⟨⟨rfl, rfl⟩, Nat.le_of_ble_eq_true rfl, Nat.le_of_ble_eq_true rfl⟩ rfl rfl (Nat.le_of_ble_eq_true rfl) hcs dL_needed_16 (fun H locs hw => ?_)
    have hc := hc.up (fr_X9_bestRight F x1 q19.2 q20 eq20).le
    refine lv_istore (lv' := [(6, .int q20.1), (5, .int q19.1), (4, .int q18.1), (0, .ref (E.2.1 0)), (1, .int x1), (2, .int x2), (3, .int x3)]) X.1 X.2.1 dL_needed_19 hl (by decide) rfl (fun ls hl => ?_)
    refine lv_iload_n X.1 X.2.1 dL_needed_21 rfl (lv_at hl 6 rfl) ?_
    obtain ⟨q21, eq21, hf⟩ := si_ob hf
    refine si_cSi [.int x3] cal_J6_bitCount_0f7a4 gm_RL_98 X hw hA hl.1 (c_J6_bitCount_0f7a4 l E F x3 q20.2 q21 eq21) ⟨⟨rfl, rfl⟩, Nat.le_of_ble_eq_true rfl, Nat.le_of_ble_eq_true rfl⟩ rfl rfl (Nat.le_of_ble_eq_true rfl) hcs dL_needed_22 (fun H locs hw => ?_)
    have hc := hc.up (fr_J6_bitCount_0f7a4 F x3 q20.2 q21 eq21).le
    refine lv_istore (lv' := [(7, .int q21.1), (6, .int q20.1), (5, .int q19.1), (4, .int q18.1), (0, .ref (E.2.1 0)), (1, .int x1), (2, .int x2), (3, .int x3)]) X.1 X.2.1 dL_needed_25 hl (by decide) rfl (fun ls hl => ?_)
    refine lv_iload X.1 X.2.1 dL_needed_27 (lv_at hl 0 rfl) ?_
    refine lv_iconst (v := 2) X.1 X.2.1 dL_needed_29 (by decide) ?_
    refine lv_icmp_ge (tgt := 58) X.1 X.2.1 dL_needed_30 (by decide) (fun c30 => ?_) (fun c30 => ?_)
    · have hf := si_ip c30 hf
      refine lv_iload X.1 X.2.1 dL_needed_58 (lv_at hl 3 rfl) ?_
      refine lv_bipush (v := (-2)) X.1 X.2.1 dL_needed_60 (by decide) ?_
      refine lv_icmp_ne (tgt := 94) X.1 X.2.1 dL_needed_62 (by decide) (fun c62 => ?_) (fun c62 => ?_)
      · have hf := si_in c62 hf
        refine lv_iload X.1 X.2.1 dL_needed_94 (lv_at hl 3 rfl) ?_
        refine lv_iconst (v := 1) X.1 X.2.1 dL_needed_96 (by decide) ?_
        refine lv_icmp_lt (tgt := 122) X.1 X.2.1 dL_needed_97 (by decide) (fun c97 => ?_) (fun c97 => ?_)
        · have hf := si_ip c97 hf
          exact B122 _ _ _ _ _ _ _ hf hE X hw hc (lv_sub hl [] rfl)
        · have hf := si_in c97 hf
          refine lv_iload_n X.1 X.2.1 dL_needed_100 rfl (lv_at hl 7 rfl) ?_
          refine lv_iload_n X.1 X.2.1 dL_needed_101 rfl (lv_at hl 6 rfl) ?_
          refine lv_iload X.1 X.2.1 dL_needed_102 (lv_at hl 3 rfl) ?_
          obtain ⟨q22, eq22, hf⟩ := si_ob hf
          refine sd_goi (sd_runS (As := [.int x3, .int x2, .int q18.1]) (rest := []) cal_L_isEnough gm_RL_107 X hw hA hl.1 ((c_L_isEnough l E F 6 x3 x2 q18.1 q21.2 q22 eq22) H.size) ⟨Nat.le_of_ble_eq_true rfl, Nat.le_of_ble_eq_true rfl⟩ rfl (Nat.le_of_ble_eq_true rfl) (sd_room2 hc (mo_L_isEnough F 6 x3 x2 q18.1 q21.2 q22 eq22) (mo_L_needed_h107 F _ _ _ _ _ _ _ _ hf) hR) dL_needed_104) X hw hA hE hc (mo_L_isEnough F 6 x3 x2 q18.1 q21.2 q22 eq22) (sd_als_L_needed_L_isEnough) (fun E H locs cs ss hZ hE X hw hc => ?_)
          rw [← hZ.at 0 rfl] at hl
          exact B107 _ _ _ _ _ _ _ _ _ _ _ _ _ hf hE X hw hc (lv_sub hl [6, 7, 3, 2, 1] rfl)
      · have hf := si_ip c62 hf
        refine lv_iload X.1 X.2.1 dL_needed_65 (lv_at hl 2 rfl) ?_
        refine lv_bipush (v := (-2)) X.1 X.2.1 dL_needed_67 (by decide) ?_
        refine lv_icmp_ne (tgt := 92) X.1 X.2.1 dL_needed_69 (by decide) (fun c69 => ?_) (fun c69 => ?_)
        · have hf := si_in c69 hf
          exact B92 _ _ _ _ _ _ _ hf hE X hw hc (lv_sub hl [] rfl)
        · have hf := si_ip c69 hf
          refine lv_iload X.1 X.2.1 dL_needed_72 (lv_at hl 1 rfl) ?_
          refine lv_bipush (v := (-2)) X.1 X.2.1 dL_needed_74 (by decide) ?_
          refine lv_icmp_ne (tgt := 92) X.1 X.2.1 dL_needed_76 (by decide) (fun c76 => ?_) (fun c76 => ?_)
          · have hf := si_in c76 hf
            exact B92 _ _ _ _ _ _ _ hf hE X hw hc (lv_sub hl [] rfl)
          · have hf := si_ip c76 hf
            refine lv_iload_n X.1 X.2.1 dL_needed_79 rfl (lv_at hl 7 rfl) ?_
            refine lv_iload_n X.1 X.2.1 dL_needed_80 rfl (lv_at hl 6 rfl) ?_
            refine lv_iconst (v := 4) X.1 X.2.1 dL_needed_81 (by decide) ?_
            obtain ⟨q23, eq23, hf⟩ := si_ob hf
            refine sd_goi (sd_runS (As := [.int x3, .int x2, .int 4]) (rest := []) cal_L_isEnough gm_RL_107 X hw hA hl.1 ((c_L_isEnough l E F 6 x3 x2 4 q21.2 q23 eq23) H.size) ⟨Nat.le_of_ble_eq_true rfl, Nat.le_of_ble_eq_true rfl⟩ rfl (Nat.le_of_ble_eq_true rfl) (sd_room2 hc (mo_L_isEnough F 6 x3 x2 4 q21.2 q23 eq23) (mo_L_needed_h85 F _ _ _ hf) hR) dL_needed_82) X hw hA hE hc (mo_L_isEnough F 6 x3 x2 4 q21.2 q23 eq23) (sd_als_L_needed_L_isEnough) (fun E H locs cs ss hZ hE X hw hc => ?_)
            rw [← hZ.at 0 rfl] at hl
            exact B85 _ _ _ _ _ _ _ _ hf hE X hw hc (lv_sub hl [] rfl)
    · have hf := si_in c30 hf
      refine lv_iload X.1 X.2.1 dL_needed_33 (lv_at hl 3 rfl) ?_
      refine lv_if_ne (tgt := 56) X.1 X.2.1 dL_needed_35 (by decide) (fun c35 => ?_) (fun c35 => ?_)
      · have hf := si_in c35 hf
        exact B56 _ _ _ _ _ _ _ hf hE X hw hc (lv_sub hl [] rfl)
      · have hf := si_ip c35 hf
        refine lv_iload X.1 X.2.1 dL_needed_38 (lv_at hl 2 rfl) ?_
        refine lv_bipush (v := (-2)) X.1 X.2.1 dL_needed_40 (by decide) ?_
        refine lv_icmp_ne (tgt := 56) X.1 X.2.1 dL_needed_42 (by decide) (fun c42 => ?_) (fun c42 => ?_)
        · have hf := si_in c42 hf
          exact B56 _ _ _ _ _ _ _ hf hE X hw hc (lv_sub hl [] rfl)
        · have hf := si_ip c42 hf
          refine lv_iload X.1 X.2.1 dL_needed_45 (lv_at hl 1 rfl) ?_
          refine lv_bipush (v := (-2)) X.1 X.2.1 dL_needed_47 (by decide) ?_
          refine lv_icmp_ne (tgt := 56) X.1 X.2.1 dL_needed_49 (by decide) (fun c49 => ?_) (fun c49 => ?_)
          · have hf := si_in c49 hf
            exact B56 _ _ _ _ _ _ _ hf hE X hw hc (lv_sub hl [] rfl)
          · have hf := si_ip c49 hf
            refine lv_iconst (v := 1) X.1 X.2.1 dL_needed_52 (by decide) ?_
            refine lv_goto (tgt := 57) X.1 X.2.1 dL_needed_53 (by decide) ?_
            exact B57 _ _ _ _ _ _ _ _ hf hE X hw hc (lv_sub hl [] rfl)
  unfold f_L_needed at hf
  exact B0 _ _ _ _ _ _ _ _ _ _ hf hE X hw hc (lv_sub hl [0, 1, 2, 3] rfl)
def al_L_law : Nat → Bool := fun a => decide (87 ≤ a)
theorem sd_als_L_law_L_loads : ∀ k, al_L_law k = false → al_L_loads k = false := by
  intro k h
  simp only [al_L_law, al_L_loads, decide_eq_false_iff_not] at h ⊢
  omega
theorem sd_als_L_law_L_needed : ∀ k, al_L_law k = false → al_L_needed k = false := by
  intro k h
  simp only [al_L_law, al_L_needed, decide_eq_false_iff_not] at h ⊢
  omega
def f_L_law_h491 (F : Nat) (L : Nat) (xs : Nat → Int32) (t0 : Int32) (S : si_St) : Option (Int32 × si_St) :=
  Option.bind (si_bz t0) fun v1 => some (v1, S)
def f_L_law_h490 (F : Nat) (L : Nat) (xs : Nat → Int32) (S : si_St) : Option (Int32 × si_St) :=
  f_L_law_h491 F L xs 0 S
def f_L_law_h422 (F : Nat) (L : Nat) (xs : Nat → Int32) (S : si_St) : Option (Int32 × si_St) :=
  Option.bind (f_X9_fewestWeighings F 12 0 S) fun q2 => if q2.1 = 3 then (Option.bind (f_X9_fewestWeighings F 12 1 q2.2) fun q3 => if q3.1 = 3 then (Option.bind (f_X9_fewestWeighings F 2 0 q3.2) fun q4 => if q4.1 = (-2) then (Option.bind (f_X9_fewestWeighings F 3 1 q4.2) fun q5 => if q5.1 = 2 then (Option.bind (f_X9_fewestWeighings F 1 1 q5.2) fun q6 => if q6.1 = (-1) then (Option.bind (f_X9_fewestWeighings F 13 1 q6.2) fun q7 => if q7.1 = (-1) then (f_L_law_h491 F L xs 1 q7.2) else (f_L_law_h490 F L xs q7.2)) else (f_L_law_h490 F L xs q6.2)) else (f_L_law_h490 F L xs q5.2)) else (f_L_law_h490 F L xs q4.2)) else (f_L_law_h490 F L xs q3.2)) else (f_L_law_h490 F L xs q2.2)
def f_L_law_h197 (F : Nat) (L : Nat) (xs : Nat → Int32) (S : si_St) : Option (Int32 × si_St) :=
  Option.bind (si_bz 0) fun v8 => some (v8, S)
def f_L_law_h402 (F : Nat) (L : Nat) (xs : Nat → Int32) (r13 : Int32 → Int32 → si_St → Option (Int32 × si_St)) (r55 : Int32 → Int32 → Int32 → si_St → Option (Int32 × si_St)) (r152 : Int32 → Int32 → Int32 → Int32 → Int32 → Int32 → si_St → Option (Int32 × si_St)) (x2 : Int32) (x3 : Int32) (x6 : Int32) (x7 : Int32) (x9 : Int32) (t0 : Int32) (S : si_St) : Option (Int32 × si_St) :=
  Option.bind (some (x9 + 1)) fun v9 => r152 x2 x3 x6 x7 t0 v9 S
def f_L_law_h400 (F : Nat) (L : Nat) (xs : Nat → Int32) (r13 : Int32 → Int32 → si_St → Option (Int32 × si_St)) (r55 : Int32 → Int32 → Int32 → si_St → Option (Int32 × si_St)) (r152 : Int32 → Int32 → Int32 → Int32 → Int32 → Int32 → si_St → Option (Int32 × si_St)) (x2 : Int32) (x3 : Int32) (x6 : Int32) (x7 : Int32) (x8 : Int32) (x9 : Int32) (S : si_St) : Option (Int32 × si_St) :=
  f_L_law_h402 F L xs r13 r55 r152 x2 x3 x6 x7 x9 x8 S
def f_L_law_h380 (F : Nat) (L : Nat) (xs : Nat → Int32) (r13 : Int32 → Int32 → si_St → Option (Int32 × si_St)) (r55 : Int32 → Int32 → Int32 → si_St → Option (Int32 × si_St)) (r152 : Int32 → Int32 → Int32 → Int32 → Int32 → Int32 → si_St → Option (Int32 × si_St)) (x2 : Int32) (x3 : Int32) (x6 : Int32) (x7 : Int32) (x8 : Int32) (x9 : Int32) (x13 : Int32) (x14 : Int32) (t0 : Int32) (t1 : Int32) (S : si_St) : Option (Int32 × si_St) :=
  if t1 = t0 then (if x14 = 0 then (f_L_law_h400 F L xs r13 r55 r152 x2 x3 x6 x7 x8 x9 S) else (if x13 = 0 then (f_L_law_h400 F L xs r13 r55 r152 x2 x3 x6 x7 x8 x9 S) else (f_L_law_h402 F L xs r13 r55 r152 x2 x3 x6 x7 x9 x13 S))) else (Option.bind (si_bz 0) fun v10 => some (v10, S))
def f_L_law_h342 (F : Nat) (L : Nat) (xs : Nat → Int32) (r13 : Int32 → Int32 → si_St → Option (Int32 × si_St)) (r55 : Int32 → Int32 → Int32 → si_St → Option (Int32 × si_St)) (r152 : Int32 → Int32 → Int32 → Int32 → Int32 → Int32 → si_St → Option (Int32 × si_St)) (x2 : Int32) (x3 : Int32) (x6 : Int32) (x7 : Int32) (x8 : Int32) (x9 : Int32) (x10 : Int32) (x11 : Int32) (x12 : Int32) (x13 : Int32) (t0 : Int32) (S : si_St) : Option (Int32 × si_St) :=
  Option.bind (f_X9_weigh F x6 x10 x11 x12 S) fun q11 => if t0 = 0 then (f_L_law_h380 F L xs r13 r55 r152 x2 x3 x6 x7 x8 x9 x13 t0 (-1) q11.1 q11.2) else (if x13 = 0 then (f_L_law_h380 F L xs r13 r55 r152 x2 x3 x6 x7 x8 x9 x13 t0 (-2) q11.1 q11.2) else (Option.bind (f_J6_bitCount_0f7a4 F x13 q11.2) fun q12 => f_L_law_h380 F L xs r13 r55 r152 x2 x3 x6 x7 x8 x9 x13 t0 q12.1 q11.1 q12.2))
def f_L_law_h341 (F : Nat) (L : Nat) (xs : Nat → Int32) (r13 : Int32 → Int32 → si_St → Option (Int32 × si_St)) (r55 : Int32 → Int32 → Int32 → si_St → Option (Int32 × si_St)) (r152 : Int32 → Int32 → Int32 → Int32 → Int32 → Int32 → si_St → Option (Int32 × si_St)) (x2 : Int32) (x3 : Int32) (x6 : Int32) (x7 : Int32) (x8 : Int32) (x9 : Int32) (x10 : Int32) (x11 : Int32) (x12 : Int32) (x13 : Int32) (S : si_St) : Option (Int32 × si_St) :=
  f_L_law_h342 F L xs r13 r55 r152 x2 x3 x6 x7 x8 x9 x10 x11 x12 x13 0 S
def f_L_law_h310 (F : Nat) (L : Nat) (xs : Nat → Int32) (r13 : Int32 → Int32 → si_St → Option (Int32 × si_St)) (r55 : Int32 → Int32 → Int32 → si_St → Option (Int32 × si_St)) (r152 : Int32 → Int32 → Int32 → Int32 → Int32 → Int32 → si_St → Option (Int32 × si_St)) (r256 : Int32 → Int32 → Int32 → Int32 → Int32 → Int32 → Int32 → Int32 → Int32 → Int32 → Int32 → si_St → Option (Int32 × si_St)) (x2 : Int32) (x3 : Int32) (x6 : Int32) (x7 : Int32) (x8 : Int32) (x9 : Int32) (x10 : Int32) (x11 : Int32) (x12 : Int32) (x14 : Int32) (t0 : Int32) (t1 : Int32) (S : si_St) : Option (Int32 × si_St) :=
  Option.bind (some (t1 ||| t0)) fun v13 => Option.bind (some (x14 + 1)) fun v14 => r256 x2 x3 x6 x7 x8 x9 x10 x11 x12 v13 v14 S
def f_L_law_h309 (F : Nat) (L : Nat) (xs : Nat → Int32) (r13 : Int32 → Int32 → si_St → Option (Int32 × si_St)) (r55 : Int32 → Int32 → Int32 → si_St → Option (Int32 × si_St)) (r152 : Int32 → Int32 → Int32 → Int32 → Int32 → Int32 → si_St → Option (Int32 × si_St)) (r256 : Int32 → Int32 → Int32 → Int32 → Int32 → Int32 → Int32 → Int32 → Int32 → Int32 → Int32 → si_St → Option (Int32 × si_St)) (x2 : Int32) (x3 : Int32) (x6 : Int32) (x7 : Int32) (x8 : Int32) (x9 : Int32) (x10 : Int32) (x11 : Int32) (x12 : Int32) (x14 : Int32) (t0 : Int32) (S : si_St) : Option (Int32 × si_St) :=
  f_L_law_h310 F L xs r13 r55 r152 r256 x2 x3 x6 x7 x8 x9 x10 x11 x12 x14 0 t0 S
def f_L_law_h256 (F : Nat) (L : Nat) (xs : Nat → Int32) (r13 : Int32 → Int32 → si_St → Option (Int32 × si_St)) (r55 : Int32 → Int32 → Int32 → si_St → Option (Int32 × si_St)) (r152 : Int32 → Int32 → Int32 → Int32 → Int32 → Int32 → si_St → Option (Int32 × si_St)) (r256 : Int32 → Int32 → Int32 → Int32 → Int32 → Int32 → Int32 → Int32 → Int32 → Int32 → Int32 → si_St → Option (Int32 × si_St)) (x2 : Int32) (x3 : Int32) (x6 : Int32) (x7 : Int32) (x8 : Int32) (x9 : Int32) (x10 : Int32) (x11 : Int32) (x12 : Int32) (x13 : Int32) (x14 : Int32) (S : si_St) : Option (Int32 × si_St) :=
  if ¬ (sd_ok S 92 ∧ S.1 92 3 ≠ 0) then none else Option.bind (sd_rd S 95 (2 * x6)) fun v15 => if (1 + (2 * v15)) ≤ x14 then (if x10 = 0 then (f_L_law_h341 F L xs r13 r55 r152 x2 x3 x6 x7 x8 x9 x10 x11 x12 x13 S) else (Option.bind (f_J6_bitCount_0f7a4 F x10 S) fun q16 => Option.bind (f_J6_bitCount_0f7a4 F x11 q16.2) fun q17 => if q16.1 = q17.1 then (f_L_law_h342 F L xs r13 r55 r152 x2 x3 x6 x7 x8 x9 x10 x11 x12 x13 1 q17.2) else (f_L_law_h341 F L xs r13 r55 r152 x2 x3 x6 x7 x8 x9 x10 x11 x12 x13 q17.2))) else (if ((x8 >>> (x14 &&& 31)) &&& 1) = 1 then (Option.bind (f_L_result F x14 x10 x11 S) fun q18 => if q18.1 = x12 then (f_L_law_h310 F L xs r13 r55 r152 r256 x2 x3 x6 x7 x8 x9 x10 x11 x12 x14 (1 <<< (x14 &&& 31)) x13 q18.2) else (f_L_law_h309 F L xs r13 r55 r152 r256 x2 x3 x6 x7 x8 x9 x10 x11 x12 x14 x13 q18.2)) else (f_L_law_h309 F L xs r13 r55 r152 r256 x2 x3 x6 x7 x8 x9 x10 x11 x12 x14 x13 S))
def f_L_law_l256 (F : Nat) (L : Nat) (xs : Nat → Int32) (r13 : Int32 → Int32 → si_St → Option (Int32 × si_St)) (r55 : Int32 → Int32 → Int32 → si_St → Option (Int32 × si_St)) (r152 : Int32 → Int32 → Int32 → Int32 → Int32 → Int32 → si_St → Option (Int32 × si_St)) : Nat → Int32 → Int32 → Int32 → Int32 → Int32 → Int32 → Int32 → Int32 → Int32 → Int32 → Int32 → si_St → Option (Int32 × si_St)
 | 0 => fun _ _ _ _ _ _ _ _ _ _ _ _ => none
 | n + 1 => fun x2 x3 x6 x7 x8 x9 x10 x11 x12 x13 x14 S => f_L_law_h256 F L xs r13 r55 r152 (f_L_law_l256 F L xs r13 r55 r152 n) x2 x3 x6 x7 x8 x9 x10 x11 x12 x13 x14 S
def f_L_law_h248 (F : Nat) (L : Nat) (xs : Nat → Int32) (r13 : Int32 → Int32 → si_St → Option (Int32 × si_St)) (r55 : Int32 → Int32 → Int32 → si_St → Option (Int32 × si_St)) (r152 : Int32 → Int32 → Int32 → Int32 → Int32 → Int32 → si_St → Option (Int32 × si_St)) (x2 : Int32) (x3 : Int32) (x6 : Int32) (x7 : Int32) (x8 : Int32) (x9 : Int32) (x10 : Int32) (x11 : Int32) (t0 : Int32) (S : si_St) : Option (Int32 × si_St) :=
  f_L_law_l256 F L xs r13 r55 r152 F x2 x3 x6 x7 x8 x9 x10 x11 t0 0 0 S
def f_L_law_h235 (F : Nat) (L : Nat) (xs : Nat → Int32) (r13 : Int32 → Int32 → si_St → Option (Int32 × si_St)) (r55 : Int32 → Int32 → Int32 → si_St → Option (Int32 × si_St)) (r152 : Int32 → Int32 → Int32 → Int32 → Int32 → Int32 → si_St → Option (Int32 × si_St)) (x2 : Int32) (x3 : Int32) (x6 : Int32) (x7 : Int32) (x8 : Int32) (x9 : Int32) (x10 : Int32) (t0 : Int32) (S : si_St) : Option (Int32 × si_St) :=
  Option.bind (some (t0 &&& (x10 ^^^ (-1)))) fun v19 => Option.bind (f_L_draw F 98 3 S) fun q20 => f_L_law_h248 F L xs r13 r55 r152 x2 x3 x6 x7 x8 x9 x10 v19 q20.1 q20.2
def f_L_law_h216 (F : Nat) (L : Nat) (xs : Nat → Int32) (r13 : Int32 → Int32 → si_St → Option (Int32 × si_St)) (r55 : Int32 → Int32 → Int32 → si_St → Option (Int32 × si_St)) (r152 : Int32 → Int32 → Int32 → Int32 → Int32 → Int32 → si_St → Option (Int32 × si_St)) (x2 : Int32) (x3 : Int32) (x6 : Int32) (x7 : Int32) (x8 : Int32) (x9 : Int32) (t0 : Int32) (S : si_St) : Option (Int32 × si_St) :=
  if ¬ (sd_ok S 92 ∧ S.1 92 3 ≠ 0) then none else Option.bind (sd_rd S 95 (2 * x6)) fun v21 => Option.bind (f_L_draw F 98 (1 <<< (v21 &&& 31)) S) fun q22 => f_L_law_h235 F L xs r13 r55 r152 x2 x3 x6 x7 x8 x9 t0 q22.1 q22.2
def f_L_law_h199 (F : Nat) (L : Nat) (xs : Nat → Int32) (r13 : Int32 → Int32 → si_St → Option (Int32 × si_St)) (r55 : Int32 → Int32 → Int32 → si_St → Option (Int32 × si_St)) (r152 : Int32 → Int32 → Int32 → Int32 → Int32 → Int32 → si_St → Option (Int32 × si_St)) (x2 : Int32) (x3 : Int32) (x6 : Int32) (x7 : Int32) (x8 : Int32) (x9 : Int32) (S : si_St) : Option (Int32 × si_St) :=
  if ¬ (sd_ok S 92 ∧ S.1 92 3 ≠ 0) then none else Option.bind (sd_rd S 95 (2 * x6)) fun v23 => Option.bind (f_L_draw F 98 (1 <<< (v23 &&& 31)) S) fun q24 => f_L_law_h216 F L xs r13 r55 r152 x2 x3 x6 x7 x8 x9 q24.1 q24.2
def f_L_law_h194 (F : Nat) (L : Nat) (xs : Nat → Int32) (r13 : Int32 → Int32 → si_St → Option (Int32 × si_St)) (r55 : Int32 → Int32 → Int32 → si_St → Option (Int32 × si_St)) (r152 : Int32 → Int32 → Int32 → Int32 → Int32 → Int32 → si_St → Option (Int32 × si_St)) (x2 : Int32) (x3 : Int32) (x6 : Int32) (x7 : Int32) (x8 : Int32) (x9 : Int32) (t0 : Int32) (S : si_St) : Option (Int32 × si_St) :=
  if t0 = 0 then (f_L_law_h197 F L xs S) else (f_L_law_h199 F L xs r13 r55 r152 x2 x3 x6 x7 x8 x9 S)
def f_L_law_h152 (F : Nat) (L : Nat) (xs : Nat → Int32) (r13 : Int32 → Int32 → si_St → Option (Int32 × si_St)) (r55 : Int32 → Int32 → Int32 → si_St → Option (Int32 × si_St)) (r152 : Int32 → Int32 → Int32 → Int32 → Int32 → Int32 → si_St → Option (Int32 × si_St)) (x2 : Int32) (x3 : Int32) (x6 : Int32) (x7 : Int32) (x8 : Int32) (x9 : Int32) (S : si_St) : Option (Int32 × si_St) :=
  if 5 ≤ x9 then (Option.bind (some (x6 + 1)) fun v25 => r55 x2 x3 v25 S) else (if ¬ (sd_ok S 92 ∧ S.1 92 3 ≠ 0) then none else Option.bind (sd_rd S 95 (2 * x6)) fun v26 => Option.bind (f_L_said F x6 v26 x8 S) fun q27 => if q27.1 = 0 then (f_L_law_h197 F L xs q27.2) else (if x7 ≤ 0 then (f_L_law_h199 F L xs r13 r55 r152 x2 x3 x6 x7 x8 x9 q27.2) else (Option.bind (f_L_needed F x6 x7 x8 q27.2) fun q28 => f_L_law_h194 F L xs r13 r55 r152 x2 x3 x6 x7 x8 x9 q28.1 q28.2)))
def f_L_law_l152 (F : Nat) (L : Nat) (xs : Nat → Int32) (r13 : Int32 → Int32 → si_St → Option (Int32 × si_St)) (r55 : Int32 → Int32 → Int32 → si_St → Option (Int32 × si_St)) : Nat → Int32 → Int32 → Int32 → Int32 → Int32 → Int32 → si_St → Option (Int32 × si_St)
 | 0 => fun _ _ _ _ _ _ _ => none
 | n + 1 => fun x2 x3 x6 x7 x8 x9 S => f_L_law_h152 F L xs r13 r55 (f_L_law_l152 F L xs r13 r55 n) x2 x3 x6 x7 x8 x9 S
def f_L_law_h115 (F : Nat) (L : Nat) (xs : Nat → Int32) (r13 : Int32 → Int32 → si_St → Option (Int32 × si_St)) (r55 : Int32 → Int32 → Int32 → si_St → Option (Int32 × si_St)) (r115 : Int32 → Int32 → Int32 → Int32 → Int32 → Int32 → si_St → Option (Int32 × si_St)) (x2 : Int32) (x3 : Int32) (x6 : Int32) (x7 : Int32) (x8 : Int32) (x9 : Int32) (S : si_St) : Option (Int32 × si_St) :=
  if ¬ (sd_ok S 92 ∧ S.1 92 3 ≠ 0) then none else Option.bind (sd_rd S 95 (2 * x6)) fun v29 => if (1 + (2 * v29)) ≤ x9 then (f_L_law_l152 F L xs r13 r55 F x2 x3 x6 x7 x8 0 S) else (Option.bind (some (x8 ||| (1 <<< (x9 &&& 31)))) fun v30 => Option.bind (some (x9 + 1)) fun v31 => r115 x2 x3 x6 x7 v30 v31 S)
def f_L_law_l115 (F : Nat) (L : Nat) (xs : Nat → Int32) (r13 : Int32 → Int32 → si_St → Option (Int32 × si_St)) (r55 : Int32 → Int32 → Int32 → si_St → Option (Int32 × si_St)) : Nat → Int32 → Int32 → Int32 → Int32 → Int32 → Int32 → si_St → Option (Int32 × si_St)
 | 0 => fun _ _ _ _ _ _ _ => none
 | n + 1 => fun x2 x3 x6 x7 x8 x9 S => f_L_law_h115 F L xs r13 r55 (f_L_law_l115 F L xs r13 r55 n) x2 x3 x6 x7 x8 x9 S
def f_L_law_h113 (F : Nat) (L : Nat) (xs : Nat → Int32) (r13 : Int32 → Int32 → si_St → Option (Int32 × si_St)) (r55 : Int32 → Int32 → Int32 → si_St → Option (Int32 × si_St)) (x2 : Int32) (x3 : Int32) (x6 : Int32) (x7 : Int32) (x8 : Int32) (t0 : Int32) (S : si_St) : Option (Int32 × si_St) :=
  f_L_law_l115 F L xs r13 r55 F x2 x3 x6 x7 x8 t0 S
def f_L_law_h89 (F : Nat) (L : Nat) (xs : Nat → Int32) (r13 : Int32 → Int32 → si_St → Option (Int32 × si_St)) (r55 : Int32 → Int32 → Int32 → si_St → Option (Int32 × si_St)) (x2 : Int32) (x3 : Int32) (x6 : Int32) (x7 : Int32) (S : si_St) : Option (Int32 × si_St) :=
  if ¬ (sd_ok S 92 ∧ S.1 92 3 ≠ 0) then none else Option.bind (sd_rd S 95 ((2 * x6) + 1)) fun v32 => if v32 = 1 then (f_L_law_h113 F L xs r13 r55 x2 x3 x6 x7 0 0 S) else (f_L_law_h113 F L xs r13 r55 x2 x3 x6 x7 0 1 S)
def f_L_law_h55 (F : Nat) (L : Nat) (xs : Nat → Int32) (r13 : Int32 → Int32 → si_St → Option (Int32 × si_St)) (r55 : Int32 → Int32 → Int32 → si_St → Option (Int32 × si_St)) (x2 : Int32) (x3 : Int32) (x6 : Int32) (S : si_St) : Option (Int32 × si_St) :=
  if ¬ (sd_ok S 92 ∧ S.1 92 3 ≠ 0) then none else Option.bind (sd_al S 95) fun v33 => if (v33 / 2) ≤ x6 then (Option.bind (some (x3 + 1)) fun v34 => r13 x2 v34 S) else (if ¬ (sd_ok S 92 ∧ S.1 92 3 ≠ 0) then none else Option.bind (sd_rd S 95 (2 * x6)) fun v35 => if v35 ≤ 5 then (f_L_law_h89 F L xs r13 r55 x2 x3 x6 v35 S) else (f_L_law_h89 F L xs r13 r55 x2 x3 x6 0 S))
def f_L_law_l55 (F : Nat) (L : Nat) (xs : Nat → Int32) (r13 : Int32 → Int32 → si_St → Option (Int32 × si_St)) : Nat → Int32 → Int32 → Int32 → si_St → Option (Int32 × si_St)
 | 0 => fun _ _ _ _ => none
 | n + 1 => fun x2 x3 x6 S => f_L_law_h55 F L xs r13 (f_L_law_l55 F L xs r13 n) x2 x3 x6 S
def f_L_law_h42 (F : Nat) (L : Nat) (xs : Nat → Int32) (r13 : Int32 → Int32 → si_St → Option (Int32 × si_St)) (x2 : Int32) (x3 : Int32) (S : si_St) : Option (Int32 × si_St) :=
  Option.bind (si_xs L xs x3) fun v36 => Option.bind (sd_wr S 98 0 (v36 + 1)) fun S37 => f_L_law_l55 F L xs r13 F x2 x3 0 S37
def f_L_law_h30 (F : Nat) (L : Nat) (xs : Nat → Int32) (r13 : Int32 → Int32 → si_St → Option (Int32 × si_St)) (x2 : Int32) (x3 : Int32) (S : si_St) : Option (Int32 × si_St) :=
  Option.bind (sd_na S 98 1) fun S38 => f_L_law_h42 F L xs r13 x2 x3 S38
def f_L_law_h13 (F : Nat) (L : Nat) (xs : Nat → Int32) (r13 : Int32 → Int32 → si_St → Option (Int32 × si_St)) (x2 : Int32) (x3 : Int32) (S : si_St) : Option (Int32 × si_St) :=
  if x2 ≤ x3 then (f_L_law_h422 F L xs S) else (if 5 ≤ x3 then (f_L_law_h422 F L xs S) else (Option.bind (si_xs L xs x3) fun v39 => Option.bind (f_L_loads F v39 S) fun S40 => f_L_law_h30 F L xs r13 x2 x3 S40))
def f_L_law_l13 (F : Nat) (L : Nat) (xs : Nat → Int32) : Nat → Int32 → Int32 → si_St → Option (Int32 × si_St)
 | 0 => fun _ _ _ => none
 | n + 1 => fun x2 x3 S => f_L_law_h13 F L xs (f_L_law_l13 F L xs n) x2 x3 S
def f_L_law_h8 (F : Nat) (L : Nat) (xs : Nat → Int32) (S : si_St) : Option (Int32 × si_St) :=
  Option.bind (some (Int32.ofNat L)) fun v41 => f_L_law_l13 F L xs F v41 0 S
theorem mo_L_law_h491 (F : Nat) (L : Nat) (xs : Nat → Int32) (t0 : Int32) (S : si_St) (o : Int32 × si_St) (h : f_L_law_h491 F L xs t0 S = some o) : sd_le S o.2 := by
  have g : sd_le S S := sd_le.rf
  unfold f_L_law_h491 at h
  obtain ⟨v1, ev1, h⟩ := si_ob h
  obtain rfl := Option.some.inj h
  exact g
theorem mo_L_law_h490 (F : Nat) (L : Nat) (xs : Nat → Int32) (S : si_St) (o : Int32 × si_St) (h : f_L_law_h490 F L xs S = some o) : sd_le S o.2 := by
  have g : sd_le S S := sd_le.rf
  unfold f_L_law_h490 at h
  exact g.tr (mo_L_law_h491 F L xs _ _ _ h)
theorem mo_L_law_h422 (F : Nat) (L : Nat) (xs : Nat → Int32) (S : si_St) (o : Int32 × si_St) (h : f_L_law_h422 F L xs S = some o) : sd_le S o.2 := by
  have g : sd_le S S := sd_le.rf
  unfold f_L_law_h422 at h
  obtain ⟨q2, eq2, h⟩ := si_ob h
  have g := g.tr (fr_X9_fewestWeighings F 12 0 S q2 eq2).le
  rcases Decidable.em (q2.1 = 3) with c430 | c430
  · have h := si_ip c430 h
    obtain ⟨q3, eq3, h⟩ := si_ob h
    have g := g.tr (fr_X9_fewestWeighings F 12 1 q2.2 q3 eq3).le
    rcases Decidable.em (q3.1 = 3) with c441 | c441
    · have h := si_ip c441 h
      obtain ⟨q4, eq4, h⟩ := si_ob h
      have g := g.tr (fr_X9_fewestWeighings F 2 0 q3.2 q4 eq4).le
      rcases Decidable.em (q4.1 = (-2)) with c452 | c452
      · have h := si_ip c452 h
        obtain ⟨q5, eq5, h⟩ := si_ob h
        have g := g.tr (fr_X9_fewestWeighings F 3 1 q4.2 q5 eq5).le
        rcases Decidable.em (q5.1 = 2) with c462 | c462
        · have h := si_ip c462 h
          obtain ⟨q6, eq6, h⟩ := si_ob h
          have g := g.tr (fr_X9_fewestWeighings F 1 1 q5.2 q6 eq6).le
          rcases Decidable.em (q6.1 = (-1)) with c472 | c472
          · have h := si_ip c472 h
            obtain ⟨q7, eq7, h⟩ := si_ob h
            have g := g.tr (fr_X9_fewestWeighings F 13 1 q6.2 q7 eq7).le
            rcases Decidable.em (q7.1 = (-1)) with c483 | c483
            · have h := si_ip c483 h
              exact g.tr (mo_L_law_h491 F L xs _ _ _ h)
            · have h := si_in c483 h
              exact g.tr (mo_L_law_h490 F L xs _ _ h)
          · have h := si_in c472 h
            exact g.tr (mo_L_law_h490 F L xs _ _ h)
        · have h := si_in c462 h
          exact g.tr (mo_L_law_h490 F L xs _ _ h)
      · have h := si_in c452 h
        exact g.tr (mo_L_law_h490 F L xs _ _ h)
    · have h := si_in c441 h
      exact g.tr (mo_L_law_h490 F L xs _ _ h)
  · have h := si_in c430 h
    exact g.tr (mo_L_law_h490 F L xs _ _ h)
theorem mo_L_law_h197 (F : Nat) (L : Nat) (xs : Nat → Int32) (S : si_St) (o : Int32 × si_St) (h : f_L_law_h197 F L xs S = some o) : sd_le S o.2 := by
  have g : sd_le S S := sd_le.rf
  unfold f_L_law_h197 at h
  obtain ⟨v8, ev8, h⟩ := si_ob h
  obtain rfl := Option.some.inj h
  exact g
theorem mo_L_law_h402 (F : Nat) (L : Nat) (xs : Nat → Int32) (r13 : Int32 → Int32 → si_St → Option (Int32 × si_St)) (r55 : Int32 → Int32 → Int32 → si_St → Option (Int32 × si_St)) (r152 : Int32 → Int32 → Int32 → Int32 → Int32 → Int32 → si_St → Option (Int32 × si_St)) (hr13 : ∀ (x2 : Int32) (x3 : Int32) (S : si_St) (o : Int32 × si_St), r13 x2 x3 S = some o → sd_le S o.2) (hr55 : ∀ (x2 : Int32) (x3 : Int32) (x6 : Int32) (S : si_St) (o : Int32 × si_St), r55 x2 x3 x6 S = some o → sd_le S o.2) (hr152 : ∀ (x2 : Int32) (x3 : Int32) (x6 : Int32) (x7 : Int32) (x8 : Int32) (x9 : Int32) (S : si_St) (o : Int32 × si_St), r152 x2 x3 x6 x7 x8 x9 S = some o → sd_le S o.2) (x2 : Int32) (x3 : Int32) (x6 : Int32) (x7 : Int32) (x9 : Int32) (t0 : Int32) (S : si_St) (o : Int32 × si_St) (h : f_L_law_h402 F L xs r13 r55 r152 x2 x3 x6 x7 x9 t0 S = some o) : sd_le S o.2 := by
  have g : sd_le S S := sd_le.rf
  unfold f_L_law_h402 at h
  obtain ⟨v9, ev9, h⟩ := si_ob h
  exact g.tr (hr152 _ _ _ _ _ _ _ _ h)
theorem mo_L_law_h400 (F : Nat) (L : Nat) (xs : Nat → Int32) (r13 : Int32 → Int32 → si_St → Option (Int32 × si_St)) (r55 : Int32 → Int32 → Int32 → si_St → Option (Int32 × si_St)) (r152 : Int32 → Int32 → Int32 → Int32 → Int32 → Int32 → si_St → Option (Int32 × si_St)) (hr13 : ∀ (x2 : Int32) (x3 : Int32) (S : si_St) (o : Int32 × si_St), r13 x2 x3 S = some o → sd_le S o.2) (hr55 : ∀ (x2 : Int32) (x3 : Int32) (x6 : Int32) (S : si_St) (o : Int32 × si_St), r55 x2 x3 x6 S = some o → sd_le S o.2) (hr152 : ∀ (x2 : Int32) (x3 : Int32) (x6 : Int32) (x7 : Int32) (x8 : Int32) (x9 : Int32) (S : si_St) (o : Int32 × si_St), r152 x2 x3 x6 x7 x8 x9 S = some o → sd_le S o.2) (x2 : Int32) (x3 : Int32) (x6 : Int32) (x7 : Int32) (x8 : Int32) (x9 : Int32) (S : si_St) (o : Int32 × si_St) (h : f_L_law_h400 F L xs r13 r55 r152 x2 x3 x6 x7 x8 x9 S = some o) : sd_le S o.2 := by
  have g : sd_le S S := sd_le.rf
  unfold f_L_law_h400 at h
  exact g.tr (mo_L_law_h402 F L xs r13 r55 r152 hr13 hr55 hr152 _ _ _ _ _ _ _ _ h)
theorem mo_L_law_h380 (F : Nat) (L : Nat) (xs : Nat → Int32) (r13 : Int32 → Int32 → si_St → Option (Int32 × si_St)) (r55 : Int32 → Int32 → Int32 → si_St → Option (Int32 × si_St)) (r152 : Int32 → Int32 → Int32 → Int32 → Int32 → Int32 → si_St → Option (Int32 × si_St)) (hr13 : ∀ (x2 : Int32) (x3 : Int32) (S : si_St) (o : Int32 × si_St), r13 x2 x3 S = some o → sd_le S o.2) (hr55 : ∀ (x2 : Int32) (x3 : Int32) (x6 : Int32) (S : si_St) (o : Int32 × si_St), r55 x2 x3 x6 S = some o → sd_le S o.2) (hr152 : ∀ (x2 : Int32) (x3 : Int32) (x6 : Int32) (x7 : Int32) (x8 : Int32) (x9 : Int32) (S : si_St) (o : Int32 × si_St), r152 x2 x3 x6 x7 x8 x9 S = some o → sd_le S o.2) (x2 : Int32) (x3 : Int32) (x6 : Int32) (x7 : Int32) (x8 : Int32) (x9 : Int32) (x13 : Int32) (x14 : Int32) (t0 : Int32) (t1 : Int32) (S : si_St) (o : Int32 × si_St) (h : f_L_law_h380 F L xs r13 r55 r152 x2 x3 x6 x7 x8 x9 x13 x14 t0 t1 S = some o) : sd_le S o.2 := by
  have g : sd_le S S := sd_le.rf
  unfold f_L_law_h380 at h
  rcases Decidable.em (t1 = t0) with c380 | c380
  · have h := si_ip c380 h
    rcases Decidable.em (x14 = 0) with c387 | c387
    · have h := si_ip c387 h
      exact g.tr (mo_L_law_h400 F L xs r13 r55 r152 hr13 hr55 hr152 _ _ _ _ _ _ _ _ h)
    · have h := si_in c387 h
      rcases Decidable.em (x13 = 0) with c392 | c392
      · have h := si_ip c392 h
        exact g.tr (mo_L_law_h400 F L xs r13 r55 r152 hr13 hr55 hr152 _ _ _ _ _ _ _ _ h)
      · have h := si_in c392 h
        exact g.tr (mo_L_law_h402 F L xs r13 r55 r152 hr13 hr55 hr152 _ _ _ _ _ _ _ _ h)
  · have h := si_in c380 h
    obtain ⟨v10, ev10, h⟩ := si_ob h
    obtain rfl := Option.some.inj h
    exact g
theorem mo_L_law_h342 (F : Nat) (L : Nat) (xs : Nat → Int32) (r13 : Int32 → Int32 → si_St → Option (Int32 × si_St)) (r55 : Int32 → Int32 → Int32 → si_St → Option (Int32 × si_St)) (r152 : Int32 → Int32 → Int32 → Int32 → Int32 → Int32 → si_St → Option (Int32 × si_St)) (hr13 : ∀ (x2 : Int32) (x3 : Int32) (S : si_St) (o : Int32 × si_St), r13 x2 x3 S = some o → sd_le S o.2) (hr55 : ∀ (x2 : Int32) (x3 : Int32) (x6 : Int32) (S : si_St) (o : Int32 × si_St), r55 x2 x3 x6 S = some o → sd_le S o.2) (hr152 : ∀ (x2 : Int32) (x3 : Int32) (x6 : Int32) (x7 : Int32) (x8 : Int32) (x9 : Int32) (S : si_St) (o : Int32 × si_St), r152 x2 x3 x6 x7 x8 x9 S = some o → sd_le S o.2) (x2 : Int32) (x3 : Int32) (x6 : Int32) (x7 : Int32) (x8 : Int32) (x9 : Int32) (x10 : Int32) (x11 : Int32) (x12 : Int32) (x13 : Int32) (t0 : Int32) (S : si_St) (o : Int32 × si_St) (h : f_L_law_h342 F L xs r13 r55 r152 x2 x3 x6 x7 x8 x9 x10 x11 x12 x13 t0 S = some o) : sd_le S o.2 := by
  have g : sd_le S S := sd_le.rf
  unfold f_L_law_h342 at h
  obtain ⟨q11, eq11, h⟩ := si_ob h
  have g := g.tr (fr_X9_weigh F x6 x10 x11 x12 S q11 eq11).le
  rcases Decidable.em (t0 = 0) with c358 | c358
  · have h := si_ip c358 h
    exact g.tr (mo_L_law_h380 F L xs r13 r55 r152 hr13 hr55 hr152 _ _ _ _ _ _ _ _ _ _ _ _ h)
  · have h := si_in c358 h
    rcases Decidable.em (x13 = 0) with c367 | c367
    · have h := si_ip c367 h
      exact g.tr (mo_L_law_h380 F L xs r13 r55 r152 hr13 hr55 hr152 _ _ _ _ _ _ _ _ _ _ _ _ h)
    · have h := si_in c367 h
      obtain ⟨q12, eq12, h⟩ := si_ob h
      have g := g.tr (fr_J6_bitCount_0f7a4 F x13 q11.2 q12 eq12).le
      exact g.tr (mo_L_law_h380 F L xs r13 r55 r152 hr13 hr55 hr152 _ _ _ _ _ _ _ _ _ _ _ _ h)
theorem mo_L_law_h341 (F : Nat) (L : Nat) (xs : Nat → Int32) (r13 : Int32 → Int32 → si_St → Option (Int32 × si_St)) (r55 : Int32 → Int32 → Int32 → si_St → Option (Int32 × si_St)) (r152 : Int32 → Int32 → Int32 → Int32 → Int32 → Int32 → si_St → Option (Int32 × si_St)) (hr13 : ∀ (x2 : Int32) (x3 : Int32) (S : si_St) (o : Int32 × si_St), r13 x2 x3 S = some o → sd_le S o.2) (hr55 : ∀ (x2 : Int32) (x3 : Int32) (x6 : Int32) (S : si_St) (o : Int32 × si_St), r55 x2 x3 x6 S = some o → sd_le S o.2) (hr152 : ∀ (x2 : Int32) (x3 : Int32) (x6 : Int32) (x7 : Int32) (x8 : Int32) (x9 : Int32) (S : si_St) (o : Int32 × si_St), r152 x2 x3 x6 x7 x8 x9 S = some o → sd_le S o.2) (x2 : Int32) (x3 : Int32) (x6 : Int32) (x7 : Int32) (x8 : Int32) (x9 : Int32) (x10 : Int32) (x11 : Int32) (x12 : Int32) (x13 : Int32) (S : si_St) (o : Int32 × si_St) (h : f_L_law_h341 F L xs r13 r55 r152 x2 x3 x6 x7 x8 x9 x10 x11 x12 x13 S = some o) : sd_le S o.2 := by
  have g : sd_le S S := sd_le.rf
  unfold f_L_law_h341 at h
  exact g.tr (mo_L_law_h342 F L xs r13 r55 r152 hr13 hr55 hr152 _ _ _ _ _ _ _ _ _ _ _ _ _ h)
theorem mo_L_law_h310 (F : Nat) (L : Nat) (xs : Nat → Int32) (r13 : Int32 → Int32 → si_St → Option (Int32 × si_St)) (r55 : Int32 → Int32 → Int32 → si_St → Option (Int32 × si_St)) (r152 : Int32 → Int32 → Int32 → Int32 → Int32 → Int32 → si_St → Option (Int32 × si_St)) (r256 : Int32 → Int32 → Int32 → Int32 → Int32 → Int32 → Int32 → Int32 → Int32 → Int32 → Int32 → si_St → Option (Int32 × si_St)) (hr13 : ∀ (x2 : Int32) (x3 : Int32) (S : si_St) (o : Int32 × si_St), r13 x2 x3 S = some o → sd_le S o.2) (hr55 : ∀ (x2 : Int32) (x3 : Int32) (x6 : Int32) (S : si_St) (o : Int32 × si_St), r55 x2 x3 x6 S = some o → sd_le S o.2) (hr152 : ∀ (x2 : Int32) (x3 : Int32) (x6 : Int32) (x7 : Int32) (x8 : Int32) (x9 : Int32) (S : si_St) (o : Int32 × si_St), r152 x2 x3 x6 x7 x8 x9 S = some o → sd_le S o.2) (hr256 : ∀ (x2 : Int32) (x3 : Int32) (x6 : Int32) (x7 : Int32) (x8 : Int32) (x9 : Int32) (x10 : Int32) (x11 : Int32) (x12 : Int32) (x13 : Int32) (x14 : Int32) (S : si_St) (o : Int32 × si_St), r256 x2 x3 x6 x7 x8 x9 x10 x11 x12 x13 x14 S = some o → sd_le S o.2) (x2 : Int32) (x3 : Int32) (x6 : Int32) (x7 : Int32) (x8 : Int32) (x9 : Int32) (x10 : Int32) (x11 : Int32) (x12 : Int32) (x14 : Int32) (t0 : Int32) (t1 : Int32) (S : si_St) (o : Int32 × si_St) (h : f_L_law_h310 F L xs r13 r55 r152 r256 x2 x3 x6 x7 x8 x9 x10 x11 x12 x14 t0 t1 S = some o) : sd_le S o.2 := by
  have g : sd_le S S := sd_le.rf
  unfold f_L_law_h310 at h
  obtain ⟨v13, ev13, h⟩ := si_ob h
  obtain ⟨v14, ev14, h⟩ := si_ob h
  exact g.tr (hr256 _ _ _ _ _ _ _ _ _ _ _ _ _ h)
theorem mo_L_law_h309 (F : Nat) (L : Nat) (xs : Nat → Int32) (r13 : Int32 → Int32 → si_St → Option (Int32 × si_St)) (r55 : Int32 → Int32 → Int32 → si_St → Option (Int32 × si_St)) (r152 : Int32 → Int32 → Int32 → Int32 → Int32 → Int32 → si_St → Option (Int32 × si_St)) (r256 : Int32 → Int32 → Int32 → Int32 → Int32 → Int32 → Int32 → Int32 → Int32 → Int32 → Int32 → si_St → Option (Int32 × si_St)) (hr13 : ∀ (x2 : Int32) (x3 : Int32) (S : si_St) (o : Int32 × si_St), r13 x2 x3 S = some o → sd_le S o.2) (hr55 : ∀ (x2 : Int32) (x3 : Int32) (x6 : Int32) (S : si_St) (o : Int32 × si_St), r55 x2 x3 x6 S = some o → sd_le S o.2) (hr152 : ∀ (x2 : Int32) (x3 : Int32) (x6 : Int32) (x7 : Int32) (x8 : Int32) (x9 : Int32) (S : si_St) (o : Int32 × si_St), r152 x2 x3 x6 x7 x8 x9 S = some o → sd_le S o.2) (hr256 : ∀ (x2 : Int32) (x3 : Int32) (x6 : Int32) (x7 : Int32) (x8 : Int32) (x9 : Int32) (x10 : Int32) (x11 : Int32) (x12 : Int32) (x13 : Int32) (x14 : Int32) (S : si_St) (o : Int32 × si_St), r256 x2 x3 x6 x7 x8 x9 x10 x11 x12 x13 x14 S = some o → sd_le S o.2) (x2 : Int32) (x3 : Int32) (x6 : Int32) (x7 : Int32) (x8 : Int32) (x9 : Int32) (x10 : Int32) (x11 : Int32) (x12 : Int32) (x14 : Int32) (t0 : Int32) (S : si_St) (o : Int32 × si_St) (h : f_L_law_h309 F L xs r13 r55 r152 r256 x2 x3 x6 x7 x8 x9 x10 x11 x12 x14 t0 S = some o) : sd_le S o.2 := by
  have g : sd_le S S := sd_le.rf
  unfold f_L_law_h309 at h
  exact g.tr (mo_L_law_h310 F L xs r13 r55 r152 r256 hr13 hr55 hr152 hr256 _ _ _ _ _ _ _ _ _ _ _ _ _ _ h)
theorem mo_L_law_h256 (F : Nat) (L : Nat) (xs : Nat → Int32) (r13 : Int32 → Int32 → si_St → Option (Int32 × si_St)) (r55 : Int32 → Int32 → Int32 → si_St → Option (Int32 × si_St)) (r152 : Int32 → Int32 → Int32 → Int32 → Int32 → Int32 → si_St → Option (Int32 × si_St)) (r256 : Int32 → Int32 → Int32 → Int32 → Int32 → Int32 → Int32 → Int32 → Int32 → Int32 → Int32 → si_St → Option (Int32 × si_St)) (hr13 : ∀ (x2 : Int32) (x3 : Int32) (S : si_St) (o : Int32 × si_St), r13 x2 x3 S = some o → sd_le S o.2) (hr55 : ∀ (x2 : Int32) (x3 : Int32) (x6 : Int32) (S : si_St) (o : Int32 × si_St), r55 x2 x3 x6 S = some o → sd_le S o.2) (hr152 : ∀ (x2 : Int32) (x3 : Int32) (x6 : Int32) (x7 : Int32) (x8 : Int32) (x9 : Int32) (S : si_St) (o : Int32 × si_St), r152 x2 x3 x6 x7 x8 x9 S = some o → sd_le S o.2) (hr256 : ∀ (x2 : Int32) (x3 : Int32) (x6 : Int32) (x7 : Int32) (x8 : Int32) (x9 : Int32) (x10 : Int32) (x11 : Int32) (x12 : Int32) (x13 : Int32) (x14 : Int32) (S : si_St) (o : Int32 × si_St), r256 x2 x3 x6 x7 x8 x9 x10 x11 x12 x13 x14 S = some o → sd_le S o.2) (x2 : Int32) (x3 : Int32) (x6 : Int32) (x7 : Int32) (x8 : Int32) (x9 : Int32) (x10 : Int32) (x11 : Int32) (x12 : Int32) (x13 : Int32) (x14 : Int32) (S : si_St) (o : Int32 × si_St) (h : f_L_law_h256 F L xs r13 r55 r152 r256 x2 x3 x6 x7 x8 x9 x10 x11 x12 x13 x14 S = some o) : sd_le S o.2 := by
  have g : sd_le S S := sd_le.rf
  unfold f_L_law_h256 at h
  have hgr262 : sd_ok S 92 ∧ S.1 92 3 ≠ 0 := Decidable.byContradiction fun h9 => by rw [if_pos h9] at h; cases h
  have h := si_in (not_not_intro hgr262) h
  obtain ⟨v15, ev15, h⟩ := si_ob h
  rcases Decidable.em ((1 + (2 * v15)) ≤ x14) with c272 | c272
  · have h := si_ip c272 h
    rcases Decidable.em (x10 = 0) with c321 | c321
    · have h := si_ip c321 h
      exact g.tr (mo_L_law_h341 F L xs r13 r55 r152 hr13 hr55 hr152 _ _ _ _ _ _ _ _ _ _ _ _ h)
    · have h := si_in c321 h
      obtain ⟨q16, eq16, h⟩ := si_ob h
      have g := g.tr (fr_J6_bitCount_0f7a4 F x10 S q16 eq16).le
      obtain ⟨q17, eq17, h⟩ := si_ob h
      have g := g.tr (fr_J6_bitCount_0f7a4 F x11 q16.2 q17 eq17).le
      rcases Decidable.em (q16.1 = q17.1) with c334 | c334
      · have h := si_ip c334 h
        exact g.tr (mo_L_law_h342 F L xs r13 r55 r152 hr13 hr55 hr152 _ _ _ _ _ _ _ _ _ _ _ _ _ h)
      · have h := si_in c334 h
        exact g.tr (mo_L_law_h341 F L xs r13 r55 r152 hr13 hr55 hr152 _ _ _ _ _ _ _ _ _ _ _ _ h)
  · have h := si_in c272 h
    rcases Decidable.em (((x8 >>> (x14 &&& 31)) &&& 1) = 1) with c285 | c285
    · have h := si_ip c285 h
      obtain ⟨q18, eq18, h⟩ := si_ob h
      have g := g.tr (fr_L_result F x14 x10 x11 S q18 eq18).le
      rcases Decidable.em (q18.1 = x12) with c299 | c299
      · have h := si_ip c299 h
        exact g.tr (mo_L_law_h310 F L xs r13 r55 r152 r256 hr13 hr55 hr152 hr256 _ _ _ _ _ _ _ _ _ _ _ _ _ _ h)
      · have h := si_in c299 h
        exact g.tr (mo_L_law_h309 F L xs r13 r55 r152 r256 hr13 hr55 hr152 hr256 _ _ _ _ _ _ _ _ _ _ _ _ _ h)
    · have h := si_in c285 h
      exact g.tr (mo_L_law_h309 F L xs r13 r55 r152 r256 hr13 hr55 hr152 hr256 _ _ _ _ _ _ _ _ _ _ _ _ _ h)
theorem mo_L_law_l256 (F : Nat) (L : Nat) (xs : Nat → Int32) (r13 : Int32 → Int32 → si_St → Option (Int32 × si_St)) (r55 : Int32 → Int32 → Int32 → si_St → Option (Int32 × si_St)) (r152 : Int32 → Int32 → Int32 → Int32 → Int32 → Int32 → si_St → Option (Int32 × si_St)) (hr13 : ∀ (x2 : Int32) (x3 : Int32) (S : si_St) (o : Int32 × si_St), r13 x2 x3 S = some o → sd_le S o.2) (hr55 : ∀ (x2 : Int32) (x3 : Int32) (x6 : Int32) (S : si_St) (o : Int32 × si_St), r55 x2 x3 x6 S = some o → sd_le S o.2) (hr152 : ∀ (x2 : Int32) (x3 : Int32) (x6 : Int32) (x7 : Int32) (x8 : Int32) (x9 : Int32) (S : si_St) (o : Int32 × si_St), r152 x2 x3 x6 x7 x8 x9 S = some o → sd_le S o.2) : ∀ (n : Nat) (x2 : Int32) (x3 : Int32) (x6 : Int32) (x7 : Int32) (x8 : Int32) (x9 : Int32) (x10 : Int32) (x11 : Int32) (x12 : Int32) (x13 : Int32) (x14 : Int32) (S : si_St) (o : Int32 × si_St), f_L_law_l256 F L xs r13 r55 r152 n x2 x3 x6 x7 x8 x9 x10 x11 x12 x13 x14 S = some o → sd_le S o.2 := by
  intro n
  induction n with
  | zero => intro x2 x3 x6 x7 x8 x9 x10 x11 x12 x13 x14 S o h; cases h
  | succ n ih =>
    intro x2 x3 x6 x7 x8 x9 x10 x11 x12 x13 x14 S o h
    exact mo_L_law_h256 F L xs r13 r55 r152 (f_L_law_l256 F L xs r13 r55 r152 n) hr13 hr55 hr152 ih x2 x3 x6 x7 x8 x9 x10 x11 x12 x13 x14 S o h
theorem mo_L_law_h248 (F : Nat) (L : Nat) (xs : Nat → Int32) (r13 : Int32 → Int32 → si_St → Option (Int32 × si_St)) (r55 : Int32 → Int32 → Int32 → si_St → Option (Int32 × si_St)) (r152 : Int32 → Int32 → Int32 → Int32 → Int32 → Int32 → si_St → Option (Int32 × si_St)) (hr13 : ∀ (x2 : Int32) (x3 : Int32) (S : si_St) (o : Int32 × si_St), r13 x2 x3 S = some o → sd_le S o.2) (hr55 : ∀ (x2 : Int32) (x3 : Int32) (x6 : Int32) (S : si_St) (o : Int32 × si_St), r55 x2 x3 x6 S = some o → sd_le S o.2) (hr152 : ∀ (x2 : Int32) (x3 : Int32) (x6 : Int32) (x7 : Int32) (x8 : Int32) (x9 : Int32) (S : si_St) (o : Int32 × si_St), r152 x2 x3 x6 x7 x8 x9 S = some o → sd_le S o.2) (x2 : Int32) (x3 : Int32) (x6 : Int32) (x7 : Int32) (x8 : Int32) (x9 : Int32) (x10 : Int32) (x11 : Int32) (t0 : Int32) (S : si_St) (o : Int32 × si_St) (h : f_L_law_h248 F L xs r13 r55 r152 x2 x3 x6 x7 x8 x9 x10 x11 t0 S = some o) : sd_le S o.2 := by
  have g : sd_le S S := sd_le.rf
  unfold f_L_law_h248 at h
  exact g.tr (mo_L_law_l256 F L xs r13 r55 r152 hr13 hr55 hr152 F _ _ _ _ _ _ _ _ _ _ _ _ _ h)
theorem mo_L_law_h235 (F : Nat) (L : Nat) (xs : Nat → Int32) (r13 : Int32 → Int32 → si_St → Option (Int32 × si_St)) (r55 : Int32 → Int32 → Int32 → si_St → Option (Int32 × si_St)) (r152 : Int32 → Int32 → Int32 → Int32 → Int32 → Int32 → si_St → Option (Int32 × si_St)) (hr13 : ∀ (x2 : Int32) (x3 : Int32) (S : si_St) (o : Int32 × si_St), r13 x2 x3 S = some o → sd_le S o.2) (hr55 : ∀ (x2 : Int32) (x3 : Int32) (x6 : Int32) (S : si_St) (o : Int32 × si_St), r55 x2 x3 x6 S = some o → sd_le S o.2) (hr152 : ∀ (x2 : Int32) (x3 : Int32) (x6 : Int32) (x7 : Int32) (x8 : Int32) (x9 : Int32) (S : si_St) (o : Int32 × si_St), r152 x2 x3 x6 x7 x8 x9 S = some o → sd_le S o.2) (x2 : Int32) (x3 : Int32) (x6 : Int32) (x7 : Int32) (x8 : Int32) (x9 : Int32) (x10 : Int32) (t0 : Int32) (S : si_St) (o : Int32 × si_St) (h : f_L_law_h235 F L xs r13 r55 r152 x2 x3 x6 x7 x8 x9 x10 t0 S = some o) : sd_le S o.2 := by
  have g : sd_le S S := sd_le.rf
  unfold f_L_law_h235 at h
  obtain ⟨v19, ev19, h⟩ := si_ob h
  obtain ⟨q20, eq20, h⟩ := si_ob h
  have g := g.tr (mo_L_draw F 98 rfl 3 S q20 eq20)
  exact g.tr (mo_L_law_h248 F L xs r13 r55 r152 hr13 hr55 hr152 _ _ _ _ _ _ _ _ _ _ _ h)
theorem mo_L_law_h216 (F : Nat) (L : Nat) (xs : Nat → Int32) (r13 : Int32 → Int32 → si_St → Option (Int32 × si_St)) (r55 : Int32 → Int32 → Int32 → si_St → Option (Int32 × si_St)) (r152 : Int32 → Int32 → Int32 → Int32 → Int32 → Int32 → si_St → Option (Int32 × si_St)) (hr13 : ∀ (x2 : Int32) (x3 : Int32) (S : si_St) (o : Int32 × si_St), r13 x2 x3 S = some o → sd_le S o.2) (hr55 : ∀ (x2 : Int32) (x3 : Int32) (x6 : Int32) (S : si_St) (o : Int32 × si_St), r55 x2 x3 x6 S = some o → sd_le S o.2) (hr152 : ∀ (x2 : Int32) (x3 : Int32) (x6 : Int32) (x7 : Int32) (x8 : Int32) (x9 : Int32) (S : si_St) (o : Int32 × si_St), r152 x2 x3 x6 x7 x8 x9 S = some o → sd_le S o.2) (x2 : Int32) (x3 : Int32) (x6 : Int32) (x7 : Int32) (x8 : Int32) (x9 : Int32) (t0 : Int32) (S : si_St) (o : Int32 × si_St) (h : f_L_law_h216 F L xs r13 r55 r152 x2 x3 x6 x7 x8 x9 t0 S = some o) : sd_le S o.2 := by
  have g : sd_le S S := sd_le.rf
  unfold f_L_law_h216 at h
  have hgr223 : sd_ok S 92 ∧ S.1 92 3 ≠ 0 := Decidable.byContradiction fun h9 => by rw [if_pos h9] at h; cases h
  have h := si_in (not_not_intro hgr223) h
  obtain ⟨v21, ev21, h⟩ := si_ob h
  obtain ⟨q22, eq22, h⟩ := si_ob h
  have g := g.tr (mo_L_draw F 98 rfl (1 <<< (v21 &&& 31)) S q22 eq22)
  exact g.tr (mo_L_law_h235 F L xs r13 r55 r152 hr13 hr55 hr152 _ _ _ _ _ _ _ _ _ _ h)
theorem mo_L_law_h199 (F : Nat) (L : Nat) (xs : Nat → Int32) (r13 : Int32 → Int32 → si_St → Option (Int32 × si_St)) (r55 : Int32 → Int32 → Int32 → si_St → Option (Int32 × si_St)) (r152 : Int32 → Int32 → Int32 → Int32 → Int32 → Int32 → si_St → Option (Int32 × si_St)) (hr13 : ∀ (x2 : Int32) (x3 : Int32) (S : si_St) (o : Int32 × si_St), r13 x2 x3 S = some o → sd_le S o.2) (hr55 : ∀ (x2 : Int32) (x3 : Int32) (x6 : Int32) (S : si_St) (o : Int32 × si_St), r55 x2 x3 x6 S = some o → sd_le S o.2) (hr152 : ∀ (x2 : Int32) (x3 : Int32) (x6 : Int32) (x7 : Int32) (x8 : Int32) (x9 : Int32) (S : si_St) (o : Int32 × si_St), r152 x2 x3 x6 x7 x8 x9 S = some o → sd_le S o.2) (x2 : Int32) (x3 : Int32) (x6 : Int32) (x7 : Int32) (x8 : Int32) (x9 : Int32) (S : si_St) (o : Int32 × si_St) (h : f_L_law_h199 F L xs r13 r55 r152 x2 x3 x6 x7 x8 x9 S = some o) : sd_le S o.2 := by
  have g : sd_le S S := sd_le.rf
  unfold f_L_law_h199 at h
  have hgr204 : sd_ok S 92 ∧ S.1 92 3 ≠ 0 := Decidable.byContradiction fun h9 => by rw [if_pos h9] at h; cases h
  have h := si_in (not_not_intro hgr204) h
  obtain ⟨v23, ev23, h⟩ := si_ob h
  obtain ⟨q24, eq24, h⟩ := si_ob h
  have g := g.tr (mo_L_draw F 98 rfl (1 <<< (v23 &&& 31)) S q24 eq24)
  exact g.tr (mo_L_law_h216 F L xs r13 r55 r152 hr13 hr55 hr152 _ _ _ _ _ _ _ _ _ h)
theorem mo_L_law_h194 (F : Nat) (L : Nat) (xs : Nat → Int32) (r13 : Int32 → Int32 → si_St → Option (Int32 × si_St)) (r55 : Int32 → Int32 → Int32 → si_St → Option (Int32 × si_St)) (r152 : Int32 → Int32 → Int32 → Int32 → Int32 → Int32 → si_St → Option (Int32 × si_St)) (hr13 : ∀ (x2 : Int32) (x3 : Int32) (S : si_St) (o : Int32 × si_St), r13 x2 x3 S = some o → sd_le S o.2) (hr55 : ∀ (x2 : Int32) (x3 : Int32) (x6 : Int32) (S : si_St) (o : Int32 × si_St), r55 x2 x3 x6 S = some o → sd_le S o.2) (hr152 : ∀ (x2 : Int32) (x3 : Int32) (x6 : Int32) (x7 : Int32) (x8 : Int32) (x9 : Int32) (S : si_St) (o : Int32 × si_St), r152 x2 x3 x6 x7 x8 x9 S = some o → sd_le S o.2) (x2 : Int32) (x3 : Int32) (x6 : Int32) (x7 : Int32) (x8 : Int32) (x9 : Int32) (t0 : Int32) (S : si_St) (o : Int32 × si_St) (h : f_L_law_h194 F L xs r13 r55 r152 x2 x3 x6 x7 x8 x9 t0 S = some o) : sd_le S o.2 := by
  have g : sd_le S S := sd_le.rf
  unfold f_L_law_h194 at h
  rcases Decidable.em (t0 = 0) with c194 | c194
  · have h := si_ip c194 h
    exact g.tr (mo_L_law_h197 F L xs _ _ h)
  · have h := si_in c194 h
    exact g.tr (mo_L_law_h199 F L xs r13 r55 r152 hr13 hr55 hr152 _ _ _ _ _ _ _ _ h)
theorem mo_L_law_h152 (F : Nat) (L : Nat) (xs : Nat → Int32) (r13 : Int32 → Int32 → si_St → Option (Int32 × si_St)) (r55 : Int32 → Int32 → Int32 → si_St → Option (Int32 × si_St)) (r152 : Int32 → Int32 → Int32 → Int32 → Int32 → Int32 → si_St → Option (Int32 × si_St)) (hr13 : ∀ (x2 : Int32) (x3 : Int32) (S : si_St) (o : Int32 × si_St), r13 x2 x3 S = some o → sd_le S o.2) (hr55 : ∀ (x2 : Int32) (x3 : Int32) (x6 : Int32) (S : si_St) (o : Int32 × si_St), r55 x2 x3 x6 S = some o → sd_le S o.2) (hr152 : ∀ (x2 : Int32) (x3 : Int32) (x6 : Int32) (x7 : Int32) (x8 : Int32) (x9 : Int32) (S : si_St) (o : Int32 × si_St), r152 x2 x3 x6 x7 x8 x9 S = some o → sd_le S o.2) (x2 : Int32) (x3 : Int32) (x6 : Int32) (x7 : Int32) (x8 : Int32) (x9 : Int32) (S : si_St) (o : Int32 × si_St) (h : f_L_law_h152 F L xs r13 r55 r152 x2 x3 x6 x7 x8 x9 S = some o) : sd_le S o.2 := by
  have g : sd_le S S := sd_le.rf
  unfold f_L_law_h152 at h
  rcases Decidable.em (5 ≤ x9) with c155 | c155
  · have h := si_ip c155 h
    obtain ⟨v25, ev25, h⟩ := si_ob h
    exact g.tr (hr55 _ _ _ _ _ h)
  · have h := si_in c155 h
    have hgr163 : sd_ok S 92 ∧ S.1 92 3 ≠ 0 := Decidable.byContradiction fun h9 => by rw [if_pos h9] at h; cases h
    have h := si_in (not_not_intro hgr163) h
    obtain ⟨v26, ev26, h⟩ := si_ob h
    obtain ⟨q27, eq27, h⟩ := si_ob h
    have g := g.tr (fr_L_said F x6 v26 x8 S q27 eq27).le
    rcases Decidable.em (q27.1 = 0) with c176 | c176
    · have h := si_ip c176 h
      exact g.tr (mo_L_law_h197 F L xs _ _ h)
    · have h := si_in c176 h
      rcases Decidable.em (x7 ≤ 0) with c181 | c181
      · have h := si_ip c181 h
        exact g.tr (mo_L_law_h199 F L xs r13 r55 r152 hr13 hr55 hr152 _ _ _ _ _ _ _ _ h)
      · have h := si_in c181 h
        obtain ⟨q28, eq28, h⟩ := si_ob h
        have g := g.tr (mo_L_needed F x6 x7 x8 q27.2 q28 eq28)
        exact g.tr (mo_L_law_h194 F L xs r13 r55 r152 hr13 hr55 hr152 _ _ _ _ _ _ _ _ _ h)
theorem mo_L_law_l152 (F : Nat) (L : Nat) (xs : Nat → Int32) (r13 : Int32 → Int32 → si_St → Option (Int32 × si_St)) (r55 : Int32 → Int32 → Int32 → si_St → Option (Int32 × si_St)) (hr13 : ∀ (x2 : Int32) (x3 : Int32) (S : si_St) (o : Int32 × si_St), r13 x2 x3 S = some o → sd_le S o.2) (hr55 : ∀ (x2 : Int32) (x3 : Int32) (x6 : Int32) (S : si_St) (o : Int32 × si_St), r55 x2 x3 x6 S = some o → sd_le S o.2) : ∀ (n : Nat) (x2 : Int32) (x3 : Int32) (x6 : Int32) (x7 : Int32) (x8 : Int32) (x9 : Int32) (S : si_St) (o : Int32 × si_St), f_L_law_l152 F L xs r13 r55 n x2 x3 x6 x7 x8 x9 S = some o → sd_le S o.2 := by
  intro n
  induction n with
  | zero => intro x2 x3 x6 x7 x8 x9 S o h; cases h
  | succ n ih =>
    intro x2 x3 x6 x7 x8 x9 S o h
    exact mo_L_law_h152 F L xs r13 r55 (f_L_law_l152 F L xs r13 r55 n) hr13 hr55 ih x2 x3 x6 x7 x8 x9 S o h
theorem mo_L_law_h115 (F : Nat) (L : Nat) (xs : Nat → Int32) (r13 : Int32 → Int32 → si_St → Option (Int32 × si_St)) (r55 : Int32 → Int32 → Int32 → si_St → Option (Int32 × si_St)) (r115 : Int32 → Int32 → Int32 → Int32 → Int32 → Int32 → si_St → Option (Int32 × si_St)) (hr13 : ∀ (x2 : Int32) (x3 : Int32) (S : si_St) (o : Int32 × si_St), r13 x2 x3 S = some o → sd_le S o.2) (hr55 : ∀ (x2 : Int32) (x3 : Int32) (x6 : Int32) (S : si_St) (o : Int32 × si_St), r55 x2 x3 x6 S = some o → sd_le S o.2) (hr115 : ∀ (x2 : Int32) (x3 : Int32) (x6 : Int32) (x7 : Int32) (x8 : Int32) (x9 : Int32) (S : si_St) (o : Int32 × si_St), r115 x2 x3 x6 x7 x8 x9 S = some o → sd_le S o.2) (x2 : Int32) (x3 : Int32) (x6 : Int32) (x7 : Int32) (x8 : Int32) (x9 : Int32) (S : si_St) (o : Int32 × si_St) (h : f_L_law_h115 F L xs r13 r55 r115 x2 x3 x6 x7 x8 x9 S = some o) : sd_le S o.2 := by
  have g : sd_le S S := sd_le.rf
  unfold f_L_law_h115 at h
  have hgr121 : sd_ok S 92 ∧ S.1 92 3 ≠ 0 := Decidable.byContradiction fun h9 => by rw [if_pos h9] at h; cases h
  have h := si_in (not_not_intro hgr121) h
  obtain ⟨v29, ev29, h⟩ := si_ob h
  rcases Decidable.em ((1 + (2 * v29)) ≤ x9) with c131 | c131
  · have h := si_ip c131 h
    exact g.tr (mo_L_law_l152 F L xs r13 r55 hr13 hr55 F _ _ _ _ _ _ _ _ h)
  · have h := si_in c131 h
    obtain ⟨v30, ev30, h⟩ := si_ob h
    obtain ⟨v31, ev31, h⟩ := si_ob h
    exact g.tr (hr115 _ _ _ _ _ _ _ _ h)
theorem mo_L_law_l115 (F : Nat) (L : Nat) (xs : Nat → Int32) (r13 : Int32 → Int32 → si_St → Option (Int32 × si_St)) (r55 : Int32 → Int32 → Int32 → si_St → Option (Int32 × si_St)) (hr13 : ∀ (x2 : Int32) (x3 : Int32) (S : si_St) (o : Int32 × si_St), r13 x2 x3 S = some o → sd_le S o.2) (hr55 : ∀ (x2 : Int32) (x3 : Int32) (x6 : Int32) (S : si_St) (o : Int32 × si_St), r55 x2 x3 x6 S = some o → sd_le S o.2) : ∀ (n : Nat) (x2 : Int32) (x3 : Int32) (x6 : Int32) (x7 : Int32) (x8 : Int32) (x9 : Int32) (S : si_St) (o : Int32 × si_St), f_L_law_l115 F L xs r13 r55 n x2 x3 x6 x7 x8 x9 S = some o → sd_le S o.2 := by
  intro n
  induction n with
  | zero => intro x2 x3 x6 x7 x8 x9 S o h; cases h
  | succ n ih =>
    intro x2 x3 x6 x7 x8 x9 S o h
    exact mo_L_law_h115 F L xs r13 r55 (f_L_law_l115 F L xs r13 r55 n) hr13 hr55 ih x2 x3 x6 x7 x8 x9 S o h
theorem mo_L_law_h113 (F : Nat) (L : Nat) (xs : Nat → Int32) (r13 : Int32 → Int32 → si_St → Option (Int32 × si_St)) (r55 : Int32 → Int32 → Int32 → si_St → Option (Int32 × si_St)) (hr13 : ∀ (x2 : Int32) (x3 : Int32) (S : si_St) (o : Int32 × si_St), r13 x2 x3 S = some o → sd_le S o.2) (hr55 : ∀ (x2 : Int32) (x3 : Int32) (x6 : Int32) (S : si_St) (o : Int32 × si_St), r55 x2 x3 x6 S = some o → sd_le S o.2) (x2 : Int32) (x3 : Int32) (x6 : Int32) (x7 : Int32) (x8 : Int32) (t0 : Int32) (S : si_St) (o : Int32 × si_St) (h : f_L_law_h113 F L xs r13 r55 x2 x3 x6 x7 x8 t0 S = some o) : sd_le S o.2 := by
  have g : sd_le S S := sd_le.rf
  unfold f_L_law_h113 at h
  exact g.tr (mo_L_law_l115 F L xs r13 r55 hr13 hr55 F _ _ _ _ _ _ _ _ h)
theorem mo_L_law_h89 (F : Nat) (L : Nat) (xs : Nat → Int32) (r13 : Int32 → Int32 → si_St → Option (Int32 × si_St)) (r55 : Int32 → Int32 → Int32 → si_St → Option (Int32 × si_St)) (hr13 : ∀ (x2 : Int32) (x3 : Int32) (S : si_St) (o : Int32 × si_St), r13 x2 x3 S = some o → sd_le S o.2) (hr55 : ∀ (x2 : Int32) (x3 : Int32) (x6 : Int32) (S : si_St) (o : Int32 × si_St), r55 x2 x3 x6 S = some o → sd_le S o.2) (x2 : Int32) (x3 : Int32) (x6 : Int32) (x7 : Int32) (S : si_St) (o : Int32 × si_St) (h : f_L_law_h89 F L xs r13 r55 x2 x3 x6 x7 S = some o) : sd_le S o.2 := by
  have g : sd_le S S := sd_le.rf
  unfold f_L_law_h89 at h
  have hgr94 : sd_ok S 92 ∧ S.1 92 3 ≠ 0 := Decidable.byContradiction fun h9 => by rw [if_pos h9] at h; cases h
  have h := si_in (not_not_intro hgr94) h
  obtain ⟨v32, ev32, h⟩ := si_ob h
  rcases Decidable.em (v32 = 1) with c105 | c105
  · have h := si_ip c105 h
    exact g.tr (mo_L_law_h113 F L xs r13 r55 hr13 hr55 _ _ _ _ _ _ _ _ h)
  · have h := si_in c105 h
    exact g.tr (mo_L_law_h113 F L xs r13 r55 hr13 hr55 _ _ _ _ _ _ _ _ h)
theorem mo_L_law_h55 (F : Nat) (L : Nat) (xs : Nat → Int32) (r13 : Int32 → Int32 → si_St → Option (Int32 × si_St)) (r55 : Int32 → Int32 → Int32 → si_St → Option (Int32 × si_St)) (hr13 : ∀ (x2 : Int32) (x3 : Int32) (S : si_St) (o : Int32 × si_St), r13 x2 x3 S = some o → sd_le S o.2) (hr55 : ∀ (x2 : Int32) (x3 : Int32) (x6 : Int32) (S : si_St) (o : Int32 × si_St), r55 x2 x3 x6 S = some o → sd_le S o.2) (x2 : Int32) (x3 : Int32) (x6 : Int32) (S : si_St) (o : Int32 × si_St) (h : f_L_law_h55 F L xs r13 r55 x2 x3 x6 S = some o) : sd_le S o.2 := by
  have g : sd_le S S := sd_le.rf
  unfold f_L_law_h55 at h
  have hgr59 : sd_ok S 92 ∧ S.1 92 3 ≠ 0 := Decidable.byContradiction fun h9 => by rw [if_pos h9] at h; cases h
  have h := si_in (not_not_intro hgr59) h
  obtain ⟨v33, ev33, h⟩ := si_ob h
  rcases Decidable.em ((v33 / 2) ≤ x6) with c65 | c65
  · have h := si_ip c65 h
    obtain ⟨v34, ev34, h⟩ := si_ob h
    exact g.tr (hr13 _ _ _ _ h)
  · have h := si_in c65 h
    have hgr70 : sd_ok S 92 ∧ S.1 92 3 ≠ 0 := Decidable.byContradiction fun h9 => by rw [if_pos h9] at h; cases h
    have h := si_in (not_not_intro hgr70) h
    obtain ⟨v35, ev35, h⟩ := si_ob h
    rcases Decidable.em (v35 ≤ 5) with c83 | c83
    · have h := si_ip c83 h
      exact g.tr (mo_L_law_h89 F L xs r13 r55 hr13 hr55 _ _ _ _ _ _ h)
    · have h := si_in c83 h
      exact g.tr (mo_L_law_h89 F L xs r13 r55 hr13 hr55 _ _ _ _ _ _ h)
theorem mo_L_law_l55 (F : Nat) (L : Nat) (xs : Nat → Int32) (r13 : Int32 → Int32 → si_St → Option (Int32 × si_St)) (hr13 : ∀ (x2 : Int32) (x3 : Int32) (S : si_St) (o : Int32 × si_St), r13 x2 x3 S = some o → sd_le S o.2) : ∀ (n : Nat) (x2 : Int32) (x3 : Int32) (x6 : Int32) (S : si_St) (o : Int32 × si_St), f_L_law_l55 F L xs r13 n x2 x3 x6 S = some o → sd_le S o.2 := by
  intro n
  induction n with
  | zero => intro x2 x3 x6 S o h; cases h
  | succ n ih =>
    intro x2 x3 x6 S o h
    exact mo_L_law_h55 F L xs r13 (f_L_law_l55 F L xs r13 n) hr13 ih x2 x3 x6 S o h
theorem mo_L_law_h42 (F : Nat) (L : Nat) (xs : Nat → Int32) (r13 : Int32 → Int32 → si_St → Option (Int32 × si_St)) (hr13 : ∀ (x2 : Int32) (x3 : Int32) (S : si_St) (o : Int32 × si_St), r13 x2 x3 S = some o → sd_le S o.2) (x2 : Int32) (x3 : Int32) (S : si_St) (o : Int32 × si_St) (h : f_L_law_h42 F L xs r13 x2 x3 S = some o) : sd_le S o.2 := by
  have g : sd_le S S := sd_le.rf
  unfold f_L_law_h42 at h
  obtain ⟨v36, ev36, h⟩ := si_ob h
  obtain ⟨S37, eS37, h⟩ := si_ob h
  have g := g.tr (sd_wr_m eS37)
  exact g.tr (mo_L_law_l55 F L xs r13 hr13 F _ _ _ _ _ h)
theorem mo_L_law_h30 (F : Nat) (L : Nat) (xs : Nat → Int32) (r13 : Int32 → Int32 → si_St → Option (Int32 × si_St)) (hr13 : ∀ (x2 : Int32) (x3 : Int32) (S : si_St) (o : Int32 × si_St), r13 x2 x3 S = some o → sd_le S o.2) (x2 : Int32) (x3 : Int32) (S : si_St) (o : Int32 × si_St) (h : f_L_law_h30 F L xs r13 x2 x3 S = some o) : sd_le S o.2 := by
  have g : sd_le S S := sd_le.rf
  unfold f_L_law_h30 at h
  obtain ⟨S38, eS38, h⟩ := si_ob h
  have g := g.tr (sd_na_m eS38)
  exact g.tr (mo_L_law_h42 F L xs r13 hr13 _ _ _ _ h)
theorem mo_L_law_h13 (F : Nat) (L : Nat) (xs : Nat → Int32) (r13 : Int32 → Int32 → si_St → Option (Int32 × si_St)) (hr13 : ∀ (x2 : Int32) (x3 : Int32) (S : si_St) (o : Int32 × si_St), r13 x2 x3 S = some o → sd_le S o.2) (x2 : Int32) (x3 : Int32) (S : si_St) (o : Int32 × si_St) (h : f_L_law_h13 F L xs r13 x2 x3 S = some o) : sd_le S o.2 := by
  have g : sd_le S S := sd_le.rf
  unfold f_L_law_h13 at h
  rcases Decidable.em (x2 ≤ x3) with c15 | c15
  · have h := si_ip c15 h
    exact g.tr (mo_L_law_h422 F L xs _ _ h)
  · have h := si_in c15 h
    rcases Decidable.em (5 ≤ x3) with c20 | c20
    · have h := si_ip c20 h
      exact g.tr (mo_L_law_h422 F L xs _ _ h)
    · have h := si_in c20 h
      obtain ⟨v39, ev39, h⟩ := si_ob h
      obtain ⟨S40, eS40, h⟩ := si_ob h
      have g := g.tr (mo_L_loads F v39 S S40 eS40)
      exact g.tr (mo_L_law_h30 F L xs r13 hr13 _ _ _ _ h)
theorem mo_L_law_l13 (F : Nat) (L : Nat) (xs : Nat → Int32) : ∀ (n : Nat) (x2 : Int32) (x3 : Int32) (S : si_St) (o : Int32 × si_St), f_L_law_l13 F L xs n x2 x3 S = some o → sd_le S o.2 := by
  intro n
  induction n with
  | zero => intro x2 x3 S o h; cases h
  | succ n ih =>
    intro x2 x3 S o h
    exact mo_L_law_h13 F L xs (f_L_law_l13 F L xs n) ih x2 x3 S o h
theorem mo_L_law_h8 (F : Nat) (L : Nat) (xs : Nat → Int32) (S : si_St) (o : Int32 × si_St) (h : f_L_law_h8 F L xs S = some o) : sd_le S o.2 := by
  have g : sd_le S S := sd_le.rf
  unfold f_L_law_h8 at h
  obtain ⟨v41, ev41, h⟩ := si_ob h
  exact g.tr (mo_L_law_l13 F L xs F _ _ _ _ h)
set_option maxHeartbeats 400000000 in
set_option maxRecDepth 100000 in
theorem law_walk {p : Program} {l : Launch} {e : Env} {s : State} {m : MethodId} {args : Array Value} {below : List Frame} {meth : Method} {c : Code} {E0 : si_Ev} {A : Nat → Prop} {b L : Nat} {xs : Nat → Int32} {Q : State → Prop} (hA : ∀ q, s.heap.size ≤ q → A q) (hX : va_X b L xs s s.heap) (hbl : b < s.heap.size) (hbA : ¬ A b) (F : Nat) (S0 : si_St) (o : Int32 × si_St) (hR : sd_RR room_1 S0 o.2) (hret : ∀ (r0 : Int32) (S : si_St) (E : si_Ev) (H : Heap) (locs : List Loc) (cs ss pc : Nat) (ls : Array Slot), some (r0, S) = some o → narrow .boolean (.int r0) = .int r0 → sd_End al_L_law E0 A s S0 E S H locs cs ss → decode cL_law pc = .ok (.ireturn, 1) → W p l e room_1 s m args below meth c H locs cs ss Q (F0 m pc ls [.int r0])) : ∀ (E : si_Ev) (S : si_St) (H : Heap) (locs : List Loc) (ls : Array Slot) (cs ss : Nat), f_L_law_h8 F L xs S = some o → sd_EE al_L_law E0 E → si_Cx p s m args c cL_law 15 yL_law.cls E A → si_Ws E A s.heap S H locs → sd_Ct S0 S cs ss → lv_has ls 15 [(0, .ref b), (1, .ref (E.2.1 0))] → W p l e room_1 s m args below meth c H locs cs ss Q (F0 m 8 ls []) := by
  have B491 : ∀ (t0 : Int32) (E : si_Ev) (S : si_St) (H : Heap) (locs : List Loc) (ls : Array Slot) (cs ss : Nat), f_L_law_h491 F L xs t0 S = some o → sd_EE al_L_law E0 E → si_Cx p s m args c cL_law 15 yL_law.cls E A → si_Ws E A s.heap S H locs → sd_Ct S0 S cs ss → lv_has ls 15 [] → W p l e room_1 s m args below meth c H locs cs ss Q (F0 m 491 ls [.int t0]) := by
    intro t0  E S H locs ls cs ss hf hE X hw hc hl
    have hcs := sd_room hc (mo_L_law_h491 F L xs _ _ _ hf) hR
    unfold f_L_law_h491 at hf
    obtain ⟨v1, ev1, hf⟩ := si_ob hf
    exact hret _ _ _ _ _ _ _ _ _ (si_bzf ev1 hf) (si_nz (si_bz_inv ev1).1) ⟨hE, hw, hc⟩ dL_law_491
  have B490 : ∀ (E : si_Ev) (S : si_St) (H : Heap) (locs : List Loc) (ls : Array Slot) (cs ss : Nat), f_L_law_h490 F L xs S = some o → sd_EE al_L_law E0 E → si_Cx p s m args c cL_law 15 yL_law.cls E A → si_Ws E A s.heap S H locs → sd_Ct S0 S cs ss → lv_has ls 15 [] → W p l e room_1 s m args below meth c H locs cs ss Q (F0 m 490 ls []) := by
    intro   E S H locs ls cs ss hf hE X hw hc hl
    have hcs := sd_room hc (mo_L_law_h490 F L xs _ _ hf) hR
    unfold f_L_law_h490 at hf
    refine lv_iconst (v := 0) X.1 X.2.1 dL_law_490 (by decide) ?_
    exact B491 _ _ _ _ _ _ _ _ hf hE X hw hc (lv_sub hl [] rfl)
  have B422 : ∀ (E : si_Ev) (S : si_St) (H : Heap) (locs : List Loc) (ls : Array Slot) (cs ss : Nat), f_L_law_h422 F L xs S = some o → sd_EE al_L_law E0 E → si_Cx p s m args c cL_law 15 yL_law.cls E A → si_Ws E A s.heap S H locs → sd_Ct S0 S cs ss → lv_has ls 15 [(1, .ref (E.2.1 0))] → W p l e room_1 s m args below meth c H locs cs ss Q (F0 m 422 ls []) := by
    intro   E S H locs ls cs ss hf hE X hw hc hl
    have hcs := sd_room hc (mo_L_law_h422 F L xs _ _ hf) hR
    unfold f_L_law_h422 at hf
    refine lv_aload_n X.1 X.2.1 dL_law_422 rfl (lv_at hl 0 rfl) ?_
    refine lv_bipush (v := 12) X.1 X.2.1 dL_law_423 (by decide) ?_
    refine lv_iconst (v := 0) X.1 X.2.1 dL_law_425 (by decide) ?_
    obtain ⟨q2, eq2, hf⟩ := si_ob hf
    refine si_cVi [.int 12, .int 0] cal_X9_fewestWeighings gm_RL_127 X hw hA hl.1 (c_X9_fewestWeighings l E F 12 0 S q2 eq2) si_cl9 rfl ⟨⟨rfl, rfl⟩, Nat.le_of_ble_eq_true rfl, Nat.le_of_ble_eq_true rfl⟩ rfl rfl (Nat.le_of_ble_eq_true rfl) hcs dL_law_426 (fun H locs hw => ?_)
    have hc := hc.up (fr_X9_fewestWeighings F 12 0 S q2 eq2).le
    refine lv_iconst (v := 3) X.1 X.2.1 dL_law_429 (by decide) ?_
    refine lv_icmp_ne (tgt := 490) X.1 X.2.1 dL_law_430 (by decide) (fun c430 => ?_) (fun c430 => ?_)
    · have hf := si_in c430 hf
      exact B490 _ _ _ _ _ _ _ hf hE X hw hc (lv_sub hl [] rfl)
    · have hf := si_ip c430 hf
      refine lv_aload_n X.1 X.2.1 dL_law_433 rfl (lv_at hl 0 rfl) ?_
      refine lv_bipush (v := 12) X.1 X.2.1 dL_law_434 (by decide) ?_
      refine lv_iconst (v := 1) X.1 X.2.1 dL_law_436 (by decide) ?_
      obtain ⟨q3, eq3, hf⟩ := si_ob hf
      refine si_cVi [.int 12, .int 1] cal_X9_fewestWeighings gm_RL_127 X hw hA hl.1 (c_X9_fewestWeighings l E F 12 1 q2.2 q3 eq3) si_cl9 rfl ⟨⟨rfl, rfl⟩, Nat.le_of_ble_eq_true rfl, Nat.le_of_ble_eq_true rfl⟩ rfl rfl (Nat.le_of_ble_eq_true rfl) hcs dL_law_437 (fun H locs hw => ?_)
      have hc := hc.up (fr_X9_fewestWeighings F 12 1 q2.2 q3 eq3).le
      refine lv_iconst (v := 3) X.1 X.2.1 dL_law_440 (by decide) ?_
      refine lv_icmp_ne (tgt := 490) X.1 X.2.1 dL_law_441 (by decide) (fun c441 => ?_) (fun c441 => ?_)
      · have hf := si_in c441 hf
        exact B490 _ _ _ _ _ _ _ hf hE X hw hc (lv_sub hl [] rfl)
      · have hf := si_ip c441 hf
        refine lv_aload_n X.1 X.2.1 dL_law_444 rfl (lv_at hl 0 rfl) ?_
        refine lv_iconst (v := 2) X.1 X.2.1 dL_law_445 (by decide) ?_
        refine lv_iconst (v := 0) X.1 X.2.1 dL_law_446 (by decide) ?_
        obtain ⟨q4, eq4, hf⟩ := si_ob hf
        refine si_cVi [.int 2, .int 0] cal_X9_fewestWeighings gm_RL_127 X hw hA hl.1 (c_X9_fewestWeighings l E F 2 0 q3.2 q4 eq4) si_cl9 rfl ⟨⟨rfl, rfl⟩, Nat.le_of_ble_eq_true rfl, Nat.le_of_ble_eq_true rfl⟩ rfl rfl (Nat.le_of_ble_eq_true rfl) hcs dL_law_447 (fun H locs hw => ?_)
        have hc := hc.up (fr_X9_fewestWeighings F 2 0 q3.2 q4 eq4).le
        refine lv_bipush (v := (-2)) X.1 X.2.1 dL_law_450 (by decide) ?_
        refine lv_icmp_ne (tgt := 490) X.1 X.2.1 dL_law_452 (by decide) (fun c452 => ?_) (fun c452 => ?_)
        · have hf := si_in c452 hf
          exact B490 _ _ _ _ _ _ _ hf hE X hw hc (lv_sub hl [] rfl)
        · have hf := si_ip c452 hf
          refine lv_aload_n X.1 X.2.1 dL_law_455 rfl (lv_at hl 0 rfl) ?_
          refine lv_iconst (v := 3) X.1 X.2.1 dL_law_456 (by decide) ?_
          refine lv_iconst (v := 1) X.1 X.2.1 dL_law_457 (by decide) ?_
          obtain ⟨q5, eq5, hf⟩ := si_ob hf
          refine si_cVi [.int 3, .int 1] cal_X9_fewestWeighings gm_RL_127 X hw hA hl.1 (c_X9_fewestWeighings l E F 3 1 q4.2 q5 eq5) si_cl9 rfl ⟨⟨rfl, rfl⟩, Nat.le_of_ble_eq_true rfl, Nat.le_of_ble_eq_true rfl⟩ rfl rfl (Nat.le_of_ble_eq_true rfl) hcs dL_law_458 (fun H locs hw => ?_)
          have hc := hc.up (fr_X9_fewestWeighings F 3 1 q4.2 q5 eq5).le
          refine lv_iconst (v := 2) X.1 X.2.1 dL_law_461 (by decide) ?_
          refine lv_icmp_ne (tgt := 490) X.1 X.2.1 dL_law_462 (by decide) (fun c462 => ?_) (fun c462 => ?_)
          · have hf := si_in c462 hf
            exact B490 _ _ _ _ _ _ _ hf hE X hw hc (lv_sub hl [] rfl)
          · have hf := si_ip c462 hf
            refine lv_aload_n X.1 X.2.1 dL_law_465 rfl (lv_at hl 0 rfl) ?_
            refine lv_iconst (v := 1) X.1 X.2.1 dL_law_466 (by decide) ?_
            refine lv_iconst (v := 1) X.1 X.2.1 dL_law_467 (by decide) ?_
            obtain ⟨q6, eq6, hf⟩ := si_ob hf
            refine si_cVi [.int 1, .int 1] cal_X9_fewestWeighings gm_RL_127 X hw hA hl.1 (c_X9_fewestWeighings l E F 1 1 q5.2 q6 eq6) si_cl9 rfl ⟨⟨rfl, rfl⟩, Nat.le_of_ble_eq_true rfl, Nat.le_of_ble_eq_true rfl⟩ rfl rfl (Nat.le_of_ble_eq_true rfl) hcs dL_law_468 (fun H locs hw => ?_)
            have hc := hc.up (fr_X9_fewestWeighings F 1 1 q5.2 q6 eq6).le
            refine lv_iconst (v := (-1)) X.1 X.2.1 dL_law_471 (by decide) ?_
            refine lv_icmp_ne (tgt := 490) X.1 X.2.1 dL_law_472 (by decide) (fun c472 => ?_) (fun c472 => ?_)
            · have hf := si_in c472 hf
              exact B490 _ _ _ _ _ _ _ hf hE X hw hc (lv_sub hl [] rfl)
            · have hf := si_ip c472 hf
              refine lv_aload_n X.1 X.2.1 dL_law_475 rfl (lv_at hl 0 rfl) ?_
              refine lv_bipush (v := 13) X.1 X.2.1 dL_law_476 (by decide) ?_
              refine lv_iconst (v := 1) X.1 X.2.1 dL_law_478 (by decide) ?_
              obtain ⟨q7, eq7, hf⟩ := si_ob hf
              refine si_cVi [.int 13, .int 1] cal_X9_fewestWeighings gm_RL_127 X hw hA hl.1 (c_X9_fewestWeighings l E F 13 1 q6.2 q7 eq7) si_cl9 rfl ⟨⟨rfl, rfl⟩, Nat.le_of_ble_eq_true rfl, Nat.le_of_ble_eq_true rfl⟩ rfl rfl (Nat.le_of_ble_eq_true rfl) hcs dL_law_479 (fun H locs hw => ?_)
              have hc := hc.up (fr_X9_fewestWeighings F 13 1 q6.2 q7 eq7).le
              refine lv_iconst (v := (-1)) X.1 X.2.1 dL_law_482 (by decide) ?_
              refine lv_icmp_ne (tgt := 490) X.1 X.2.1 dL_law_483 (by decide) (fun c483 => ?_) (fun c483 => ?_)
              · have hf := si_in c483 hf
                exact B490 _ _ _ _ _ _ _ hf hE X hw hc (lv_sub hl [] rfl)
              · have hf := si_ip c483 hf
                refine lv_iconst (v := 1) X.1 X.2.1 dL_law_486 (by decide) ?_
                refine lv_goto (tgt := 491) X.1 X.2.1 dL_law_487 (by decide) ?_
                exact B491 _ _ _ _ _ _ _ _ hf hE X hw hc (lv_sub hl [] rfl)
  have B197 : ∀ (E : si_Ev) (S : si_St) (H : Heap) (locs : List Loc) (ls : Array Slot) (cs ss : Nat), f_L_law_h197 F L xs S = some o → sd_EE al_L_law E0 E → si_Cx p s m args c cL_law 15 yL_law.cls E A → si_Ws E A s.heap S H locs → sd_Ct S0 S cs ss → lv_has ls 15 [] → W p l e room_1 s m args below meth c H locs cs ss Q (F0 m 197 ls []) := by
    intro   E S H locs ls cs ss hf hE X hw hc hl
    have hcs := sd_room hc (mo_L_law_h197 F L xs _ _ hf) hR
    unfold f_L_law_h197 at hf
    refine lv_iconst (v := 0) X.1 X.2.1 dL_law_197 (by decide) ?_
    obtain ⟨v8, ev8, hf⟩ := si_ob hf
    exact hret _ _ _ _ _ _ _ _ _ (si_bzf ev8 hf) (si_nz (si_bz_inv ev8).1) ⟨hE, hw, hc⟩ dL_law_198
  have B13 : ∀ (n13 : Nat) (x2 : Int32) (x3 : Int32) (E : si_Ev) (S : si_St) (H : Heap) (locs : List Loc) (ls : Array Slot) (cs ss : Nat), f_L_law_l13 F L xs n13 x2 x3 S = some o → sd_EE al_L_law E0 E → si_Cx p s m args c cL_law 15 yL_law.cls E A → si_Ws E A s.heap S H locs → sd_Ct S0 S cs ss → lv_has ls 15 [(0, .ref b), (1, .ref (E.2.1 0)), (2, .int x2), (3, .int x3)] → W p l e room_1 s m args below meth c H locs cs ss Q (F0 m 13 ls []) := by
    intro n13
    induction n13 with
    | zero => intro x2 x3  E S H locs ls cs ss hf; cases hf
    | succ n13 ih13 =>
      have B55 : ∀ (n55 : Nat) (x2 : Int32) (x3 : Int32) (x6 : Int32) (E : si_Ev) (S : si_St) (H : Heap) (locs : List Loc) (ls : Array Slot) (cs ss : Nat), f_L_law_l55 F L xs (f_L_law_l13 F L xs n13) n55 x2 x3 x6 S = some o → sd_EE al_L_law E0 E → si_Cx p s m args c cL_law 15 yL_law.cls E A → si_Ws E A s.heap S H locs → sd_Ct S0 S cs ss → lv_has ls 15 [(0, .ref b), (1, .ref (E.2.1 0)), (2, .int x2), (3, .int x3), (4, .ref (E.2.1 92)), (5, .ref (E.2.1 98)), (6, .int x6)] → W p l e room_1 s m args below meth c H locs cs ss Q (F0 m 55 ls []) := by
        intro n55
        induction n55 with
        | zero => intro x2 x3 x6  E S H locs ls cs ss hf; cases hf
        | succ n55 ih55 =>
          have B152 : ∀ (n152 : Nat) (x2 : Int32) (x3 : Int32) (x6 : Int32) (x7 : Int32) (x8 : Int32) (x9 : Int32) (E : si_Ev) (S : si_St) (H : Heap) (locs : List Loc) (ls : Array Slot) (cs ss : Nat), f_L_law_l152 F L xs (f_L_law_l13 F L xs n13) (f_L_law_l55 F L xs (f_L_law_l13 F L xs n13) n55) n152 x2 x3 x6 x7 x8 x9 S = some o → sd_EE al_L_law E0 E → si_Cx p s m args c cL_law 15 yL_law.cls E A → si_Ws E A s.heap S H locs → sd_Ct S0 S cs ss → lv_has ls 15 [(0, .ref b), (1, .ref (E.2.1 0)), (2, .int x2), (3, .int x3), (4, .ref (E.2.1 92)), (5, .ref (E.2.1 98)), (6, .int x6), (7, .int x7), (8, .int x8), (9, .int x9)] → W p l e room_1 s m args below meth c H locs cs ss Q (F0 m 152 ls []) := by
            intro n152
            induction n152 with
            | zero => intro x2 x3 x6 x7 x8 x9  E S H locs ls cs ss hf; cases hf
            | succ n152 ih152 =>
              have B402 : ∀ (x2 : Int32) (x3 : Int32) (x6 : Int32) (x7 : Int32) (x9 : Int32) (t0 : Int32) (E : si_Ev) (S : si_St) (H : Heap) (locs : List Loc) (ls : Array Slot) (cs ss : Nat), f_L_law_h402 F L xs (f_L_law_l13 F L xs n13) (f_L_law_l55 F L xs (f_L_law_l13 F L xs n13) n55) (f_L_law_l152 F L xs (f_L_law_l13 F L xs n13) (f_L_law_l55 F L xs (f_L_law_l13 F L xs n13) n55) n152) x2 x3 x6 x7 x9 t0 S = some o → sd_EE al_L_law E0 E → si_Cx p s m args c cL_law 15 yL_law.cls E A → si_Ws E A s.heap S H locs → sd_Ct S0 S cs ss → lv_has ls 15 [(0, .ref b), (1, .ref (E.2.1 0)), (2, .int x2), (3, .int x3), (4, .ref (E.2.1 92)), (5, .ref (E.2.1 98)), (6, .int x6), (7, .int x7), (9, .int x9)] → W p l e room_1 s m args below meth c H locs cs ss Q (F0 m 402 ls [.int t0]) := by
                intro x2 x3 x6 x7 x9 t0  E S H locs ls cs ss hf hE X hw hc hl
                have hcs := sd_room hc (mo_L_law_h402 F L xs (f_L_law_l13 F L xs n13) (f_L_law_l55 F L xs (f_L_law_l13 F L xs n13) n55) (f_L_law_l152 F L xs (f_L_law_l13 F L xs n13) (f_L_law_l55 F L xs (f_L_law_l13 F L xs n13) n55) n152) (mo_L_law_l13 F L xs n13) (mo_L_law_l55 F L xs (f_L_law_l13 F L xs n13) (mo_L_law_l13 F L xs n13) n55) (mo_L_law_l152 F L xs (f_L_law_l13 F L xs n13) (f_L_law_l55 F L xs (f_L_law_l13 F L xs n13) n55) (mo_L_law_l13 F L xs n13) (mo_L_law_l55 F L xs (f_L_law_l13 F L xs n13) (mo_L_law_l13 F L xs n13) n55) n152) _ _ _ _ _ _ _ _ hf) hR
                unfold f_L_law_h402 at hf
                refine lv_istore (lv' := [(8, .int t0), (0, .ref b), (1, .ref (E.2.1 0)), (2, .int x2), (3, .int x3), (4, .ref (E.2.1 92)), (5, .ref (E.2.1 98)), (6, .int x6), (7, .int x7), (9, .int x9)]) X.1 X.2.1 dL_law_402 hl (by decide) rfl (fun ls hl => ?_)
                obtain ⟨v9, ev9, hf⟩ := si_ob hf
                refine lv_iinc (v := v9) (lv' := [(9, .int v9), (8, .int t0), (0, .ref b), (1, .ref (E.2.1 0)), (2, .int x2), (3, .int x3), (4, .ref (E.2.1 92)), (5, .ref (E.2.1 98)), (6, .int x6), (7, .int x7)]) X.1 X.2.1 dL_law_404 hl (k := 9) rfl (Option.some.inj ev9) (by decide) rfl (fun ls hl => ?_)
                refine lv_goto (tgt := 152) X.1 X.2.1 dL_law_407 (by decide) ?_
                exact ih152 _ _ _ _ _ _ _ _ _ _ _ _ _ hf hE X hw hc (lv_sub hl [2, 3, 4, 5, 6, 7, 8, 9, 1, 0] rfl)
              have B400 : ∀ (x2 : Int32) (x3 : Int32) (x6 : Int32) (x7 : Int32) (x8 : Int32) (x9 : Int32) (E : si_Ev) (S : si_St) (H : Heap) (locs : List Loc) (ls : Array Slot) (cs ss : Nat), f_L_law_h400 F L xs (f_L_law_l13 F L xs n13) (f_L_law_l55 F L xs (f_L_law_l13 F L xs n13) n55) (f_L_law_l152 F L xs (f_L_law_l13 F L xs n13) (f_L_law_l55 F L xs (f_L_law_l13 F L xs n13) n55) n152) x2 x3 x6 x7 x8 x9 S = some o → sd_EE al_L_law E0 E → si_Cx p s m args c cL_law 15 yL_law.cls E A → si_Ws E A s.heap S H locs → sd_Ct S0 S cs ss → lv_has ls 15 [(0, .ref b), (1, .ref (E.2.1 0)), (2, .int x2), (3, .int x3), (4, .ref (E.2.1 92)), (5, .ref (E.2.1 98)), (6, .int x6), (7, .int x7), (8, .int x8), (9, .int x9)] → W p l e room_1 s m args below meth c H locs cs ss Q (F0 m 400 ls []) := by
                intro x2 x3 x6 x7 x8 x9  E S H locs ls cs ss hf hE X hw hc hl
                have hcs := sd_room hc (mo_L_law_h400 F L xs (f_L_law_l13 F L xs n13) (f_L_law_l55 F L xs (f_L_law_l13 F L xs n13) n55) (f_L_law_l152 F L xs (f_L_law_l13 F L xs n13) (f_L_law_l55 F L xs (f_L_law_l13 F L xs n13) n55) n152) (mo_L_law_l13 F L xs n13) (mo_L_law_l55 F L xs (f_L_law_l13 F L xs n13) (mo_L_law_l13 F L xs n13) n55) (mo_L_law_l152 F L xs (f_L_law_l13 F L xs n13) (f_L_law_l55 F L xs (f_L_law_l13 F L xs n13) n55) (mo_L_law_l13 F L xs n13) (mo_L_law_l55 F L xs (f_L_law_l13 F L xs n13) (mo_L_law_l13 F L xs n13) n55) n152) _ _ _ _ _ _ _ _ hf) hR
                unfold f_L_law_h400 at hf
                refine lv_iload X.1 X.2.1 dL_law_400 (lv_at hl 8 rfl) ?_
                exact B402 _ _ _ _ _ _ _ _ _ _ _ _ _ hf hE X hw hc (lv_sub hl [0, 1, 2, 3, 4, 5, 6, 7, 9] rfl)
              have B380 : ∀ (x2 : Int32) (x3 : Int32) (x6 : Int32) (x7 : Int32) (x8 : Int32) (x9 : Int32) (x13 : Int32) (x14 : Int32) (t0 : Int32) (t1 : Int32) (E : si_Ev) (S : si_St) (H : Heap) (locs : List Loc) (ls : Array Slot) (cs ss : Nat), f_L_law_h380 F L xs (f_L_law_l13 F L xs n13) (f_L_law_l55 F L xs (f_L_law_l13 F L xs n13) n55) (f_L_law_l152 F L xs (f_L_law_l13 F L xs n13) (f_L_law_l55 F L xs (f_L_law_l13 F L xs n13) n55) n152) x2 x3 x6 x7 x8 x9 x13 x14 t0 t1 S = some o → sd_EE al_L_law E0 E → si_Cx p s m args c cL_law 15 yL_law.cls E A → si_Ws E A s.heap S H locs → sd_Ct S0 S cs ss → lv_has ls 15 [(0, .ref b), (1, .ref (E.2.1 0)), (2, .int x2), (3, .int x3), (4, .ref (E.2.1 92)), (5, .ref (E.2.1 98)), (6, .int x6), (7, .int x7), (8, .int x8), (9, .int x9), (13, .int x13), (14, .int x14)] → W p l e room_1 s m args below meth c H locs cs ss Q (F0 m 380 ls [.int t0, .int t1]) := by
                intro x2 x3 x6 x7 x8 x9 x13 x14 t0 t1  E S H locs ls cs ss hf hE X hw hc hl
                have hcs := sd_room hc (mo_L_law_h380 F L xs (f_L_law_l13 F L xs n13) (f_L_law_l55 F L xs (f_L_law_l13 F L xs n13) n55) (f_L_law_l152 F L xs (f_L_law_l13 F L xs n13) (f_L_law_l55 F L xs (f_L_law_l13 F L xs n13) n55) n152) (mo_L_law_l13 F L xs n13) (mo_L_law_l55 F L xs (f_L_law_l13 F L xs n13) (mo_L_law_l13 F L xs n13) n55) (mo_L_law_l152 F L xs (f_L_law_l13 F L xs n13) (f_L_law_l55 F L xs (f_L_law_l13 F L xs n13) n55) (mo_L_law_l13 F L xs n13) (mo_L_law_l55 F L xs (f_L_law_l13 F L xs n13) (mo_L_law_l13 F L xs n13) n55) n152) _ _ _ _ _ _ _ _ _ _ _ _ hf) hR
                unfold f_L_law_h380 at hf
                refine lv_icmp_eq (tgt := 385) X.1 X.2.1 dL_law_380 (by decide) (fun c380 => ?_) (fun c380 => ?_)
                · have hf := si_ip c380 hf
                  refine lv_iload X.1 X.2.1 dL_law_385 (lv_at hl 11 rfl) ?_
                  refine lv_if_eq (tgt := 400) X.1 X.2.1 dL_law_387 (by decide) (fun c387 => ?_) (fun c387 => ?_)
                  · have hf := si_ip c387 hf
                    exact B400 _ _ _ _ _ _ _ _ _ _ _ _ _ hf hE X hw hc (lv_sub hl [0, 1, 2, 3, 4, 5, 6, 7, 8, 9] rfl)
                  · have hf := si_in c387 hf
                    refine lv_iload X.1 X.2.1 dL_law_390 (lv_at hl 10 rfl) ?_
                    refine lv_if_eq (tgt := 400) X.1 X.2.1 dL_law_392 (by decide) (fun c392 => ?_) (fun c392 => ?_)
                    · have hf := si_ip c392 hf
                      exact B400 _ _ _ _ _ _ _ _ _ _ _ _ _ hf hE X hw hc (lv_sub hl [0, 1, 2, 3, 4, 5, 6, 7, 8, 9] rfl)
                    · have hf := si_in c392 hf
                      refine lv_iload X.1 X.2.1 dL_law_395 (lv_at hl 10 rfl) ?_
                      refine lv_goto (tgt := 402) X.1 X.2.1 dL_law_397 (by decide) ?_
                      exact B402 _ _ _ _ _ _ _ _ _ _ _ _ _ hf hE X hw hc (lv_sub hl [0, 1, 2, 3, 4, 5, 6, 7, 9] rfl)
                · have hf := si_in c380 hf
                  refine lv_iconst (v := 0) X.1 X.2.1 dL_law_383 (by decide) ?_
                  obtain ⟨v10, ev10, hf⟩ := si_ob hf
                  exact hret _ _ _ _ _ _ _ _ _ (si_bzf ev10 hf) (si_nz (si_bz_inv ev10).1) ⟨hE, hw, hc⟩ dL_law_384
              have B342 : ∀ (x2 : Int32) (x3 : Int32) (x6 : Int32) (x7 : Int32) (x8 : Int32) (x9 : Int32) (x10 : Int32) (x11 : Int32) (x12 : Int32) (x13 : Int32) (t0 : Int32) (E : si_Ev) (S : si_St) (H : Heap) (locs : List Loc) (ls : Array Slot) (cs ss : Nat), f_L_law_h342 F L xs (f_L_law_l13 F L xs n13) (f_L_law_l55 F L xs (f_L_law_l13 F L xs n13) n55) (f_L_law_l152 F L xs (f_L_law_l13 F L xs n13) (f_L_law_l55 F L xs (f_L_law_l13 F L xs n13) n55) n152) x2 x3 x6 x7 x8 x9 x10 x11 x12 x13 t0 S = some o → sd_EE al_L_law E0 E → si_Cx p s m args c cL_law 15 yL_law.cls E A → si_Ws E A s.heap S H locs → sd_Ct S0 S cs ss → lv_has ls 15 [(0, .ref b), (1, .ref (E.2.1 0)), (2, .int x2), (3, .int x3), (4, .ref (E.2.1 92)), (5, .ref (E.2.1 98)), (6, .int x6), (7, .int x7), (8, .int x8), (9, .int x9), (10, .int x10), (11, .int x11), (12, .int x12), (13, .int x13)] → W p l e room_1 s m args below meth c H locs cs ss Q (F0 m 342 ls [.int t0]) := by
                intro x2 x3 x6 x7 x8 x9 x10 x11 x12 x13 t0  E S H locs ls cs ss hf hE X hw hc hl
                have hcs := sd_room hc (mo_L_law_h342 F L xs (f_L_law_l13 F L xs n13) (f_L_law_l55 F L xs (f_L_law_l13 F L xs n13) n55) (f_L_law_l152 F L xs (f_L_law_l13 F L xs n13) (f_L_law_l55 F L xs (f_L_law_l13 F L xs n13) n55) n152) (mo_L_law_l13 F L xs n13) (mo_L_law_l55 F L xs (f_L_law_l13 F L xs n13) (mo_L_law_l13 F L xs n13) n55) (mo_L_law_l152 F L xs (f_L_law_l13 F L xs n13) (f_L_law_l55 F L xs (f_L_law_l13 F L xs n13) n55) (mo_L_law_l13 F L xs n13) (mo_L_law_l55 F L xs (f_L_law_l13 F L xs n13) (mo_L_law_l13 F L xs n13) n55) n152) _ _ _ _ _ _ _ _ _ _ _ _ _ hf) hR
                unfold f_L_law_h342 at hf
                refine lv_istore (lv' := [(14, .int t0), (0, .ref b), (1, .ref (E.2.1 0)), (2, .int x2), (3, .int x3), (4, .ref (E.2.1 92)), (5, .ref (E.2.1 98)), (6, .int x6), (7, .int x7), (8, .int x8), (9, .int x9), (10, .int x10), (11, .int x11), (12, .int x12), (13, .int x13)]) X.1 X.2.1 dL_law_342 hl (by decide) rfl (fun ls hl => ?_)
                refine lv_aload_n X.1 X.2.1 dL_law_344 rfl (lv_at hl 2 rfl) ?_
                refine lv_iload X.1 X.2.1 dL_law_345 (lv_at hl 7 rfl) ?_
                refine lv_iload X.1 X.2.1 dL_law_347 (lv_at hl 11 rfl) ?_
                refine lv_iload X.1 X.2.1 dL_law_349 (lv_at hl 12 rfl) ?_
                refine lv_iload X.1 X.2.1 dL_law_351 (lv_at hl 13 rfl) ?_
                obtain ⟨q11, eq11, hf⟩ := si_ob hf
                refine si_cVi [.int x6, .int x10, .int x11, .int x12] cal_X9_weigh gm_RL_123 X hw hA hl.1 (c_X9_weigh l E F x6 x10 x11 x12 S q11 eq11) si_cl9 rfl ⟨⟨rfl, rfl⟩, Nat.le_of_ble_eq_true rfl, Nat.le_of_ble_eq_true rfl⟩ rfl rfl (Nat.le_of_ble_eq_true rfl) hcs dL_law_353 (fun H locs hw => ?_)
                have hc := hc.up (fr_X9_weigh F x6 x10 x11 x12 S q11 eq11).le
                refine lv_iload X.1 X.2.1 dL_law_356 (lv_at hl 0 rfl) ?_
                refine lv_if_ne (tgt := 365) X.1 X.2.1 dL_law_358 (by decide) (fun c358 => ?_) (fun c358 => ?_)
                · have hf := si_in c358 hf
                  refine lv_iload X.1 X.2.1 dL_law_365 (lv_at hl 14 rfl) ?_
                  refine lv_if_ne (tgt := 375) X.1 X.2.1 dL_law_367 (by decide) (fun c367 => ?_) (fun c367 => ?_)
                  · have hf := si_in c367 hf
                    refine lv_iload X.1 X.2.1 dL_law_375 (lv_at hl 14 rfl) ?_
                    obtain ⟨q12, eq12, hf⟩ := si_ob hf
                    refine si_cSi [.int x13] cal_J6_bitCount_0f7a4 gm_RL_98 X hw hA hl.1 (c_J6_bitCount_0f7a4 l E F x13 q11.2 q12 eq12) ⟨⟨rfl, rfl⟩, Nat.le_of_ble_eq_true rfl, Nat.le_of_ble_eq_true rfl⟩ rfl rfl (Nat.le_of_ble_eq_true rfl) hcs dL_law_377 (fun H locs hw => ?_)
                    have hc := hc.up (fr_J6_bitCount_0f7a4 F x13 q11.2 q12 eq12).le
                    exact B380 _ _ _ _ _ _ _ _ _ _ _ _ _ _ _ _ _ hf hE X hw hc (lv_sub hl [1, 2, 3, 4, 5, 6, 7, 8, 9, 10, 14, 0] rfl)
                  · have hf := si_ip c367 hf
                    refine lv_bipush (v := (-2)) X.1 X.2.1 dL_law_370 (by decide) ?_
                    refine lv_goto (tgt := 380) X.1 X.2.1 dL_law_372 (by decide) ?_
                    exact B380 _ _ _ _ _ _ _ _ _ _ _ _ _ _ _ _ _ hf hE X hw hc (lv_sub hl [1, 2, 3, 4, 5, 6, 7, 8, 9, 10, 14, 0] rfl)
                · have hf := si_ip c358 hf
                  refine lv_iconst (v := (-1)) X.1 X.2.1 dL_law_361 (by decide) ?_
                  refine lv_goto (tgt := 380) X.1 X.2.1 dL_law_362 (by decide) ?_
                  exact B380 _ _ _ _ _ _ _ _ _ _ _ _ _ _ _ _ _ hf hE X hw hc (lv_sub hl [1, 2, 3, 4, 5, 6, 7, 8, 9, 10, 14, 0] rfl)
              have B341 : ∀ (x2 : Int32) (x3 : Int32) (x6 : Int32) (x7 : Int32) (x8 : Int32) (x9 : Int32) (x10 : Int32) (x11 : Int32) (x12 : Int32) (x13 : Int32) (E : si_Ev) (S : si_St) (H : Heap) (locs : List Loc) (ls : Array Slot) (cs ss : Nat), f_L_law_h341 F L xs (f_L_law_l13 F L xs n13) (f_L_law_l55 F L xs (f_L_law_l13 F L xs n13) n55) (f_L_law_l152 F L xs (f_L_law_l13 F L xs n13) (f_L_law_l55 F L xs (f_L_law_l13 F L xs n13) n55) n152) x2 x3 x6 x7 x8 x9 x10 x11 x12 x13 S = some o → sd_EE al_L_law E0 E → si_Cx p s m args c cL_law 15 yL_law.cls E A → si_Ws E A s.heap S H locs → sd_Ct S0 S cs ss → lv_has ls 15 [(0, .ref b), (1, .ref (E.2.1 0)), (2, .int x2), (3, .int x3), (4, .ref (E.2.1 92)), (5, .ref (E.2.1 98)), (6, .int x6), (7, .int x7), (8, .int x8), (9, .int x9), (10, .int x10), (11, .int x11), (12, .int x12), (13, .int x13)] → W p l e room_1 s m args below meth c H locs cs ss Q (F0 m 341 ls []) := by
                intro x2 x3 x6 x7 x8 x9 x10 x11 x12 x13  E S H locs ls cs ss hf hE X hw hc hl
                have hcs := sd_room hc (mo_L_law_h341 F L xs (f_L_law_l13 F L xs n13) (f_L_law_l55 F L xs (f_L_law_l13 F L xs n13) n55) (f_L_law_l152 F L xs (f_L_law_l13 F L xs n13) (f_L_law_l55 F L xs (f_L_law_l13 F L xs n13) n55) n152) (mo_L_law_l13 F L xs n13) (mo_L_law_l55 F L xs (f_L_law_l13 F L xs n13) (mo_L_law_l13 F L xs n13) n55) (mo_L_law_l152 F L xs (f_L_law_l13 F L xs n13) (f_L_law_l55 F L xs (f_L_law_l13 F L xs n13) n55) (mo_L_law_l13 F L xs n13) (mo_L_law_l55 F L xs (f_L_law_l13 F L xs n13) (mo_L_law_l13 F L xs n13) n55) n152) _ _ _ _ _ _ _ _ _ _ _ _ hf) hR
                unfold f_L_law_h341 at hf
                refine lv_iconst (v := 0) X.1 X.2.1 dL_law_341 (by decide) ?_
                exact B342 _ _ _ _ _ _ _ _ _ _ _ _ _ _ _ _ _ _ hf hE X hw hc (lv_sub hl [0, 1, 2, 3, 4, 5, 6, 7, 8, 9, 10, 11, 12, 13] rfl)
              have B256 : ∀ (n256 : Nat) (x2 : Int32) (x3 : Int32) (x6 : Int32) (x7 : Int32) (x8 : Int32) (x9 : Int32) (x10 : Int32) (x11 : Int32) (x12 : Int32) (x13 : Int32) (x14 : Int32) (E : si_Ev) (S : si_St) (H : Heap) (locs : List Loc) (ls : Array Slot) (cs ss : Nat), f_L_law_l256 F L xs (f_L_law_l13 F L xs n13) (f_L_law_l55 F L xs (f_L_law_l13 F L xs n13) n55) (f_L_law_l152 F L xs (f_L_law_l13 F L xs n13) (f_L_law_l55 F L xs (f_L_law_l13 F L xs n13) n55) n152) n256 x2 x3 x6 x7 x8 x9 x10 x11 x12 x13 x14 S = some o → sd_EE al_L_law E0 E → si_Cx p s m args c cL_law 15 yL_law.cls E A → si_Ws E A s.heap S H locs → sd_Ct S0 S cs ss → lv_has ls 15 [(0, .ref b), (1, .ref (E.2.1 0)), (2, .int x2), (3, .int x3), (4, .ref (E.2.1 92)), (5, .ref (E.2.1 98)), (6, .int x6), (7, .int x7), (8, .int x8), (9, .int x9), (10, .int x10), (11, .int x11), (12, .int x12), (13, .int x13), (14, .int x14)] → W p l e room_1 s m args below meth c H locs cs ss Q (F0 m 256 ls []) := by
                intro n256
                induction n256 with
                | zero => intro x2 x3 x6 x7 x8 x9 x10 x11 x12 x13 x14  E S H locs ls cs ss hf; cases hf
                | succ n256 ih256 =>
                  have B310 : ∀ (x2 : Int32) (x3 : Int32) (x6 : Int32) (x7 : Int32) (x8 : Int32) (x9 : Int32) (x10 : Int32) (x11 : Int32) (x12 : Int32) (x14 : Int32) (t0 : Int32) (t1 : Int32) (E : si_Ev) (S : si_St) (H : Heap) (locs : List Loc) (ls : Array Slot) (cs ss : Nat), f_L_law_h310 F L xs (f_L_law_l13 F L xs n13) (f_L_law_l55 F L xs (f_L_law_l13 F L xs n13) n55) (f_L_law_l152 F L xs (f_L_law_l13 F L xs n13) (f_L_law_l55 F L xs (f_L_law_l13 F L xs n13) n55) n152) (f_L_law_l256 F L xs (f_L_law_l13 F L xs n13) (f_L_law_l55 F L xs (f_L_law_l13 F L xs n13) n55) (f_L_law_l152 F L xs (f_L_law_l13 F L xs n13) (f_L_law_l55 F L xs (f_L_law_l13 F L xs n13) n55) n152) n256) x2 x3 x6 x7 x8 x9 x10 x11 x12 x14 t0 t1 S = some o → sd_EE al_L_law E0 E → si_Cx p s m args c cL_law 15 yL_law.cls E A → si_Ws E A s.heap S H locs → sd_Ct S0 S cs ss → lv_has ls 15 [(0, .ref b), (1, .ref (E.2.1 0)), (2, .int x2), (3, .int x3), (4, .ref (E.2.1 92)), (5, .ref (E.2.1 98)), (6, .int x6), (7, .int x7), (8, .int x8), (9, .int x9), (10, .int x10), (11, .int x11), (12, .int x12), (14, .int x14)] → W p l e room_1 s m args below meth c H locs cs ss Q (F0 m 310 ls [.int t0, .int t1]) := by
                    intro x2 x3 x6 x7 x8 x9 x10 x11 x12 x14 t0 t1  E S H locs ls cs ss hf hE X hw hc hl
                    have hcs := sd_room hc (mo_L_law_h310 F L xs (f_L_law_l13 F L xs n13) (f_L_law_l55 F L xs (f_L_law_l13 F L xs n13) n55) (f_L_law_l152 F L xs (f_L_law_l13 F L xs n13) (f_L_law_l55 F L xs (f_L_law_l13 F L xs n13) n55) n152) (f_L_law_l256 F L xs (f_L_law_l13 F L xs n13) (f_L_law_l55 F L xs (f_L_law_l13 F L xs n13) n55) (f_L_law_l152 F L xs (f_L_law_l13 F L xs n13) (f_L_law_l55 F L xs (f_L_law_l13 F L xs n13) n55) n152) n256) (mo_L_law_l13 F L xs n13) (mo_L_law_l55 F L xs (f_L_law_l13 F L xs n13) (mo_L_law_l13 F L xs n13) n55) (mo_L_law_l152 F L xs (f_L_law_l13 F L xs n13) (f_L_law_l55 F L xs (f_L_law_l13 F L xs n13) n55) (mo_L_law_l13 F L xs n13) (mo_L_law_l55 F L xs (f_L_law_l13 F L xs n13) (mo_L_law_l13 F L xs n13) n55) n152) (mo_L_law_l256 F L xs (f_L_law_l13 F L xs n13) (f_L_law_l55 F L xs (f_L_law_l13 F L xs n13) n55) (f_L_law_l152 F L xs (f_L_law_l13 F L xs n13) (f_L_law_l55 F L xs (f_L_law_l13 F L xs n13) n55) n152) (mo_L_law_l13 F L xs n13) (mo_L_law_l55 F L xs (f_L_law_l13 F L xs n13) (mo_L_law_l13 F L xs n13) n55) (mo_L_law_l152 F L xs (f_L_law_l13 F L xs n13) (f_L_law_l55 F L xs (f_L_law_l13 F L xs n13) n55) (mo_L_law_l13 F L xs n13) (mo_L_law_l55 F L xs (f_L_law_l13 F L xs n13) (mo_L_law_l13 F L xs n13) n55) n152) n256) _ _ _ _ _ _ _ _ _ _ _ _ _ _ hf) hR
                    unfold f_L_law_h310 at hf
                    refine lv_ior X.1 X.2.1 dL_law_310 ?_
                    obtain ⟨v13, ev13, hf⟩ := si_ob hf
                    refine si_nmI ev13 ?_
                    refine lv_istore (lv' := [(13, .int v13), (0, .ref b), (1, .ref (E.2.1 0)), (2, .int x2), (3, .int x3), (4, .ref (E.2.1 92)), (5, .ref (E.2.1 98)), (6, .int x6), (7, .int x7), (8, .int x8), (9, .int x9), (10, .int x10), (11, .int x11), (12, .int x12), (14, .int x14)]) X.1 X.2.1 dL_law_311 hl (by decide) rfl (fun ls hl => ?_)
                    obtain ⟨v14, ev14, hf⟩ := si_ob hf
                    refine lv_iinc (v := v14) (lv' := [(14, .int v14), (13, .int v13), (0, .ref b), (1, .ref (E.2.1 0)), (2, .int x2), (3, .int x3), (4, .ref (E.2.1 92)), (5, .ref (E.2.1 98)), (6, .int x6), (7, .int x7), (8, .int x8), (9, .int x9), (10, .int x10), (11, .int x11), (12, .int x12)]) X.1 X.2.1 dL_law_313 hl (k := 14) rfl (Option.some.inj ev14) (by decide) rfl (fun ls hl => ?_)
                    refine lv_goto (tgt := 256) X.1 X.2.1 dL_law_316 (by decide) ?_
                    exact ih256 _ _ _ _ _ _ _ _ _ _ _ _ _ _ _ _ _ _ hf hE X hw hc (lv_sub hl [2, 3, 4, 5, 6, 7, 8, 9, 10, 11, 12, 13, 14, 1, 0] rfl)
                  have B309 : ∀ (x2 : Int32) (x3 : Int32) (x6 : Int32) (x7 : Int32) (x8 : Int32) (x9 : Int32) (x10 : Int32) (x11 : Int32) (x12 : Int32) (x14 : Int32) (t0 : Int32) (E : si_Ev) (S : si_St) (H : Heap) (locs : List Loc) (ls : Array Slot) (cs ss : Nat), f_L_law_h309 F L xs (f_L_law_l13 F L xs n13) (f_L_law_l55 F L xs (f_L_law_l13 F L xs n13) n55) (f_L_law_l152 F L xs (f_L_law_l13 F L xs n13) (f_L_law_l55 F L xs (f_L_law_l13 F L xs n13) n55) n152) (f_L_law_l256 F L xs (f_L_law_l13 F L xs n13) (f_L_law_l55 F L xs (f_L_law_l13 F L xs n13) n55) (f_L_law_l152 F L xs (f_L_law_l13 F L xs n13) (f_L_law_l55 F L xs (f_L_law_l13 F L xs n13) n55) n152) n256) x2 x3 x6 x7 x8 x9 x10 x11 x12 x14 t0 S = some o → sd_EE al_L_law E0 E → si_Cx p s m args c cL_law 15 yL_law.cls E A → si_Ws E A s.heap S H locs → sd_Ct S0 S cs ss → lv_has ls 15 [(0, .ref b), (1, .ref (E.2.1 0)), (2, .int x2), (3, .int x3), (4, .ref (E.2.1 92)), (5, .ref (E.2.1 98)), (6, .int x6), (7, .int x7), (8, .int x8), (9, .int x9), (10, .int x10), (11, .int x11), (12, .int x12), (14, .int x14)] → W p l e room_1 s m args below meth c H locs cs ss Q (F0 m 309 ls [.int t0]) := by
                    intro x2 x3 x6 x7 x8 x9 x10 x11 x12 x14 t0  E S H locs ls cs ss hf hE X hw hc hl
                    have hcs := sd_room hc (mo_L_law_h309 F L xs (f_L_law_l13 F L xs n13) (f_L_law_l55 F L xs (f_L_law_l13 F L xs n13) n55) (f_L_law_l152 F L xs (f_L_law_l13 F L xs n13) (f_L_law_l55 F L xs (f_L_law_l13 F L xs n13) n55) n152) (f_L_law_l256 F L xs (f_L_law_l13 F L xs n13) (f_L_law_l55 F L xs (f_L_law_l13 F L xs n13) n55) (f_L_law_l152 F L xs (f_L_law_l13 F L xs n13) (f_L_law_l55 F L xs (f_L_law_l13 F L xs n13) n55) n152) n256) (mo_L_law_l13 F L xs n13) (mo_L_law_l55 F L xs (f_L_law_l13 F L xs n13) (mo_L_law_l13 F L xs n13) n55) (mo_L_law_l152 F L xs (f_L_law_l13 F L xs n13) (f_L_law_l55 F L xs (f_L_law_l13 F L xs n13) n55) (mo_L_law_l13 F L xs n13) (mo_L_law_l55 F L xs (f_L_law_l13 F L xs n13) (mo_L_law_l13 F L xs n13) n55) n152) (mo_L_law_l256 F L xs (f_L_law_l13 F L xs n13) (f_L_law_l55 F L xs (f_L_law_l13 F L xs n13) n55) (f_L_law_l152 F L xs (f_L_law_l13 F L xs n13) (f_L_law_l55 F L xs (f_L_law_l13 F L xs n13) n55) n152) (mo_L_law_l13 F L xs n13) (mo_L_law_l55 F L xs (f_L_law_l13 F L xs n13) (mo_L_law_l13 F L xs n13) n55) (mo_L_law_l152 F L xs (f_L_law_l13 F L xs n13) (f_L_law_l55 F L xs (f_L_law_l13 F L xs n13) n55) (mo_L_law_l13 F L xs n13) (mo_L_law_l55 F L xs (f_L_law_l13 F L xs n13) (mo_L_law_l13 F L xs n13) n55) n152) n256) _ _ _ _ _ _ _ _ _ _ _ _ _ hf) hR
                    unfold f_L_law_h309 at hf
                    refine lv_iconst (v := 0) X.1 X.2.1 dL_law_309 (by decide) ?_
                    exact B310 _ _ _ _ _ _ _ _ _ _ _ _ _ _ _ _ _ _ _ hf hE X hw hc (lv_sub hl [0, 1, 2, 3, 4, 5, 6, 7, 8, 9, 10, 11, 12, 13] rfl)
                  intro x2 x3 x6 x7 x8 x9 x10 x11 x12 x13 x14  E S H locs ls cs ss hf hE X hw hc hl
                  have hf : f_L_law_h256 F L xs (f_L_law_l13 F L xs n13) (f_L_law_l55 F L xs (f_L_law_l13 F L xs n13) n55) (f_L_law_l152 F L xs (f_L_law_l13 F L xs n13) (f_L_law_l55 F L xs (f_L_law_l13 F L xs n13) n55) n152) (f_L_law_l256 F L xs (f_L_law_l13 F L xs n13) (f_L_law_l55 F L xs (f_L_law_l13 F L xs n13) n55) (f_L_law_l152 F L xs (f_L_law_l13 F L xs n13) (f_L_law_l55 F L xs (f_L_law_l13 F L xs n13) n55) n152) n256) x2 x3 x6 x7 x8 x9 x10 x11 x12 x13 x14 S = some o := hf
                  have ih_mo := mo_L_law_l256 F L xs (f_L_law_l13 F L xs n13) (f_L_law_l55 F L xs (f_L_law_l13 F L xs n13) n55) (f_L_law_l152 F L xs (f_L_law_l13 F L xs n13) (f_L_law_l55 F L xs (f_L_law_l13 F L xs n13) n55) n152) (mo_L_law_l13 F L xs n13) (mo_L_law_l55 F L xs (f_L_law_l13 F L xs n13) (mo_L_law_l13 F L xs n13) n55) (mo_L_law_l152 F L xs (f_L_law_l13 F L xs n13) (f_L_law_l55 F L xs (f_L_law_l13 F L xs n13) n55) (mo_L_law_l13 F L xs n13) (mo_L_law_l55 F L xs (f_L_law_l13 F L xs n13) (mo_L_law_l13 F L xs n13) n55) n152) n256
                  have hcs := sd_room hc (mo_L_law_h256 F L xs (f_L_law_l13 F L xs n13) (f_L_law_l55 F L xs (f_L_law_l13 F L xs n13) n55) (f_L_law_l152 F L xs (f_L_law_l13 F L xs n13) (f_L_law_l55 F L xs (f_L_law_l13 F L xs n13) n55) n152) (f_L_law_l256 F L xs (f_L_law_l13 F L xs n13) (f_L_law_l55 F L xs (f_L_law_l13 F L xs n13) n55) (f_L_law_l152 F L xs (f_L_law_l13 F L xs n13) (f_L_law_l55 F L xs (f_L_law_l13 F L xs n13) n55) n152) n256) (mo_L_law_l13 F L xs n13) (mo_L_law_l55 F L xs (f_L_law_l13 F L xs n13) (mo_L_law_l13 F L xs n13) n55) (mo_L_law_l152 F L xs (f_L_law_l13 F L xs n13) (f_L_law_l55 F L xs (f_L_law_l13 F L xs n13) n55) (mo_L_law_l13 F L xs n13) (mo_L_law_l55 F L xs (f_L_law_l13 F L xs n13) (mo_L_law_l13 F L xs n13) n55) n152) ih_mo _ _ _ _ _ _ _ _ _ _ _ _ _ hf) hR
                  unfold f_L_law_h256 at hf
                  refine lv_iload X.1 X.2.1 dL_law_256 (lv_at hl 14 rfl) ?_
                  refine lv_iconst (v := 1) X.1 X.2.1 dL_law_258 (by decide) ?_
                  refine lv_iconst (v := 2) X.1 X.2.1 dL_law_259 (by decide) ?_
                  refine lv_aload X.1 X.2.1 dL_law_260 (lv_at hl 4 rfl) ?_
                  have hgr262 : sd_ok S 92 ∧ S.1 92 3 ≠ 0 := Decidable.byContradiction fun h9 => by rw [if_pos h9] at hf; cases hf
                  have hf := si_in (not_not_intro hgr262) hf
                  refine sd_getR X hw sd_cl22 3 (by decide) (Or.inr ⟨_, List.mem_of_getElem? (i := 15) rfl⟩) rfl rfl rfl hgr262 dL_law_262 ?_
                  refine lv_iconst (v := 2) X.1 X.2.1 dL_law_265 (by decide) ?_
                  refine lv_iload X.1 X.2.1 dL_law_266 (lv_at hl 6 rfl) ?_
                  refine lv_imul X.1 X.2.1 dL_law_268 ?_
                  obtain ⟨v15, ev15, hf⟩ := si_ob hf
                  refine sd_iald X hw rfl ev15 dL_law_269 ?_
                  refine lv_imul X.1 X.2.1 dL_law_270 ?_
                  refine lv_iadd X.1 X.2.1 dL_law_271 ?_
                  refine lv_icmp_ge (tgt := 319) X.1 X.2.1 dL_law_272 (by decide) (fun c272 => ?_) (fun c272 => ?_)
                  · have hf := si_ip c272 hf
                    refine lv_iload X.1 X.2.1 dL_law_319 (lv_at hl 10 rfl) ?_
                    refine lv_if_eq (tgt := 341) X.1 X.2.1 dL_law_321 (by decide) (fun c321 => ?_) (fun c321 => ?_)
                    · have hf := si_ip c321 hf
                      exact B341 _ _ _ _ _ _ _ _ _ _ _ _ _ _ _ _ _ hf hE X hw hc (lv_sub hl [0, 1, 2, 3, 4, 5, 6, 7, 8, 9, 10, 11, 12, 13] rfl)
                    · have hf := si_in c321 hf
                      refine lv_iload X.1 X.2.1 dL_law_324 (lv_at hl 10 rfl) ?_
                      obtain ⟨q16, eq16, hf⟩ := si_ob hf
                      refine si_cSi [.int x10] cal_J6_bitCount_0f7a4 gm_RL_98 X hw hA hl.1 (c_J6_bitCount_0f7a4 l E F x10 S q16 eq16) ⟨⟨rfl, rfl⟩, Nat.le_of_ble_eq_true rfl, Nat.le_of_ble_eq_true rfl⟩ rfl rfl (Nat.le_of_ble_eq_true rfl) hcs dL_law_326 (fun H locs hw => ?_)
                      have hc := hc.up (fr_J6_bitCount_0f7a4 F x10 S q16 eq16).le
                      refine lv_iload X.1 X.2.1 dL_law_329 (lv_at hl 11 rfl) ?_
                      obtain ⟨q17, eq17, hf⟩ := si_ob hf
                      refine si_cSi [.int x11] cal_J6_bitCount_0f7a4 gm_RL_98 X hw hA hl.1 (c_J6_bitCount_0f7a4 l E F x11 q16.2 q17 eq17) ⟨⟨rfl, rfl⟩, Nat.le_of_ble_eq_true rfl, Nat.le_of_ble_eq_true rfl⟩ rfl rfl (Nat.le_of_ble_eq_true rfl) hcs dL_law_331 (fun H locs hw => ?_)
                      have hc := hc.up (fr_J6_bitCount_0f7a4 F x11 q16.2 q17 eq17).le
                      refine lv_icmp_ne (tgt := 341) X.1 X.2.1 dL_law_334 (by decide) (fun c334 => ?_) (fun c334 => ?_)
                      · have hf := si_in c334 hf
                        exact B341 _ _ _ _ _ _ _ _ _ _ _ _ _ _ _ _ _ hf hE X hw hc (lv_sub hl [0, 1, 2, 3, 4, 5, 6, 7, 8, 9, 10, 11, 12, 13] rfl)
                      · have hf := si_ip c334 hf
                        refine lv_iconst (v := 1) X.1 X.2.1 dL_law_337 (by decide) ?_
                        refine lv_goto (tgt := 342) X.1 X.2.1 dL_law_338 (by decide) ?_
                        exact B342 _ _ _ _ _ _ _ _ _ _ _ _ _ _ _ _ _ _ hf hE X hw hc (lv_sub hl [0, 1, 2, 3, 4, 5, 6, 7, 8, 9, 10, 11, 12, 13] rfl)
                  · have hf := si_in c272 hf
                    refine lv_iload X.1 X.2.1 dL_law_275 (lv_at hl 13 rfl) ?_
                    refine lv_iload X.1 X.2.1 dL_law_277 (lv_at hl 8 rfl) ?_
                    refine lv_iload X.1 X.2.1 dL_law_279 (lv_at hl 14 rfl) ?_
                    refine lv_ishr X.1 X.2.1 dL_law_281 ?_
                    refine lv_iconst (v := 1) X.1 X.2.1 dL_law_282 (by decide) ?_
                    refine lv_iand X.1 X.2.1 dL_law_283 ?_
                    refine lv_iconst (v := 1) X.1 X.2.1 dL_law_284 (by decide) ?_
                    refine lv_icmp_ne (tgt := 309) X.1 X.2.1 dL_law_285 (by decide) (fun c285 => ?_) (fun c285 => ?_)
                    · have hf := si_in c285 hf
                      exact B309 _ _ _ _ _ _ _ _ _ _ _ _ _ _ _ _ _ _ hf hE X hw hc (lv_sub hl [0, 1, 2, 3, 4, 5, 6, 7, 8, 9, 10, 11, 12, 14] rfl)
                    · have hf := si_ip c285 hf
                      refine lv_iload X.1 X.2.1 dL_law_288 (lv_at hl 14 rfl) ?_
                      refine lv_iload X.1 X.2.1 dL_law_290 (lv_at hl 10 rfl) ?_
                      refine lv_iload X.1 X.2.1 dL_law_292 (lv_at hl 11 rfl) ?_
                      obtain ⟨q18, eq18, hf⟩ := si_ob hf
                      refine si_cSi [.int x14, .int x10, .int x11] cal_L_result gm_RL_103 X hw hA hl.1 (c_L_result l E F x14 x10 x11 S q18 eq18) ⟨⟨rfl, rfl⟩, Nat.le_of_ble_eq_true rfl, Nat.le_of_ble_eq_true rfl⟩ rfl rfl (Nat.le_of_ble_eq_true rfl) hcs dL_law_294 (fun H locs hw => ?_)
                      have hc := hc.up (fr_L_result F x14 x10 x11 S q18 eq18).le
                      refine lv_iload X.1 X.2.1 dL_law_297 (lv_at hl 12 rfl) ?_
                      refine lv_icmp_ne (tgt := 309) X.1 X.2.1 dL_law_299 (by decide) (fun c299 => ?_) (fun c299 => ?_)
                      · have hf := si_in c299 hf
                        exact B309 _ _ _ _ _ _ _ _ _ _ _ _ _ _ _ _ _ _ hf hE X hw hc (lv_sub hl [0, 1, 2, 3, 4, 5, 6, 7, 8, 9, 10, 11, 12, 14] rfl)
                      · have hf := si_ip c299 hf
                        refine lv_iconst (v := 1) X.1 X.2.1 dL_law_302 (by decide) ?_
                        refine lv_iload X.1 X.2.1 dL_law_303 (lv_at hl 14 rfl) ?_
                        refine lv_ishl X.1 X.2.1 dL_law_305 ?_
                        refine lv_goto (tgt := 310) X.1 X.2.1 dL_law_306 (by decide) ?_
                        exact B310 _ _ _ _ _ _ _ _ _ _ _ _ _ _ _ _ _ _ _ hf hE X hw hc (lv_sub hl [0, 1, 2, 3, 4, 5, 6, 7, 8, 9, 10, 11, 12, 14] rfl)
              have B248 : ∀ (x2 : Int32) (x3 : Int32) (x6 : Int32) (x7 : Int32) (x8 : Int32) (x9 : Int32) (x10 : Int32) (x11 : Int32) (t0 : Int32) (E : si_Ev) (S : si_St) (H : Heap) (locs : List Loc) (ls : Array Slot) (cs ss : Nat), f_L_law_h248 F L xs (f_L_law_l13 F L xs n13) (f_L_law_l55 F L xs (f_L_law_l13 F L xs n13) n55) (f_L_law_l152 F L xs (f_L_law_l13 F L xs n13) (f_L_law_l55 F L xs (f_L_law_l13 F L xs n13) n55) n152) x2 x3 x6 x7 x8 x9 x10 x11 t0 S = some o → sd_EE al_L_law E0 E → si_Cx p s m args c cL_law 15 yL_law.cls E A → si_Ws E A s.heap S H locs → sd_Ct S0 S cs ss → lv_has ls 15 [(0, .ref b), (1, .ref (E.2.1 0)), (2, .int x2), (3, .int x3), (4, .ref (E.2.1 92)), (5, .ref (E.2.1 98)), (6, .int x6), (7, .int x7), (8, .int x8), (9, .int x9), (10, .int x10), (11, .int x11)] → W p l e room_1 s m args below meth c H locs cs ss Q (F0 m 248 ls [.int t0]) := by
                intro x2 x3 x6 x7 x8 x9 x10 x11 t0  E S H locs ls cs ss hf hE X hw hc hl
                have hcs := sd_room hc (mo_L_law_h248 F L xs (f_L_law_l13 F L xs n13) (f_L_law_l55 F L xs (f_L_law_l13 F L xs n13) n55) (f_L_law_l152 F L xs (f_L_law_l13 F L xs n13) (f_L_law_l55 F L xs (f_L_law_l13 F L xs n13) n55) n152) (mo_L_law_l13 F L xs n13) (mo_L_law_l55 F L xs (f_L_law_l13 F L xs n13) (mo_L_law_l13 F L xs n13) n55) (mo_L_law_l152 F L xs (f_L_law_l13 F L xs n13) (f_L_law_l55 F L xs (f_L_law_l13 F L xs n13) n55) (mo_L_law_l13 F L xs n13) (mo_L_law_l55 F L xs (f_L_law_l13 F L xs n13) (mo_L_law_l13 F L xs n13) n55) n152) _ _ _ _ _ _ _ _ _ _ _ hf) hR
                unfold f_L_law_h248 at hf
                refine lv_istore (lv' := [(12, .int t0), (0, .ref b), (1, .ref (E.2.1 0)), (2, .int x2), (3, .int x3), (4, .ref (E.2.1 92)), (5, .ref (E.2.1 98)), (6, .int x6), (7, .int x7), (8, .int x8), (9, .int x9), (10, .int x10), (11, .int x11)]) X.1 X.2.1 dL_law_248 hl (by decide) rfl (fun ls hl => ?_)
                refine lv_iconst (v := 0) X.1 X.2.1 dL_law_250 (by decide) ?_
                refine lv_istore (lv' := [(13, .int 0), (12, .int t0), (0, .ref b), (1, .ref (E.2.1 0)), (2, .int x2), (3, .int x3), (4, .ref (E.2.1 92)), (5, .ref (E.2.1 98)), (6, .int x6), (7, .int x7), (8, .int x8), (9, .int x9), (10, .int x10), (11, .int x11)]) X.1 X.2.1 dL_law_251 hl (by decide) rfl (fun ls hl => ?_)
                refine lv_iconst (v := 0) X.1 X.2.1 dL_law_253 (by decide) ?_
                refine lv_istore (lv' := [(14, .int 0), (13, .int 0), (12, .int t0), (0, .ref b), (1, .ref (E.2.1 0)), (2, .int x2), (3, .int x3), (4, .ref (E.2.1 92)), (5, .ref (E.2.1 98)), (6, .int x6), (7, .int x7), (8, .int x8), (9, .int x9), (10, .int x10), (11, .int x11)]) X.1 X.2.1 dL_law_254 hl (by decide) rfl (fun ls hl => ?_)
                exact B256 F _ _ _ _ _ _ _ _ _ _ _ _ _ _ _ _ _ _ hf hE X hw hc (lv_sub hl [3, 4, 5, 6, 7, 8, 9, 10, 11, 12, 13, 14, 2, 1, 0] rfl)
              have B235 : ∀ (x2 : Int32) (x3 : Int32) (x6 : Int32) (x7 : Int32) (x8 : Int32) (x9 : Int32) (x10 : Int32) (t0 : Int32) (E : si_Ev) (S : si_St) (H : Heap) (locs : List Loc) (ls : Array Slot) (cs ss : Nat), f_L_law_h235 F L xs (f_L_law_l13 F L xs n13) (f_L_law_l55 F L xs (f_L_law_l13 F L xs n13) n55) (f_L_law_l152 F L xs (f_L_law_l13 F L xs n13) (f_L_law_l55 F L xs (f_L_law_l13 F L xs n13) n55) n152) x2 x3 x6 x7 x8 x9 x10 t0 S = some o → sd_EE al_L_law E0 E → si_Cx p s m args c cL_law 15 yL_law.cls E A → si_Ws E A s.heap S H locs → sd_Ct S0 S cs ss → lv_has ls 15 [(0, .ref b), (1, .ref (E.2.1 0)), (2, .int x2), (3, .int x3), (4, .ref (E.2.1 92)), (5, .ref (E.2.1 98)), (6, .int x6), (7, .int x7), (8, .int x8), (9, .int x9), (10, .int x10)] → W p l e room_1 s m args below meth c H locs cs ss Q (F0 m 235 ls [.int t0]) := by
                intro x2 x3 x6 x7 x8 x9 x10 t0  E S H locs ls cs ss hf hE X hw hc hl
                have hcs := sd_room hc (mo_L_law_h235 F L xs (f_L_law_l13 F L xs n13) (f_L_law_l55 F L xs (f_L_law_l13 F L xs n13) n55) (f_L_law_l152 F L xs (f_L_law_l13 F L xs n13) (f_L_law_l55 F L xs (f_L_law_l13 F L xs n13) n55) n152) (mo_L_law_l13 F L xs n13) (mo_L_law_l55 F L xs (f_L_law_l13 F L xs n13) (mo_L_law_l13 F L xs n13) n55) (mo_L_law_l152 F L xs (f_L_law_l13 F L xs n13) (f_L_law_l55 F L xs (f_L_law_l13 F L xs n13) n55) (mo_L_law_l13 F L xs n13) (mo_L_law_l55 F L xs (f_L_law_l13 F L xs n13) (mo_L_law_l13 F L xs n13) n55) n152) _ _ _ _ _ _ _ _ _ _ hf) hR
                unfold f_L_law_h235 at hf
                refine lv_iload X.1 X.2.1 dL_law_235 (lv_at hl 10 rfl) ?_
                refine lv_iconst (v := (-1)) X.1 X.2.1 dL_law_237 (by decide) ?_
                refine lv_ixor X.1 X.2.1 dL_law_238 ?_
                refine lv_iand X.1 X.2.1 dL_law_239 ?_
                obtain ⟨v19, ev19, hf⟩ := si_ob hf
                refine si_nmI ev19 ?_
                refine lv_istore (lv' := [(11, .int v19), (0, .ref b), (1, .ref (E.2.1 0)), (2, .int x2), (3, .int x3), (4, .ref (E.2.1 92)), (5, .ref (E.2.1 98)), (6, .int x6), (7, .int x7), (8, .int x8), (9, .int x9), (10, .int x10)]) X.1 X.2.1 dL_law_240 hl (by decide) rfl (fun ls hl => ?_)
                refine lv_aload X.1 X.2.1 dL_law_242 (lv_at hl 6 rfl) ?_
                refine lv_iconst (v := 3) X.1 X.2.1 dL_law_244 (by decide) ?_
                obtain ⟨q20, eq20, hf⟩ := si_ob hf
                refine sd_goi (sd_runS (As := [.ref (E.2.1 98), .int 3]) (rest := []) cal_L_draw gm_RL_28 X hw hA hl.1 ((c_L_draw l E F 98 rfl 3 S q20 eq20) H.size) ⟨Nat.le_of_ble_eq_true rfl, Nat.le_of_ble_eq_true rfl⟩ rfl (Nat.le_of_ble_eq_true rfl) (sd_room2 hc (mo_L_draw F 98 rfl 3 S q20 eq20) (mo_L_law_h248 F L xs (f_L_law_l13 F L xs n13) (f_L_law_l55 F L xs (f_L_law_l13 F L xs n13) n55) (f_L_law_l152 F L xs (f_L_law_l13 F L xs n13) (f_L_law_l55 F L xs (f_L_law_l13 F L xs n13) n55) n152) (mo_L_law_l13 F L xs n13) (mo_L_law_l55 F L xs (f_L_law_l13 F L xs n13) (mo_L_law_l13 F L xs n13) n55) (mo_L_law_l152 F L xs (f_L_law_l13 F L xs n13) (f_L_law_l55 F L xs (f_L_law_l13 F L xs n13) n55) (mo_L_law_l13 F L xs n13) (mo_L_law_l55 F L xs (f_L_law_l13 F L xs n13) (mo_L_law_l13 F L xs n13) n55) n152) _ _ _ _ _ _ _ _ _ _ _ hf) hR) dL_law_245) X hw hA hE hc (mo_L_draw F 98 rfl 3 S q20 eq20) (fun _ _ => rfl) (fun E H locs cs ss hZ hE X hw hc => ?_)
                rw [← hZ.at 0 rfl] at hl
                rw [← hZ.at 92 rfl] at hl
                rw [← hZ.at 98 rfl] at hl
                exact B248 _ _ _ _ _ _ _ _ _ _ _ _ _ _ _ _ hf hE X hw hc (lv_sub hl [1, 2, 3, 4, 5, 6, 7, 8, 9, 10, 11, 0] rfl)
              have B216 : ∀ (x2 : Int32) (x3 : Int32) (x6 : Int32) (x7 : Int32) (x8 : Int32) (x9 : Int32) (t0 : Int32) (E : si_Ev) (S : si_St) (H : Heap) (locs : List Loc) (ls : Array Slot) (cs ss : Nat), f_L_law_h216 F L xs (f_L_law_l13 F L xs n13) (f_L_law_l55 F L xs (f_L_law_l13 F L xs n13) n55) (f_L_law_l152 F L xs (f_L_law_l13 F L xs n13) (f_L_law_l55 F L xs (f_L_law_l13 F L xs n13) n55) n152) x2 x3 x6 x7 x8 x9 t0 S = some o → sd_EE al_L_law E0 E → si_Cx p s m args c cL_law 15 yL_law.cls E A → si_Ws E A s.heap S H locs → sd_Ct S0 S cs ss → lv_has ls 15 [(0, .ref b), (1, .ref (E.2.1 0)), (2, .int x2), (3, .int x3), (4, .ref (E.2.1 92)), (5, .ref (E.2.1 98)), (6, .int x6), (7, .int x7), (8, .int x8), (9, .int x9)] → W p l e room_1 s m args below meth c H locs cs ss Q (F0 m 216 ls [.int t0]) := by
                intro x2 x3 x6 x7 x8 x9 t0  E S H locs ls cs ss hf hE X hw hc hl
                have hcs := sd_room hc (mo_L_law_h216 F L xs (f_L_law_l13 F L xs n13) (f_L_law_l55 F L xs (f_L_law_l13 F L xs n13) n55) (f_L_law_l152 F L xs (f_L_law_l13 F L xs n13) (f_L_law_l55 F L xs (f_L_law_l13 F L xs n13) n55) n152) (mo_L_law_l13 F L xs n13) (mo_L_law_l55 F L xs (f_L_law_l13 F L xs n13) (mo_L_law_l13 F L xs n13) n55) (mo_L_law_l152 F L xs (f_L_law_l13 F L xs n13) (f_L_law_l55 F L xs (f_L_law_l13 F L xs n13) n55) (mo_L_law_l13 F L xs n13) (mo_L_law_l55 F L xs (f_L_law_l13 F L xs n13) (mo_L_law_l13 F L xs n13) n55) n152) _ _ _ _ _ _ _ _ _ hf) hR
                unfold f_L_law_h216 at hf
                refine lv_istore (lv' := [(10, .int t0), (0, .ref b), (1, .ref (E.2.1 0)), (2, .int x2), (3, .int x3), (4, .ref (E.2.1 92)), (5, .ref (E.2.1 98)), (6, .int x6), (7, .int x7), (8, .int x8), (9, .int x9)]) X.1 X.2.1 dL_law_216 hl (by decide) rfl (fun ls hl => ?_)
                refine lv_aload X.1 X.2.1 dL_law_218 (lv_at hl 6 rfl) ?_
                refine lv_iconst (v := 1) X.1 X.2.1 dL_law_220 (by decide) ?_
                refine lv_aload X.1 X.2.1 dL_law_221 (lv_at hl 5 rfl) ?_
                have hgr223 : sd_ok S 92 ∧ S.1 92 3 ≠ 0 := Decidable.byContradiction fun h9 => by rw [if_pos h9] at hf; cases hf
                have hf := si_in (not_not_intro hgr223) hf
                refine sd_getR X hw sd_cl22 3 (by decide) (Or.inr ⟨_, List.mem_of_getElem? (i := 15) rfl⟩) rfl rfl rfl hgr223 dL_law_223 ?_
                refine lv_iconst (v := 2) X.1 X.2.1 dL_law_226 (by decide) ?_
                refine lv_iload X.1 X.2.1 dL_law_227 (lv_at hl 7 rfl) ?_
                refine lv_imul X.1 X.2.1 dL_law_229 ?_
                obtain ⟨v21, ev21, hf⟩ := si_ob hf
                refine sd_iald X hw rfl ev21 dL_law_230 ?_
                refine lv_ishl X.1 X.2.1 dL_law_231 ?_
                obtain ⟨q22, eq22, hf⟩ := si_ob hf
                refine sd_goi (sd_runS (As := [.ref (E.2.1 98), .int (1 <<< (v21 &&& 31))]) (rest := []) cal_L_draw gm_RL_28 X hw hA hl.1 ((c_L_draw l E F 98 rfl (1 <<< (v21 &&& 31)) S q22 eq22) H.size) ⟨Nat.le_of_ble_eq_true rfl, Nat.le_of_ble_eq_true rfl⟩ rfl (Nat.le_of_ble_eq_true rfl) (sd_room2 hc (mo_L_draw F 98 rfl (1 <<< (v21 &&& 31)) S q22 eq22) (mo_L_law_h235 F L xs (f_L_law_l13 F L xs n13) (f_L_law_l55 F L xs (f_L_law_l13 F L xs n13) n55) (f_L_law_l152 F L xs (f_L_law_l13 F L xs n13) (f_L_law_l55 F L xs (f_L_law_l13 F L xs n13) n55) n152) (mo_L_law_l13 F L xs n13) (mo_L_law_l55 F L xs (f_L_law_l13 F L xs n13) (mo_L_law_l13 F L xs n13) n55) (mo_L_law_l152 F L xs (f_L_law_l13 F L xs n13) (f_L_law_l55 F L xs (f_L_law_l13 F L xs n13) n55) (mo_L_law_l13 F L xs n13) (mo_L_law_l55 F L xs (f_L_law_l13 F L xs n13) (mo_L_law_l13 F L xs n13) n55) n152) _ _ _ _ _ _ _ _ _ _ hf) hR) dL_law_232) X hw hA hE hc (mo_L_draw F 98 rfl (1 <<< (v21 &&& 31)) S q22 eq22) (fun _ _ => rfl) (fun E H locs cs ss hZ hE X hw hc => ?_)
                rw [← hZ.at 0 rfl] at hl
                rw [← hZ.at 92 rfl] at hl
                rw [← hZ.at 98 rfl] at hl
                exact B235 _ _ _ _ _ _ _ _ _ _ _ _ _ _ _ hf hE X hw hc (lv_sub hl [1, 2, 3, 4, 5, 6, 7, 8, 9, 10, 0] rfl)
              have B199 : ∀ (x2 : Int32) (x3 : Int32) (x6 : Int32) (x7 : Int32) (x8 : Int32) (x9 : Int32) (E : si_Ev) (S : si_St) (H : Heap) (locs : List Loc) (ls : Array Slot) (cs ss : Nat), f_L_law_h199 F L xs (f_L_law_l13 F L xs n13) (f_L_law_l55 F L xs (f_L_law_l13 F L xs n13) n55) (f_L_law_l152 F L xs (f_L_law_l13 F L xs n13) (f_L_law_l55 F L xs (f_L_law_l13 F L xs n13) n55) n152) x2 x3 x6 x7 x8 x9 S = some o → sd_EE al_L_law E0 E → si_Cx p s m args c cL_law 15 yL_law.cls E A → si_Ws E A s.heap S H locs → sd_Ct S0 S cs ss → lv_has ls 15 [(0, .ref b), (1, .ref (E.2.1 0)), (2, .int x2), (3, .int x3), (4, .ref (E.2.1 92)), (5, .ref (E.2.1 98)), (6, .int x6), (7, .int x7), (8, .int x8), (9, .int x9)] → W p l e room_1 s m args below meth c H locs cs ss Q (F0 m 199 ls []) := by
                intro x2 x3 x6 x7 x8 x9  E S H locs ls cs ss hf hE X hw hc hl
                have hcs := sd_room hc (mo_L_law_h199 F L xs (f_L_law_l13 F L xs n13) (f_L_law_l55 F L xs (f_L_law_l13 F L xs n13) n55) (f_L_law_l152 F L xs (f_L_law_l13 F L xs n13) (f_L_law_l55 F L xs (f_L_law_l13 F L xs n13) n55) n152) (mo_L_law_l13 F L xs n13) (mo_L_law_l55 F L xs (f_L_law_l13 F L xs n13) (mo_L_law_l13 F L xs n13) n55) (mo_L_law_l152 F L xs (f_L_law_l13 F L xs n13) (f_L_law_l55 F L xs (f_L_law_l13 F L xs n13) n55) (mo_L_law_l13 F L xs n13) (mo_L_law_l55 F L xs (f_L_law_l13 F L xs n13) (mo_L_law_l13 F L xs n13) n55) n152) _ _ _ _ _ _ _ _ hf) hR
                unfold f_L_law_h199 at hf
                refine lv_aload X.1 X.2.1 dL_law_199 (lv_at hl 5 rfl) ?_
                refine lv_iconst (v := 1) X.1 X.2.1 dL_law_201 (by decide) ?_
                refine lv_aload X.1 X.2.1 dL_law_202 (lv_at hl 4 rfl) ?_
                have hgr204 : sd_ok S 92 ∧ S.1 92 3 ≠ 0 := Decidable.byContradiction fun h9 => by rw [if_pos h9] at hf; cases hf
                have hf := si_in (not_not_intro hgr204) hf
                refine sd_getR X hw sd_cl22 3 (by decide) (Or.inr ⟨_, List.mem_of_getElem? (i := 15) rfl⟩) rfl rfl rfl hgr204 dL_law_204 ?_
                refine lv_iconst (v := 2) X.1 X.2.1 dL_law_207 (by decide) ?_
                refine lv_iload X.1 X.2.1 dL_law_208 (lv_at hl 6 rfl) ?_
                refine lv_imul X.1 X.2.1 dL_law_210 ?_
                obtain ⟨v23, ev23, hf⟩ := si_ob hf
                refine sd_iald X hw rfl ev23 dL_law_211 ?_
                refine lv_ishl X.1 X.2.1 dL_law_212 ?_
                obtain ⟨q24, eq24, hf⟩ := si_ob hf
                refine sd_goi (sd_runS (As := [.ref (E.2.1 98), .int (1 <<< (v23 &&& 31))]) (rest := []) cal_L_draw gm_RL_28 X hw hA hl.1 ((c_L_draw l E F 98 rfl (1 <<< (v23 &&& 31)) S q24 eq24) H.size) ⟨Nat.le_of_ble_eq_true rfl, Nat.le_of_ble_eq_true rfl⟩ rfl (Nat.le_of_ble_eq_true rfl) (sd_room2 hc (mo_L_draw F 98 rfl (1 <<< (v23 &&& 31)) S q24 eq24) (mo_L_law_h216 F L xs (f_L_law_l13 F L xs n13) (f_L_law_l55 F L xs (f_L_law_l13 F L xs n13) n55) (f_L_law_l152 F L xs (f_L_law_l13 F L xs n13) (f_L_law_l55 F L xs (f_L_law_l13 F L xs n13) n55) n152) (mo_L_law_l13 F L xs n13) (mo_L_law_l55 F L xs (f_L_law_l13 F L xs n13) (mo_L_law_l13 F L xs n13) n55) (mo_L_law_l152 F L xs (f_L_law_l13 F L xs n13) (f_L_law_l55 F L xs (f_L_law_l13 F L xs n13) n55) (mo_L_law_l13 F L xs n13) (mo_L_law_l55 F L xs (f_L_law_l13 F L xs n13) (mo_L_law_l13 F L xs n13) n55) n152) _ _ _ _ _ _ _ _ _ hf) hR) dL_law_213) X hw hA hE hc (mo_L_draw F 98 rfl (1 <<< (v23 &&& 31)) S q24 eq24) (fun _ _ => rfl) (fun E H locs cs ss hZ hE X hw hc => ?_)
                rw [← hZ.at 0 rfl] at hl
                rw [← hZ.at 92 rfl] at hl
                rw [← hZ.at 98 rfl] at hl
                exact B216 _ _ _ _ _ _ _ _ _ _ _ _ _ _ hf hE X hw hc (lv_sub hl [0, 1, 2, 3, 4, 5, 6, 7, 8, 9] rfl)
              have B194 : ∀ (x2 : Int32) (x3 : Int32) (x6 : Int32) (x7 : Int32) (x8 : Int32) (x9 : Int32) (t0 : Int32) (E : si_Ev) (S : si_St) (H : Heap) (locs : List Loc) (ls : Array Slot) (cs ss : Nat), f_L_law_h194 F L xs (f_L_law_l13 F L xs n13) (f_L_law_l55 F L xs (f_L_law_l13 F L xs n13) n55) (f_L_law_l152 F L xs (f_L_law_l13 F L xs n13) (f_L_law_l55 F L xs (f_L_law_l13 F L xs n13) n55) n152) x2 x3 x6 x7 x8 x9 t0 S = some o → sd_EE al_L_law E0 E → si_Cx p s m args c cL_law 15 yL_law.cls E A → si_Ws E A s.heap S H locs → sd_Ct S0 S cs ss → lv_has ls 15 [(0, .ref b), (1, .ref (E.2.1 0)), (2, .int x2), (3, .int x3), (4, .ref (E.2.1 92)), (5, .ref (E.2.1 98)), (6, .int x6), (7, .int x7), (8, .int x8), (9, .int x9)] → W p l e room_1 s m args below meth c H locs cs ss Q (F0 m 194 ls [.int t0]) := by
                intro x2 x3 x6 x7 x8 x9 t0  E S H locs ls cs ss hf hE X hw hc hl
                have hcs := sd_room hc (mo_L_law_h194 F L xs (f_L_law_l13 F L xs n13) (f_L_law_l55 F L xs (f_L_law_l13 F L xs n13) n55) (f_L_law_l152 F L xs (f_L_law_l13 F L xs n13) (f_L_law_l55 F L xs (f_L_law_l13 F L xs n13) n55) n152) (mo_L_law_l13 F L xs n13) (mo_L_law_l55 F L xs (f_L_law_l13 F L xs n13) (mo_L_law_l13 F L xs n13) n55) (mo_L_law_l152 F L xs (f_L_law_l13 F L xs n13) (f_L_law_l55 F L xs (f_L_law_l13 F L xs n13) n55) (mo_L_law_l13 F L xs n13) (mo_L_law_l55 F L xs (f_L_law_l13 F L xs n13) (mo_L_law_l13 F L xs n13) n55) n152) _ _ _ _ _ _ _ _ _ hf) hR
                unfold f_L_law_h194 at hf
                refine lv_if_ne (tgt := 199) X.1 X.2.1 dL_law_194 (by decide) (fun c194 => ?_) (fun c194 => ?_)
                · have hf := si_in c194 hf
                  exact B199 _ _ _ _ _ _ _ _ _ _ _ _ _ hf hE X hw hc (lv_sub hl [0, 1, 2, 3, 4, 5, 6, 7, 8, 9] rfl)
                · have hf := si_ip c194 hf
                  exact B197 _ _ _ _ _ _ _ hf hE X hw hc (lv_sub hl [] rfl)
              intro x2 x3 x6 x7 x8 x9  E S H locs ls cs ss hf hE X hw hc hl
              have hf : f_L_law_h152 F L xs (f_L_law_l13 F L xs n13) (f_L_law_l55 F L xs (f_L_law_l13 F L xs n13) n55) (f_L_law_l152 F L xs (f_L_law_l13 F L xs n13) (f_L_law_l55 F L xs (f_L_law_l13 F L xs n13) n55) n152) x2 x3 x6 x7 x8 x9 S = some o := hf
              have ih_mo := mo_L_law_l152 F L xs (f_L_law_l13 F L xs n13) (f_L_law_l55 F L xs (f_L_law_l13 F L xs n13) n55) (mo_L_law_l13 F L xs n13) (mo_L_law_l55 F L xs (f_L_law_l13 F L xs n13) (mo_L_law_l13 F L xs n13) n55) n152
              have hcs := sd_room hc (mo_L_law_h152 F L xs (f_L_law_l13 F L xs n13) (f_L_law_l55 F L xs (f_L_law_l13 F L xs n13) n55) (f_L_law_l152 F L xs (f_L_law_l13 F L xs n13) (f_L_law_l55 F L xs (f_L_law_l13 F L xs n13) n55) n152) (mo_L_law_l13 F L xs n13) (mo_L_law_l55 F L xs (f_L_law_l13 F L xs n13) (mo_L_law_l13 F L xs n13) n55) ih_mo _ _ _ _ _ _ _ _ hf) hR
              unfold f_L_law_h152 at hf
              refine lv_iload X.1 X.2.1 dL_law_152 (lv_at hl 9 rfl) ?_
              refine lv_iconst (v := 5) X.1 X.2.1 dL_law_154 (by decide) ?_
              refine lv_icmp_ge (tgt := 410) X.1 X.2.1 dL_law_155 (by decide) (fun c155 => ?_) (fun c155 => ?_)
              · have hf := si_ip c155 hf
                obtain ⟨v25, ev25, hf⟩ := si_ob hf
                refine lv_iinc (v := v25) (lv' := [(6, .int v25), (0, .ref b), (1, .ref (E.2.1 0)), (2, .int x2), (3, .int x3), (4, .ref (E.2.1 92)), (5, .ref (E.2.1 98)), (7, .int x7), (8, .int x8), (9, .int x9)]) X.1 X.2.1 dL_law_410 hl (k := 6) rfl (Option.some.inj ev25) (by decide) rfl (fun ls hl => ?_)
                refine lv_goto (tgt := 55) X.1 X.2.1 dL_law_413 (by decide) ?_
                exact ih55 _ _ _ _ _ _ _ _ _ _ hf hE X hw hc (lv_sub hl [1, 2, 3, 4, 5, 6, 0] rfl)
              · have hf := si_in c155 hf
                refine lv_aload_n X.1 X.2.1 dL_law_158 rfl (lv_at hl 1 rfl) ?_
                refine lv_iload X.1 X.2.1 dL_law_159 (lv_at hl 6 rfl) ?_
                refine lv_aload X.1 X.2.1 dL_law_161 (lv_at hl 4 rfl) ?_
                have hgr163 : sd_ok S 92 ∧ S.1 92 3 ≠ 0 := Decidable.byContradiction fun h9 => by rw [if_pos h9] at hf; cases hf
                have hf := si_in (not_not_intro hgr163) hf
                refine sd_getR X hw sd_cl22 3 (by decide) (Or.inr ⟨_, List.mem_of_getElem? (i := 15) rfl⟩) rfl rfl rfl hgr163 dL_law_163 ?_
                refine lv_iconst (v := 2) X.1 X.2.1 dL_law_166 (by decide) ?_
                refine lv_iload X.1 X.2.1 dL_law_167 (lv_at hl 6 rfl) ?_
                refine lv_imul X.1 X.2.1 dL_law_169 ?_
                obtain ⟨v26, ev26, hf⟩ := si_ob hf
                refine sd_iald X hw rfl ev26 dL_law_170 ?_
                refine lv_iload X.1 X.2.1 dL_law_171 (lv_at hl 8 rfl) ?_
                obtain ⟨q27, eq27, hf⟩ := si_ob hf
                refine si_cSi [.ref (E.2.1 0), .int x6, .int v26, .int x8] cal_L_said gm_RL_116 X hw hA hl.1 (c_L_said l E F x6 v26 x8 S q27 eq27) ⟨⟨rfl, rfl⟩, Nat.le_of_ble_eq_true rfl, Nat.le_of_ble_eq_true rfl⟩ rfl rfl (Nat.le_of_ble_eq_true rfl) hcs dL_law_173 (fun H locs hw => ?_)
                have hc := hc.up (fr_L_said F x6 v26 x8 S q27 eq27).le
                refine lv_if_eq (tgt := 197) X.1 X.2.1 dL_law_176 (by decide) (fun c176 => ?_) (fun c176 => ?_)
                · have hf := si_ip c176 hf
                  exact B197 _ _ _ _ _ _ _ hf hE X hw hc (lv_sub hl [] rfl)
                · have hf := si_in c176 hf
                  refine lv_iload X.1 X.2.1 dL_law_179 (lv_at hl 7 rfl) ?_
                  refine lv_if_le (tgt := 199) X.1 X.2.1 dL_law_181 (by decide) (fun c181 => ?_) (fun c181 => ?_)
                  · have hf := si_ip c181 hf
                    exact B199 _ _ _ _ _ _ _ _ _ _ _ _ _ hf hE X hw hc (lv_sub hl [0, 1, 2, 3, 4, 5, 6, 7, 8, 9] rfl)
                  · have hf := si_in c181 hf
                    refine lv_aload_n X.1 X.2.1 dL_law_184 rfl (lv_at hl 1 rfl) ?_
                    refine lv_iload X.1 X.2.1 dL_law_185 (lv_at hl 6 rfl) ?_
                    refine lv_iload X.1 X.2.1 dL_law_187 (lv_at hl 7 rfl) ?_
                    refine lv_iload X.1 X.2.1 dL_law_189 (lv_at hl 8 rfl) ?_
                    obtain ⟨q28, eq28, hf⟩ := si_ob hf
                    refine sd_goi (sd_runS (As := [.ref (E.2.1 0), .int x6, .int x7, .int x8]) (rest := []) cal_L_needed gm_RL_120 X hw hA hl.1 ((c_L_needed l E F x6 x7 x8 q27.2 q28 eq28) H.size) ⟨Nat.le_of_ble_eq_true rfl, Nat.le_of_ble_eq_true rfl⟩ rfl (Nat.le_of_ble_eq_true rfl) (sd_room2 hc (mo_L_needed F x6 x7 x8 q27.2 q28 eq28) (mo_L_law_h194 F L xs (f_L_law_l13 F L xs n13) (f_L_law_l55 F L xs (f_L_law_l13 F L xs n13) n55) (f_L_law_l152 F L xs (f_L_law_l13 F L xs n13) (f_L_law_l55 F L xs (f_L_law_l13 F L xs n13) n55) n152) (mo_L_law_l13 F L xs n13) (mo_L_law_l55 F L xs (f_L_law_l13 F L xs n13) (mo_L_law_l13 F L xs n13) n55) (mo_L_law_l152 F L xs (f_L_law_l13 F L xs n13) (f_L_law_l55 F L xs (f_L_law_l13 F L xs n13) n55) (mo_L_law_l13 F L xs n13) (mo_L_law_l55 F L xs (f_L_law_l13 F L xs n13) (mo_L_law_l13 F L xs n13) n55) n152) _ _ _ _ _ _ _ _ _ hf) hR) dL_law_191) X hw hA hE hc (mo_L_needed F x6 x7 x8 q27.2 q28 eq28) (sd_als_L_law_L_needed) (fun E H locs cs ss hZ hE X hw hc => ?_)
                    rw [← hZ.at 0 rfl] at hl
                    rw [← hZ.at 92 rfl] at hl
                    rw [← hZ.at 98 rfl] at hl
                    exact B194 _ _ _ _ _ _ _ _ _ _ _ _ _ _ hf hE X hw hc (lv_sub hl [0, 1, 2, 3, 4, 5, 6, 7, 8, 9] rfl)
          have B115 : ∀ (n115 : Nat) (x2 : Int32) (x3 : Int32) (x6 : Int32) (x7 : Int32) (x8 : Int32) (x9 : Int32) (E : si_Ev) (S : si_St) (H : Heap) (locs : List Loc) (ls : Array Slot) (cs ss : Nat), f_L_law_l115 F L xs (f_L_law_l13 F L xs n13) (f_L_law_l55 F L xs (f_L_law_l13 F L xs n13) n55) n115 x2 x3 x6 x7 x8 x9 S = some o → sd_EE al_L_law E0 E → si_Cx p s m args c cL_law 15 yL_law.cls E A → si_Ws E A s.heap S H locs → sd_Ct S0 S cs ss → lv_has ls 15 [(0, .ref b), (1, .ref (E.2.1 0)), (2, .int x2), (3, .int x3), (4, .ref (E.2.1 92)), (5, .ref (E.2.1 98)), (6, .int x6), (7, .int x7), (8, .int x8), (9, .int x9)] → W p l e room_1 s m args below meth c H locs cs ss Q (F0 m 115 ls []) := by
            intro n115
            induction n115 with
            | zero => intro x2 x3 x6 x7 x8 x9  E S H locs ls cs ss hf; cases hf
            | succ n115 ih115 =>
              intro x2 x3 x6 x7 x8 x9  E S H locs ls cs ss hf hE X hw hc hl
              have hf : f_L_law_h115 F L xs (f_L_law_l13 F L xs n13) (f_L_law_l55 F L xs (f_L_law_l13 F L xs n13) n55) (f_L_law_l115 F L xs (f_L_law_l13 F L xs n13) (f_L_law_l55 F L xs (f_L_law_l13 F L xs n13) n55) n115) x2 x3 x6 x7 x8 x9 S = some o := hf
              have ih_mo := mo_L_law_l115 F L xs (f_L_law_l13 F L xs n13) (f_L_law_l55 F L xs (f_L_law_l13 F L xs n13) n55) (mo_L_law_l13 F L xs n13) (mo_L_law_l55 F L xs (f_L_law_l13 F L xs n13) (mo_L_law_l13 F L xs n13) n55) n115
              have hcs := sd_room hc (mo_L_law_h115 F L xs (f_L_law_l13 F L xs n13) (f_L_law_l55 F L xs (f_L_law_l13 F L xs n13) n55) (f_L_law_l115 F L xs (f_L_law_l13 F L xs n13) (f_L_law_l55 F L xs (f_L_law_l13 F L xs n13) n55) n115) (mo_L_law_l13 F L xs n13) (mo_L_law_l55 F L xs (f_L_law_l13 F L xs n13) (mo_L_law_l13 F L xs n13) n55) ih_mo _ _ _ _ _ _ _ _ hf) hR
              unfold f_L_law_h115 at hf
              refine lv_iload X.1 X.2.1 dL_law_115 (lv_at hl 9 rfl) ?_
              refine lv_iconst (v := 1) X.1 X.2.1 dL_law_117 (by decide) ?_
              refine lv_iconst (v := 2) X.1 X.2.1 dL_law_118 (by decide) ?_
              refine lv_aload X.1 X.2.1 dL_law_119 (lv_at hl 4 rfl) ?_
              have hgr121 : sd_ok S 92 ∧ S.1 92 3 ≠ 0 := Decidable.byContradiction fun h9 => by rw [if_pos h9] at hf; cases hf
              have hf := si_in (not_not_intro hgr121) hf
              refine sd_getR X hw sd_cl22 3 (by decide) (Or.inr ⟨_, List.mem_of_getElem? (i := 15) rfl⟩) rfl rfl rfl hgr121 dL_law_121 ?_
              refine lv_iconst (v := 2) X.1 X.2.1 dL_law_124 (by decide) ?_
              refine lv_iload X.1 X.2.1 dL_law_125 (lv_at hl 6 rfl) ?_
              refine lv_imul X.1 X.2.1 dL_law_127 ?_
              obtain ⟨v29, ev29, hf⟩ := si_ob hf
              refine sd_iald X hw rfl ev29 dL_law_128 ?_
              refine lv_imul X.1 X.2.1 dL_law_129 ?_
              refine lv_iadd X.1 X.2.1 dL_law_130 ?_
              refine lv_icmp_ge (tgt := 149) X.1 X.2.1 dL_law_131 (by decide) (fun c131 => ?_) (fun c131 => ?_)
              · have hf := si_ip c131 hf
                refine lv_iconst (v := 0) X.1 X.2.1 dL_law_149 (by decide) ?_
                refine lv_istore (lv' := [(9, .int 0), (0, .ref b), (1, .ref (E.2.1 0)), (2, .int x2), (3, .int x3), (4, .ref (E.2.1 92)), (5, .ref (E.2.1 98)), (6, .int x6), (7, .int x7), (8, .int x8)]) X.1 X.2.1 dL_law_150 hl (by decide) rfl (fun ls hl => ?_)
                exact B152 F _ _ _ _ _ _ _ _ _ _ _ _ _ hf hE X hw hc (lv_sub hl [1, 2, 3, 4, 5, 6, 7, 8, 9, 0] rfl)
              · have hf := si_in c131 hf
                refine lv_iload X.1 X.2.1 dL_law_134 (lv_at hl 8 rfl) ?_
                refine lv_iconst (v := 1) X.1 X.2.1 dL_law_136 (by decide) ?_
                refine lv_iload X.1 X.2.1 dL_law_137 (lv_at hl 9 rfl) ?_
                refine lv_ishl X.1 X.2.1 dL_law_139 ?_
                refine lv_ior X.1 X.2.1 dL_law_140 ?_
                obtain ⟨v30, ev30, hf⟩ := si_ob hf
                refine si_nmI ev30 ?_
                refine lv_istore (lv' := [(8, .int v30), (0, .ref b), (1, .ref (E.2.1 0)), (2, .int x2), (3, .int x3), (4, .ref (E.2.1 92)), (5, .ref (E.2.1 98)), (6, .int x6), (7, .int x7), (9, .int x9)]) X.1 X.2.1 dL_law_141 hl (by decide) rfl (fun ls hl => ?_)
                obtain ⟨v31, ev31, hf⟩ := si_ob hf
                refine lv_iinc (v := v31) (lv' := [(9, .int v31), (8, .int v30), (0, .ref b), (1, .ref (E.2.1 0)), (2, .int x2), (3, .int x3), (4, .ref (E.2.1 92)), (5, .ref (E.2.1 98)), (6, .int x6), (7, .int x7)]) X.1 X.2.1 dL_law_143 hl (k := 9) rfl (Option.some.inj ev31) (by decide) rfl (fun ls hl => ?_)
                refine lv_goto (tgt := 115) X.1 X.2.1 dL_law_146 (by decide) ?_
                exact ih115 _ _ _ _ _ _ _ _ _ _ _ _ _ hf hE X hw hc (lv_sub hl [2, 3, 4, 5, 6, 7, 8, 9, 1, 0] rfl)
          have B113 : ∀ (x2 : Int32) (x3 : Int32) (x6 : Int32) (x7 : Int32) (x8 : Int32) (t0 : Int32) (E : si_Ev) (S : si_St) (H : Heap) (locs : List Loc) (ls : Array Slot) (cs ss : Nat), f_L_law_h113 F L xs (f_L_law_l13 F L xs n13) (f_L_law_l55 F L xs (f_L_law_l13 F L xs n13) n55) x2 x3 x6 x7 x8 t0 S = some o → sd_EE al_L_law E0 E → si_Cx p s m args c cL_law 15 yL_law.cls E A → si_Ws E A s.heap S H locs → sd_Ct S0 S cs ss → lv_has ls 15 [(0, .ref b), (1, .ref (E.2.1 0)), (2, .int x2), (3, .int x3), (4, .ref (E.2.1 92)), (5, .ref (E.2.1 98)), (6, .int x6), (7, .int x7), (8, .int x8)] → W p l e room_1 s m args below meth c H locs cs ss Q (F0 m 113 ls [.int t0]) := by
            intro x2 x3 x6 x7 x8 t0  E S H locs ls cs ss hf hE X hw hc hl
            have hcs := sd_room hc (mo_L_law_h113 F L xs (f_L_law_l13 F L xs n13) (f_L_law_l55 F L xs (f_L_law_l13 F L xs n13) n55) (mo_L_law_l13 F L xs n13) (mo_L_law_l55 F L xs (f_L_law_l13 F L xs n13) (mo_L_law_l13 F L xs n13) n55) _ _ _ _ _ _ _ _ hf) hR
            unfold f_L_law_h113 at hf
            refine lv_istore (lv' := [(9, .int t0), (0, .ref b), (1, .ref (E.2.1 0)), (2, .int x2), (3, .int x3), (4, .ref (E.2.1 92)), (5, .ref (E.2.1 98)), (6, .int x6), (7, .int x7), (8, .int x8)]) X.1 X.2.1 dL_law_113 hl (by decide) rfl (fun ls hl => ?_)
            exact B115 F _ _ _ _ _ _ _ _ _ _ _ _ _ hf hE X hw hc (lv_sub hl [1, 2, 3, 4, 5, 6, 7, 8, 9, 0] rfl)
          have B89 : ∀ (x2 : Int32) (x3 : Int32) (x6 : Int32) (x7 : Int32) (E : si_Ev) (S : si_St) (H : Heap) (locs : List Loc) (ls : Array Slot) (cs ss : Nat), f_L_law_h89 F L xs (f_L_law_l13 F L xs n13) (f_L_law_l55 F L xs (f_L_law_l13 F L xs n13) n55) x2 x3 x6 x7 S = some o → sd_EE al_L_law E0 E → si_Cx p s m args c cL_law 15 yL_law.cls E A → si_Ws E A s.heap S H locs → sd_Ct S0 S cs ss → lv_has ls 15 [(0, .ref b), (1, .ref (E.2.1 0)), (2, .int x2), (3, .int x3), (4, .ref (E.2.1 92)), (5, .ref (E.2.1 98)), (6, .int x6), (7, .int x7)] → W p l e room_1 s m args below meth c H locs cs ss Q (F0 m 89 ls []) := by
            intro x2 x3 x6 x7  E S H locs ls cs ss hf hE X hw hc hl
            have hcs := sd_room hc (mo_L_law_h89 F L xs (f_L_law_l13 F L xs n13) (f_L_law_l55 F L xs (f_L_law_l13 F L xs n13) n55) (mo_L_law_l13 F L xs n13) (mo_L_law_l55 F L xs (f_L_law_l13 F L xs n13) (mo_L_law_l13 F L xs n13) n55) _ _ _ _ _ _ hf) hR
            unfold f_L_law_h89 at hf
            refine lv_iconst (v := 0) X.1 X.2.1 dL_law_89 (by decide) ?_
            refine lv_istore (lv' := [(8, .int 0), (0, .ref b), (1, .ref (E.2.1 0)), (2, .int x2), (3, .int x3), (4, .ref (E.2.1 92)), (5, .ref (E.2.1 98)), (6, .int x6), (7, .int x7)]) X.1 X.2.1 dL_law_90 hl (by decide) rfl (fun ls hl => ?_)
            refine lv_aload X.1 X.2.1 dL_law_92 (lv_at hl 5 rfl) ?_
            have hgr94 : sd_ok S 92 ∧ S.1 92 3 ≠ 0 := Decidable.byContradiction fun h9 => by rw [if_pos h9] at hf; cases hf
            have hf := si_in (not_not_intro hgr94) hf
            refine sd_getR X hw sd_cl22 3 (by decide) (Or.inr ⟨_, List.mem_of_getElem? (i := 15) rfl⟩) rfl rfl rfl hgr94 dL_law_94 ?_
            refine lv_iconst (v := 2) X.1 X.2.1 dL_law_97 (by decide) ?_
            refine lv_iload X.1 X.2.1 dL_law_98 (lv_at hl 7 rfl) ?_
            refine lv_imul X.1 X.2.1 dL_law_100 ?_
            refine lv_iconst (v := 1) X.1 X.2.1 dL_law_101 (by decide) ?_
            refine lv_iadd X.1 X.2.1 dL_law_102 ?_
            obtain ⟨v32, ev32, hf⟩ := si_ob hf
            refine sd_iald X hw rfl ev32 dL_law_103 ?_
            refine lv_iconst (v := 1) X.1 X.2.1 dL_law_104 (by decide) ?_
            refine lv_icmp_ne (tgt := 112) X.1 X.2.1 dL_law_105 (by decide) (fun c105 => ?_) (fun c105 => ?_)
            · have hf := si_in c105 hf
              refine lv_iconst (v := 1) X.1 X.2.1 dL_law_112 (by decide) ?_
              exact B113 _ _ _ _ _ _ _ _ _ _ _ _ _ hf hE X hw hc (lv_sub hl [1, 2, 3, 4, 5, 6, 7, 8, 0] rfl)
            · have hf := si_ip c105 hf
              refine lv_iconst (v := 0) X.1 X.2.1 dL_law_108 (by decide) ?_
              refine lv_goto (tgt := 113) X.1 X.2.1 dL_law_109 (by decide) ?_
              exact B113 _ _ _ _ _ _ _ _ _ _ _ _ _ hf hE X hw hc (lv_sub hl [1, 2, 3, 4, 5, 6, 7, 8, 0] rfl)
          intro x2 x3 x6  E S H locs ls cs ss hf hE X hw hc hl
          have hf : f_L_law_h55 F L xs (f_L_law_l13 F L xs n13) (f_L_law_l55 F L xs (f_L_law_l13 F L xs n13) n55) x2 x3 x6 S = some o := hf
          have ih_mo := mo_L_law_l55 F L xs (f_L_law_l13 F L xs n13) (mo_L_law_l13 F L xs n13) n55
          have hcs := sd_room hc (mo_L_law_h55 F L xs (f_L_law_l13 F L xs n13) (f_L_law_l55 F L xs (f_L_law_l13 F L xs n13) n55) (mo_L_law_l13 F L xs n13) ih_mo _ _ _ _ _ hf) hR
          unfold f_L_law_h55 at hf
          refine lv_iload X.1 X.2.1 dL_law_55 (lv_at hl 6 rfl) ?_
          refine lv_aload X.1 X.2.1 dL_law_57 (lv_at hl 4 rfl) ?_
          have hgr59 : sd_ok S 92 ∧ S.1 92 3 ≠ 0 := Decidable.byContradiction fun h9 => by rw [if_pos h9] at hf; cases hf
          have hf := si_in (not_not_intro hgr59) hf
          refine sd_getR X hw sd_cl22 3 (by decide) (Or.inr ⟨_, List.mem_of_getElem? (i := 15) rfl⟩) rfl rfl rfl hgr59 dL_law_59 ?_
          obtain ⟨v33, ev33, hf⟩ := si_ob hf
          refine sd_alen X hw (Or.inr rfl) ev33 dL_law_62 ?_
          refine lv_iconst (v := 2) X.1 X.2.1 dL_law_63 (by decide) ?_
          refine lv_idiv X.1 X.2.1 dL_law_64 (by decide) ?_
          refine lv_icmp_ge (tgt := 416) X.1 X.2.1 dL_law_65 (by decide) (fun c65 => ?_) (fun c65 => ?_)
          · have hf := si_ip c65 hf
            obtain ⟨v34, ev34, hf⟩ := si_ob hf
            refine lv_iinc (v := v34) (lv' := [(3, .int v34), (0, .ref b), (1, .ref (E.2.1 0)), (2, .int x2), (4, .ref (E.2.1 92)), (5, .ref (E.2.1 98)), (6, .int x6)]) X.1 X.2.1 dL_law_416 hl (k := 3) rfl (Option.some.inj ev34) (by decide) rfl (fun ls hl => ?_)
            refine lv_goto (tgt := 13) X.1 X.2.1 dL_law_419 (by decide) ?_
            exact ih13 _ _ _ _ _ _ _ _ _ hf hE X hw hc (lv_sub hl [1, 2, 3, 0] rfl)
          · have hf := si_in c65 hf
            refine lv_aload X.1 X.2.1 dL_law_68 (lv_at hl 4 rfl) ?_
            have hgr70 : sd_ok S 92 ∧ S.1 92 3 ≠ 0 := Decidable.byContradiction fun h9 => by rw [if_pos h9] at hf; cases hf
            have hf := si_in (not_not_intro hgr70) hf
            refine sd_getR X hw sd_cl22 3 (by decide) (Or.inr ⟨_, List.mem_of_getElem? (i := 15) rfl⟩) rfl rfl rfl hgr70 dL_law_70 ?_
            refine lv_iconst (v := 2) X.1 X.2.1 dL_law_73 (by decide) ?_
            refine lv_iload X.1 X.2.1 dL_law_74 (lv_at hl 6 rfl) ?_
            refine lv_imul X.1 X.2.1 dL_law_76 ?_
            obtain ⟨v35, ev35, hf⟩ := si_ob hf
            refine sd_iald X hw rfl ev35 dL_law_77 ?_
            refine lv_istore (lv' := [(7, .int v35), (0, .ref b), (1, .ref (E.2.1 0)), (2, .int x2), (3, .int x3), (4, .ref (E.2.1 92)), (5, .ref (E.2.1 98)), (6, .int x6)]) X.1 X.2.1 dL_law_78 hl (by decide) rfl (fun ls hl => ?_)
            refine lv_iload X.1 X.2.1 dL_law_80 (lv_at hl 0 rfl) ?_
            refine lv_iconst (v := 5) X.1 X.2.1 dL_law_82 (by decide) ?_
            refine lv_icmp_le (tgt := 89) X.1 X.2.1 dL_law_83 (by decide) (fun c83 => ?_) (fun c83 => ?_)
            · have hf := si_ip c83 hf
              exact B89 _ _ _ _ _ _ _ _ _ _ _ hf hE X hw hc (lv_sub hl [1, 2, 3, 4, 5, 6, 7, 0] rfl)
            · have hf := si_in c83 hf
              refine lv_iconst (v := 0) X.1 X.2.1 dL_law_86 (by decide) ?_
              refine lv_istore (lv' := [(7, .int 0), (0, .ref b), (1, .ref (E.2.1 0)), (2, .int x2), (3, .int x3), (4, .ref (E.2.1 92)), (5, .ref (E.2.1 98)), (6, .int x6)]) X.1 X.2.1 dL_law_87 hl (by decide) rfl (fun ls hl => ?_)
              exact B89 _ _ _ _ _ _ _ _ _ _ _ hf hE X hw hc (lv_sub hl [1, 2, 3, 4, 5, 6, 7, 0] rfl)
      have B42 : ∀ (x2 : Int32) (x3 : Int32) (E : si_Ev) (S : si_St) (H : Heap) (locs : List Loc) (ls : Array Slot) (cs ss : Nat), f_L_law_h42 F L xs (f_L_law_l13 F L xs n13) x2 x3 S = some o → sd_EE al_L_law E0 E → si_Cx p s m args c cL_law 15 yL_law.cls E A → si_Ws E A s.heap S H locs → sd_Ct S0 S cs ss → lv_has ls 15 [(0, .ref b), (1, .ref (E.2.1 0)), (2, .int x2), (3, .int x3), (4, .ref (E.2.1 92))] → W p l e room_1 s m args below meth c H locs cs ss Q (F0 m 42 ls [.ref (E.2.1 98)]) := by
        intro x2 x3  E S H locs ls cs ss hf hE X hw hc hl
        have hcs := sd_room hc (mo_L_law_h42 F L xs (f_L_law_l13 F L xs n13) (mo_L_law_l13 F L xs n13) _ _ _ _ hf) hR
        unfold f_L_law_h42 at hf
        refine lv_dup X.1 X.2.1 dL_law_42 rfl ?_
        refine lv_iconst (v := 0) X.1 X.2.1 dL_law_43 (by decide) ?_
        refine lv_aload_n X.1 X.2.1 dL_law_44 rfl (lv_at hl 0 rfl) ?_
        refine lv_iload_n X.1 X.2.1 dL_law_45 rfl (lv_at hl 3 rfl) ?_
        obtain ⟨v36, ev36, hf⟩ := si_ob hf
        refine si_sld X hX hbl hbA hw.2.2 ev36 dL_law_46 ?_
        refine lv_iconst (v := 1) X.1 X.2.1 dL_law_47 (by decide) ?_
        refine lv_iadd X.1 X.2.1 dL_law_48 ?_
        obtain ⟨S37, eS37, hf⟩ := si_ob hf
        refine sd_iast X hw rfl eS37 dL_law_49 (fun H locs hw => ?_)
        have hc := hc.up (sd_wr_m eS37)
        refine lv_astore (lv' := [(5, .ref (E.2.1 98)), (0, .ref b), (1, .ref (E.2.1 0)), (2, .int x2), (3, .int x3), (4, .ref (E.2.1 92))]) X.1 X.2.1 dL_law_50 hl (by decide) rfl (fun ls hl => ?_)
        refine lv_iconst (v := 0) X.1 X.2.1 dL_law_52 (by decide) ?_
        refine lv_istore (lv' := [(6, .int 0), (5, .ref (E.2.1 98)), (0, .ref b), (1, .ref (E.2.1 0)), (2, .int x2), (3, .int x3), (4, .ref (E.2.1 92))]) X.1 X.2.1 dL_law_53 hl (by decide) rfl (fun ls hl => ?_)
        exact B55 F _ _ _ _ _ _ _ _ _ _ hf hE X hw hc (lv_sub hl [2, 3, 4, 5, 6, 1, 0] rfl)
      have B30 : ∀ (x2 : Int32) (x3 : Int32) (E : si_Ev) (S : si_St) (H : Heap) (locs : List Loc) (ls : Array Slot) (cs ss : Nat), f_L_law_h30 F L xs (f_L_law_l13 F L xs n13) x2 x3 S = some o → sd_EE al_L_law E0 E → si_Cx p s m args c cL_law 15 yL_law.cls E A → si_Ws E A s.heap S H locs → sd_Ct S0 S cs ss → lv_has ls 15 [(0, .ref b), (1, .ref (E.2.1 0)), (2, .int x2), (3, .int x3)] → W p l e room_1 s m args below meth c H locs cs ss Q (F0 m 30 ls [.ref (E.2.1 92)]) := by
        intro x2 x3  E S H locs ls cs ss hf hE X hw hc hl
        have hcs := sd_room hc (mo_L_law_h30 F L xs (f_L_law_l13 F L xs n13) (mo_L_law_l13 F L xs n13) _ _ _ _ hf) hR
        unfold f_L_law_h30 at hf
        refine lv_astore (lv' := [(4, .ref (E.2.1 92)), (0, .ref b), (1, .ref (E.2.1 0)), (2, .int x2), (3, .int x3)]) X.1 X.2.1 dL_law_30 hl (by decide) rfl (fun ls hl => ?_)
        refine lv_aload X.1 X.2.1 dL_law_32 (lv_at hl 0 rfl) ?_
        refine lv_ifnonnull (tgt := 39) X.1 X.2.1 dL_law_34 (by decide) ?_
        refine lv_iconst (v := 1) X.1 X.2.1 dL_law_39 (by decide) ?_
        obtain ⟨S38, eS38, hf⟩ := si_ob hf
        refine sd_newI X hw hA hE hc hR ga_int rfl rfl eS38 (mo_L_law_h42 F L xs (f_L_law_l13 F L xs n13) (mo_L_law_l13 F L xs n13) _ _ _ _ hf) dL_law_40 (fun E H cs ss hZ hE X hw hc => ?_)
        rw [← hZ.at 92 rfl] at hl
        rw [← hZ.at 0 rfl] at hl
        exact B42 _ _ _ _ _ _ _ _ _ hf hE X hw hc (lv_sub hl [1, 2, 3, 4, 0] rfl)
      intro x2 x3  E S H locs ls cs ss hf hE X hw hc hl
      have hf : f_L_law_h13 F L xs (f_L_law_l13 F L xs n13) x2 x3 S = some o := hf
      have ih_mo := mo_L_law_l13 F L xs n13
      have hcs := sd_room hc (mo_L_law_h13 F L xs (f_L_law_l13 F L xs n13) ih_mo _ _ _ _ hf) hR
      unfold f_L_law_h13 at hf
      refine lv_iload_n X.1 X.2.1 dL_law_13 rfl (lv_at hl 3 rfl) ?_
      refine lv_iload_n X.1 X.2.1 dL_law_14 rfl (lv_at hl 2 rfl) ?_
      refine lv_icmp_ge (tgt := 422) X.1 X.2.1 dL_law_15 (by decide) (fun c15 => ?_) (fun c15 => ?_)
      · have hf := si_ip c15 hf
        exact B422 _ _ _ _ _ _ _ hf hE X hw hc (lv_sub hl [1] rfl)
      · have hf := si_in c15 hf
        refine lv_iload_n X.1 X.2.1 dL_law_18 rfl (lv_at hl 3 rfl) ?_
        refine lv_iconst (v := 5) X.1 X.2.1 dL_law_19 (by decide) ?_
        refine lv_icmp_ge (tgt := 422) X.1 X.2.1 dL_law_20 (by decide) (fun c20 => ?_) (fun c20 => ?_)
        · have hf := si_ip c20 hf
          exact B422 _ _ _ _ _ _ _ hf hE X hw hc (lv_sub hl [1] rfl)
        · have hf := si_in c20 hf
          refine lv_aload_n X.1 X.2.1 dL_law_23 rfl (lv_at hl 1 rfl) ?_
          refine lv_aload_n X.1 X.2.1 dL_law_24 rfl (lv_at hl 0 rfl) ?_
          refine lv_iload_n X.1 X.2.1 dL_law_25 rfl (lv_at hl 3 rfl) ?_
          obtain ⟨v39, ev39, hf⟩ := si_ob hf
          refine si_sld X hX hbl hbA hw.2.2 ev39 dL_law_26 ?_
          obtain ⟨S40, eS40, hf⟩ := si_ob hf
          refine sd_gor (sd_runS (As := [.ref (E.2.1 0), .int v39]) (rest := []) cal_L_loads gm_RL_112 X hw hA hl.1 ((c_L_loads l E F v39 S S40 eS40) H.size) ⟨Nat.le_of_ble_eq_true rfl, Nat.le_of_ble_eq_true rfl⟩ rfl (Nat.le_of_ble_eq_true rfl) (sd_room2 hc (mo_L_loads F v39 S S40 eS40) (mo_L_law_h30 F L xs (f_L_law_l13 F L xs n13) (mo_L_law_l13 F L xs n13) _ _ _ _ hf) hR) dL_law_27) X hw hA hE hc (mo_L_loads F v39 S S40 eS40) (sd_als_L_law_L_loads) (fun E H locs cs ss hZ hE X hw hc => ?_)
          rw [← hZ.at 0 rfl] at hl
          exact B30 _ _ _ _ _ _ _ _ _ hf hE X hw hc (lv_sub hl [0, 1, 2, 3] rfl)
  have B8 : ∀ (E : si_Ev) (S : si_St) (H : Heap) (locs : List Loc) (ls : Array Slot) (cs ss : Nat), f_L_law_h8 F L xs S = some o → sd_EE al_L_law E0 E → si_Cx p s m args c cL_law 15 yL_law.cls E A → si_Ws E A s.heap S H locs → sd_Ct S0 S cs ss → lv_has ls 15 [(0, .ref b), (1, .ref (E.2.1 0))] → W p l e room_1 s m args below meth c H locs cs ss Q (F0 m 8 ls []) := by
    intro   E S H locs ls cs ss hf hE X hw hc hl
    have hcs := sd_room hc (mo_L_law_h8 F L xs _ _ hf) hR
    unfold f_L_law_h8 at hf
    refine lv_aload_n X.1 X.2.1 dL_law_8 rfl (lv_at hl 0 rfl) ?_
    refine va_slen X.1 X.2.1 hX hbl hbA hw.2.2 dL_law_9 ?_
    obtain ⟨v41, ev41, hf⟩ := si_ob hf
    refine si_nmI ev41 ?_
    refine lv_istore_n (lv' := [(2, .int v41), (0, .ref b), (1, .ref (E.2.1 0))]) X.1 X.2.1 dL_law_10 rfl hl (by decide) rfl (fun ls hl => ?_)
    refine lv_iconst (v := 0) X.1 X.2.1 dL_law_11 (by decide) ?_
    refine lv_istore_n (lv' := [(3, .int 0), (2, .int v41), (0, .ref b), (1, .ref (E.2.1 0))]) X.1 X.2.1 dL_law_12 rfl hl (by decide) rfl (fun ls hl => ?_)
    exact B13 F _ _ _ _ _ _ _ _ _ hf hE X hw hc (lv_sub hl [2, 3, 1, 0] rfl)
  exact B8
